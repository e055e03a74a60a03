/-! ===== orders: the program runs them ===== -/
def AQ (N : Nat) (h H : MH) : Prop := (hsz H = hsz h ∧ hcc H = hcc h ∧ hcu H = hcu h ∧ SHE h H ∧ hja H = hja h) ∧ (∀ a, a ≠ N → a ≠ 24 → (a < 40 ∨ 212 < a) → hfi H a = hfi h a) ∧ (∀ k, k ≠ 15 → hfi H 24 k = hfi h 24 k) ∧ ∀ a, (a ≤ N ∨ N + 9 < a) → (a < 42 ∨ 212 < a) → a ≠ 219 → a ≠ 220 → a ≠ 243 → hia H a = hia h a
theorem AQ.refl (N : Nat) (h : MH) : AQ N h h := ⟨⟨rfl, rfl, rfl, SHE.refl h, rfl⟩, fun _ _ _ _ => rfl, fun _ _ => rfl, fun _ _ _ _ _ _ => rfl⟩
theorem AQ.trans {N : Nat} {a b c : MH} (x : AQ N a b) (y : AQ N b c) : AQ N a c := ⟨⟨y.1.1.trans x.1.1, y.1.2.1.trans x.1.2.1, y.1.2.2.1.trans x.1.2.2.1, x.1.2.2.2.1.trans y.1.2.2.2.1, y.1.2.2.2.2.trans x.1.2.2.2.2⟩, fun p q r s => (y.2.1 p q r s).trans (x.2.1 p q r s), fun p q => (y.2.2.1 p q).trans (x.2.2.1 p q), fun p q r s t u => (y.2.2.2 p q r s t u).trans (x.2.2.2 p q r s t u)⟩
theorem AR.Q {N nx : Nat} {h H : MH} (hN : okN N) (hnx : nx < 17) (x : AR N nx h H) : AQ N h H := by
  have hN' : N = 26 ∨ N = 221 ∨ N = 231 := hN
  obtain ⟨⟨a1, a2, a3, a4, a5, a6⟩, a7, a8⟩ := x
  exact ⟨⟨a1, a2, a3, a4, a6⟩, fun a y1 y2 y3 => a7 a y1 (by omega) (by omega), fun k _ => by rw [a7 24 (by omega) (by omega) (by omega)], fun a y1 y2 y3 y4 y5 => a8 a y1 (by omega) y3 y4 (by omega)⟩
theorem TFy.Q {N : Nat} {h H : MH} (x : TFy h H) : AQ N h H := ⟨x.1, fun a _ _ _ => by rw [x.2.1], fun k _ => by rw [x.2.1], fun a _ _ _ y4 y5 => x.2.2 a y4 y5⟩
theorem AQ_i {N : Nat} (h : MH) {a : Nat} (ha : a = 219 ∨ a = 220) (f : Nat → Int32) : AQ N h (sIA h a f) := ⟨⟨rfl, rfl, rfl, SHE.refl h, rfl⟩, fun _ _ _ _ => rfl, fun _ _ => rfl, fun b _ _ b1 b2 _ => hia_n _ _ (by omega)⟩
theorem AQ_st {N : Nat} (h : MH) (v : Int32) : AQ N h (sFI h 24 (up1 (hfi h 24) 15 v)) := ⟨⟨rfl, rfl, rfl, SHE.refl h, rfl⟩, fun a _ y _ => hfi_nn _ _ y, fun k hk => by rw [hfi_s, up1_n _ _ hk], fun _ _ _ _ _ _ => rfl⟩
theorem AQ.L {N : Nat} {h H : MH} (hN : okN N) (x : AQ N h H) {p q : RW} {Lo : Option LWS} {lv : Value} (lo : LO p q) (l : LV h p Lo lv) : LV H q Lo lv := by
  have hN' : N = 26 ∨ N = 221 ∨ N = 231 := hN
  exact LV_p lo (LV_e x.1.2.2.2.1 (x.2.1 25 (by omega) (by omega) (by omega)) (fun a ha => ⟨x.2.1 a (by omega) (by omega) (by omega), x.2.2.2 a (by omega) (by omega) (by omega) (by omega) (by omega)⟩) l)
theorem PXg_q {N : Nat} {h H : MH} (hN : okN N) (x : AQ N h H) {a om : Nat} {cs : List CLA} (g : PXg h a om cs) : PXg H a om cs := by
  have hN' : N = 26 ∨ N = 221 ∨ N = 231 := hN
  obtain ⟨M, g1, g2⟩ := g
  have a3 := g1.2.1
  refine ⟨M, PXs_e x.1.2.2.2.1 (x.2.1 a (by omega) (by omega) (by omega)) g1, ?_⟩
  rw [x.2.2.2 (a + 1) (by omega) (by omega) (by omega) (by omega) (by omega), x.2.2.2 (a + 2) (by omega) (by omega) (by omega) (by omega) (by omega)]
  exact g2
theorem RgX_t {N : Nat} {h H : MH} {nx : Nat} {g : RGy} (hN : okN N) (e40 : hfi H 40 = hfi h 40) (en : ∀ i, i < 17 → hfi H (43 + 10 * i) = hfi h (43 + 10 * i)) (ei : ∀ a, 42 ≤ a → a ≤ 212 → hia H a = hia h a) (r : RgX h nx g) : RgX H nx g := RgX_keep e40 (fun i hi _ => ⟨en i hi, fun a y1 y2 => ei a (by omega) (by omega)⟩) (ei 42 (by omega) (by omega)) r
theorem tvO_1 {T : Option VAL} {e : EV} (hb : ∀ v, T = some v → ∀ x, v e = some x → bd x) : tv T e = nI 1 ↔ holB T e = true := by
  cases T with
  | none => exact ⟨fun _ => rfl, fun _ => rfl⟩
  | some v =>
    show vI (v e) = nI 1 ↔ decide (v e = some 1) = true
    rw [vI_1 (hb v rfl), decide_eq_true_iff]
def rgQ (kp : Nat) (g0 : RGy) (s : OS) : RGy := if kp = 1 then s.2.2.2 else g0
/-- what holds along a run of the program -/
def RIx (N kp : Nat) (h : MH) (p : RW) (g0 : RGy) (M : Nat) (H : MH) (s : OS) : Prop := AQ N h H ∧ NeV H N s.1 ∧ OI p M s ∧ hfi H 24 15 = hfi h 24 15 ∧ ∃ nx, RgX H nx (rgQ kp g0 s)
theorem RIx.mono {N kp : Nat} {h : MH} {p : RW} {g0 : RGy} {M M' : Nat} {H : MH} {s : OS} (x : RIx N kp h p g0 M H s) (hm : M ≤ M') : RIx N kp h p g0 M' H s := ⟨x.1, x.2.1, x.2.2.1.mono hm, x.2.2.2⟩
theorem AR_eo {N nx : Nat} (hN : N = 26 ∨ N = 221 ∨ N = 231) (hnx : nx < 17) {h H : MH} (ar : AR N nx h H) : ∀ i, i < 17 → i ≠ nx → hfi H (43 + 10 * i) = hfi h (43 + 10 * i) ∧ ∀ a, 43 + 10 * i < a → a ≤ 43 + 10 * i + 9 → hia H a = hia h a := fun i hi ne => ⟨ar.2.1 _ (by omega) (by omega) (by omega), fun a y1 y2 => ar.2.2 a (by omega) (by omega) (by omega) (by omega) (by omega)⟩
theorem AR_24 {N nx : Nat} (hN : N = 26 ∨ N = 221 ∨ N = 231) {h H : MH} (ar : AR N nx h H) : hfi H 24 = hfi h 24 := ar.2.1 24 (by omega) (by omega) (by omega)
theorem RgX_1 {h H : MH} {nx kd : Nat} {g0 : RGy} {s s' : OS} {p : RW} (hkd3 : kd < 3) (r : RgX h nx (rgQ 1 g0 s)) (iv : IV p) (z3 : hfi H 40 = up1 (up1 (hfi h 40) 2 (nI ((nx + 1) % 17))) 3 (nI (min 16 ((rgQ 1 g0 s).1 + 1)))) (eo : ∀ i, i < 17 → i ≠ nx → hfi H (43 + 10 * i) = hfi h (43 + 10 * i) ∧ ∀ a, 43 + 10 * i < a → a ≤ 43 + 10 * i + 9 → hia H a = hia h a) (z1 : NeV H (43 + 10 * nx) p) (z2 : hia H 42 = up1 (hia h 42) nx (nI kd)) (es : s'.2.2.2 = rgU s.2.2.2 p kd) : RgX H ((nx + 1) % 17) (rgQ 1 g0 s') := by
  have e1 : ∀ s : OS, rgQ 1 g0 s = s.2.2.2 := fun s => if_pos rfl
  rw [e1] at r z3 ⊢
  rw [es]
  exact RgX_push hkd3 r iv ⟨by rw [z3, up1_n _ _ (by omega), up1_s], by rw [z3, up1_s]⟩ eo z1 z2
set_option maxRecDepth 20000 in
theorem UC_Di_run_157 {G : GT} (hG : Gmono G) (R : RT) (lm : Nat × Nat) : WP cd_Di_run G R lm 0 = stp G R lm (7, 1, 0, 0, nI 0, 0, []) (WP cd_Di_run G R lm) ∧ WP cd_Di_run G R lm 1 = stp G R lm (4, 3, 4, 0, 0, 0, []) (WP cd_Di_run G R lm) ∧ WP cd_Di_run G R lm 3 = stp G R lm (7, 4, 0, 0, (-1), 0, []) (WP cd_Di_run G R lm) ∧ WP cd_Di_run G R lm 4 = stp G R lm (4, 6, 5, 0, 0, 0, []) (WP cd_Di_run G R lm) ∧ WP cd_Di_run G R lm 6 = stp G R lm (7, 7, 0, 0, nI 0, 0, []) (WP cd_Di_run G R lm) ∧ WP cd_Di_run G R lm 7 = stp G R lm (4, 9, 6, 0, 0, 0, []) (WP cd_Di_run G R lm) ∧ WP cd_Di_run G R lm 11 = stp G R lm (2, 12, 1, 0, 0, 0, []) (WP cd_Di_run G R lm) ∧ WP cd_Di_run G R lm 12 = stp G R lm (56, 15, 3, 2, 0, 0, []) (WP cd_Di_run G R lm) ∧ WP cd_Di_run G R lm 15 = stp G R lm (44, 18, 169, 0, 0, 0, []) (WP cd_Di_run G R lm) ∧ WP cd_Di_run G R lm 18 = stp G R lm (2, 19, 1, 0, 0, 0, []) (WP cd_Di_run G R lm) ∧ WP cd_Di_run G R lm 19 = stp G R lm (1, 21, 6, 0, 0, 0, []) (WP cd_Di_run G R lm) ∧ WP cd_Di_run G R lm 21 = stp G R lm (86, 24, 41, 1, 0, 0, [3]) (WP cd_Di_run G R lm) ∧ WP cd_Di_run G R lm 24 = stp G R lm (4, 26, 7, 0, 0, 0, []) (WP cd_Di_run G R lm) ∧ WP cd_Di_run G R lm 26 = stp G R lm (2, 27, 1, 0, 0, 0, []) (WP cd_Di_run G R lm) ∧ WP cd_Di_run G R lm 27 = stp G R lm (1, 29, 6, 0, 0, 0, []) (WP cd_Di_run G R lm) ∧ WP cd_Di_run G R lm 29 = stp G R lm (86, 32, 42, 1, 0, 0, [3]) (WP cd_Di_run G R lm) ∧ WP cd_Di_run G R lm 32 = stp G R lm (4, 34, 8, 0, 0, 0, []) (WP cd_Di_run G R lm) ∧ WP cd_Di_run G R lm 34 = stp G R lm (7, 35, 0, 0, nI 0, 0, []) (WP cd_Di_run G R lm) ∧ WP cd_Di_run G R lm 35 = stp G R lm (4, 37, 9, 0, 0, 0, []) (WP cd_Di_run G R lm) ∧ WP cd_Di_run G R lm 39 = stp G R lm (1, 41, 8, 0, 0, 0, []) (WP cd_Di_run G R lm) ∧ WP cd_Di_run G R lm 41 = stp G R lm (44, 44, 163, 0, 0, 0, []) (WP cd_Di_run G R lm) ∧ WP cd_Di_run G R lm 44 = stp G R lm (2, 45, 0, 0, 0, 0, []) (WP cd_Di_run G R lm) ∧ WP cd_Di_run G R lm 45 = stp G R lm (58, 48, 7, 5, 0, 0, []) (WP cd_Di_run G R lm) ∧ WP cd_Di_run G R lm 48 = stp G R lm (2, 49, 2, 0, 0, 0, []) (WP cd_Di_run G R lm) ∧ WP cd_Di_run G R lm 49 = stp G R lm (1, 51, 4, 0, 0, 0, []) (WP cd_Di_run G R lm) ∧ WP cd_Di_run G R lm 51 = stp G R lm (1, 53, 5, 0, 0, 0, []) (WP cd_Di_run G R lm) ∧ WP cd_Di_run G R lm 53 = stp G R lm (86, 56, 8, 3, 0, 0, [1]) (WP cd_Di_run G R lm) ∧ WP cd_Di_run G R lm 56 = stp G R lm (2, 57, 0, 0, 0, 0, []) (WP cd_Di_run G R lm) ∧ WP cd_Di_run G R lm 57 = stp G R lm (58, 60, 7, 5, 0, 0, []) (WP cd_Di_run G R lm) ∧ WP cd_Di_run G R lm 60 = stp G R lm (2, 61, 1, 0, 0, 0, []) (WP cd_Di_run G R lm) ∧ WP cd_Di_run G R lm 61 = stp G R lm (2, 62, 1, 0, 0, 0, []) (WP cd_Di_run G R lm) ∧ WP cd_Di_run G R lm 62 = stp G R lm (1, 64, 6, 0, 0, 0, []) (WP cd_Di_run G R lm) ∧ WP cd_Di_run G R lm 64 = stp G R lm (86, 67, 43, 1, 0, 0, [3]) (WP cd_Di_run G R lm) ∧ WP cd_Di_run G R lm 67 = stp G R lm (86, 70, 14, 2, 0, 0, [1]) (WP cd_Di_run G R lm) ∧ WP cd_Di_run G R lm 70 = stp G R lm (7, 71, 0, 0, nI 1, 0, []) (WP cd_Di_run G R lm) ∧ WP cd_Di_run G R lm 71 = stp G R lm (41, 74, 77, 0, 0, 0, []) (WP cd_Di_run G R lm) ∧ WP cd_Di_run G R lm 74 = stp G R lm (40, 157, 0, 0, 0, 0, []) (WP cd_Di_run G R lm) ∧ WP cd_Di_run G R lm 77 = stp G R lm (7, 79, 0, 0, (-3), 0, []) (WP cd_Di_run G R lm) ∧ WP cd_Di_run G R lm 79 = stp G R lm (4, 81, 10, 0, 0, 0, []) (WP cd_Di_run G R lm) ∧ WP cd_Di_run G R lm 81 = stp G R lm (2, 82, 0, 0, 0, 0, []) (WP cd_Di_run G R lm) ∧ WP cd_Di_run G R lm 82 = stp G R lm (58, 85, 7, 5, 0, 0, []) (WP cd_Di_run G R lm) ∧ WP cd_Di_run G R lm 85 = stp G R lm (2, 86, 1, 0, 0, 0, []) (WP cd_Di_run G R lm) ∧ WP cd_Di_run G R lm 86 = stp G R lm (1, 88, 6, 0, 0, 0, []) (WP cd_Di_run G R lm) ∧ WP cd_Di_run G R lm 88 = stp G R lm (2, 89, 0, 0, 0, 0, []) (WP cd_Di_run G R lm) ∧ WP cd_Di_run G R lm 89 = stp G R lm (58, 92, 7, 11, 0, 0, []) (WP cd_Di_run G R lm) ∧ WP cd_Di_run G R lm 92 = stp G R lm (86, 95, 13, 3, 0, 0, [1]) (WP cd_Di_run G R lm) ∧ WP cd_Di_run G R lm 95 = stp G R lm (47, 98, 126, 0, 0, 0, []) (WP cd_Di_run G R lm) ∧ WP cd_Di_run G R lm 98 = stp G R lm (2, 99, 0, 0, 0, 0, []) (WP cd_Di_run G R lm) ∧ WP cd_Di_run G R lm 99 = stp G R lm (2, 100, 2, 0, 0, 0, []) (WP cd_Di_run G R lm) ∧ WP cd_Di_run G R lm 100 = stp G R lm (1, 101, 3, 0, 0, 0, []) (WP cd_Di_run G R lm) ∧ WP cd_Di_run G R lm 101 = stp G R lm (1, 103, 7, 0, 0, 0, []) (WP cd_Di_run G R lm) ∧ WP cd_Di_run G R lm 103 = stp G R lm (2, 104, 0, 0, 0, 0, []) (WP cd_Di_run G R lm) ∧ WP cd_Di_run G R lm 104 = stp G R lm (58, 107, 7, 11, 0, 0, []) (WP cd_Di_run G R lm) ∧ WP cd_Di_run G R lm 107 = stp G R lm (7, 108, 0, 0, nI 0, 0, []) (WP cd_Di_run G R lm) ∧ WP cd_Di_run G R lm 108 = stp G R lm (62, 109, 0, 0, 0, 0, []) (WP cd_Di_run G R lm) ∧ WP cd_Di_run G R lm 109 = stp G R lm (2, 110, 0, 0, 0, 0, []) (WP cd_Di_run G R lm) ∧ WP cd_Di_run G R lm 110 = stp G R lm (58, 113, 7, 11, 0, 0, []) (WP cd_Di_run G R lm) ∧ WP cd_Di_run G R lm 113 = stp G R lm (7, 114, 0, 0, nI 1, 0, []) (WP cd_Di_run G R lm) ∧ WP cd_Di_run G R lm 114 = stp G R lm (62, 115, 0, 0, 0, 0, []) (WP cd_Di_run G R lm) ∧ WP cd_Di_run G R lm 115 = stp G R lm (2, 116, 0, 0, 0, 0, []) (WP cd_Di_run G R lm) ∧ WP cd_Di_run G R lm 116 = stp G R lm (58, 119, 7, 11, 0, 0, []) (WP cd_Di_run G R lm) ∧ WP cd_Di_run G R lm 119 = stp G R lm (7, 120, 0, 0, nI 2, 0, []) (WP cd_Di_run G R lm) ∧ WP cd_Di_run G R lm 120 = stp G R lm (62, 121, 0, 0, 0, 0, []) (WP cd_Di_run G R lm) ∧ WP cd_Di_run G R lm 121 = stp G R lm (86, 124, 120, 6, 0, 0, [7]) (WP cd_Di_run G R lm) ∧ WP cd_Di_run G R lm 124 = stp G R lm (4, 126, 10, 0, 0, 0, []) (WP cd_Di_run G R lm) ∧ WP cd_Di_run G R lm 126 = stp G R lm (1, 128, 10, 0, 0, 0, []) (WP cd_Di_run G R lm) ∧ WP cd_Di_run G R lm 128 = stp G R lm (50, 131, 139, 0, 0, 0, []) (WP cd_Di_run G R lm) ∧ WP cd_Di_run G R lm 131 = stp G R lm (2, 132, 0, 0, 0, 0, []) (WP cd_Di_run G R lm) ∧ WP cd_Di_run G R lm 132 = stp G R lm (1, 134, 6, 0, 0, 0, []) (WP cd_Di_run G R lm) ∧ WP cd_Di_run G R lm 134 = stp G R lm (59, 137, 7, 15, 0, 0, []) (WP cd_Di_run G R lm) ∧ WP cd_Di_run G R lm 137 = stp G R lm (7, 138, 0, 0, (-1), 0, []) (WP cd_Di_run G R lm) ∧ WP cd_Di_run G R lm 138 = stp G R lm (81, 139, 0, 0, 0, 0, []) (WP cd_Di_run G R lm) ∧ WP cd_Di_run G R lm 139 = stp G R lm (11, 142, 4, 0, nI 1, 0, []) (WP cd_Di_run G R lm) ∧ WP cd_Di_run G R lm 142 = stp G R lm (1, 144, 7, 0, 0, 0, []) (WP cd_Di_run G R lm) ∧ WP cd_Di_run G R lm 144 = stp G R lm (7, 145, 0, 0, nI 1, 0, []) (WP cd_Di_run G R lm) ∧ WP cd_Di_run G R lm 145 = stp G R lm (42, 148, 153, 0, 0, 0, []) (WP cd_Di_run G R lm) ∧ WP cd_Di_run G R lm 148 = stp G R lm (1, 150, 10, 0, 0, 0, []) (WP cd_Di_run G R lm) ∧ WP cd_Di_run G R lm 150 = stp G R lm (40, 155, 0, 0, 0, 0, []) (WP cd_Di_run G R lm) ∧ WP cd_Di_run G R lm 153 = stp G R lm (1, 155, 5, 0, 0, 0, []) (WP cd_Di_run G R lm) ∧ WP cd_Di_run G R lm 155 = stp G R lm (4, 157, 5, 0, 0, 0, []) (WP cd_Di_run G R lm) ∧ WP cd_Di_run G R lm 160 = stp G R lm (40, 37, 0, 0, 0, 0, []) (WP cd_Di_run G R lm) ∧ WP cd_Di_run G R lm 163 = stp G R lm (11, 166, 6, 0, nI 1, 0, []) (WP cd_Di_run G R lm) ∧ WP cd_Di_run G R lm 166 = stp G R lm (40, 9, 0, 0, 0, 0, []) (WP cd_Di_run G R lm) ∧ WP cd_Di_run G R lm 169 = stp G R lm (1, 171, 4, 0, 0, 0, []) (WP cd_Di_run G R lm) ∧ WP cd_Di_run G R lm 171 = stp G R lm (81, 172, 0, 0, 0, 0, []) (WP cd_Di_run G R lm) := ⟨WP_eq hG rfl, WP_eq hG rfl, WP_eq hG rfl, WP_eq hG rfl, WP_eq hG rfl, WP_eq hG rfl, WP_eq hG rfl, WP_eq hG rfl, WP_eq hG rfl, WP_eq hG rfl, WP_eq hG rfl, WP_eq hG rfl, WP_eq hG rfl, WP_eq hG rfl, WP_eq hG rfl, WP_eq hG rfl, WP_eq hG rfl, WP_eq hG rfl, WP_eq hG rfl, WP_eq hG rfl, WP_eq hG rfl, WP_eq hG rfl, WP_eq hG rfl, WP_eq hG rfl, WP_eq hG rfl, WP_eq hG rfl, WP_eq hG rfl, WP_eq hG rfl, WP_eq hG rfl, WP_eq hG rfl, WP_eq hG rfl, WP_eq hG rfl, WP_eq hG rfl, WP_eq hG rfl, WP_eq hG rfl, WP_eq hG rfl, WP_eq hG rfl, WP_eq hG rfl, WP_eq hG rfl, WP_eq hG rfl, WP_eq hG rfl, WP_eq hG rfl, WP_eq hG rfl, WP_eq hG rfl, WP_eq hG rfl, WP_eq hG rfl, WP_eq hG rfl, WP_eq hG rfl, WP_eq hG rfl, WP_eq hG rfl, WP_eq hG rfl, WP_eq hG rfl, WP_eq hG rfl, WP_eq hG rfl, WP_eq hG rfl, WP_eq hG rfl, WP_eq hG rfl, WP_eq hG rfl, WP_eq hG rfl, WP_eq hG rfl, WP_eq hG rfl, WP_eq hG rfl, WP_eq hG rfl, WP_eq hG rfl, WP_eq hG rfl, WP_eq hG rfl, WP_eq hG rfl, WP_eq hG rfl, WP_eq hG rfl, WP_eq hG rfl, WP_eq hG rfl, WP_eq hG rfl, WP_eq hG rfl, WP_eq hG rfl, WP_eq hG rfl, WP_eq hG rfl, WP_eq hG rfl, WP_eq hG rfl, WP_eq hG rfl, WP_eq hG rfl, WP_eq hG rfl, WP_eq hG rfl, WP_eq hG rfl, WP_eq hG rfl, WP_eq hG rfl⟩
theorem x_ostep (d N kp a i M t : Nat) (hN : N = 26 ∨ N = 221) (hkp : kp ≤ 1) (hi : i < 12) (hM : M ≤ 5000) {Lo : Option LWS} {lv : Value} {cs : List CLA} {c : CLA} {h : MH} {p : RW} {g0 : RGy} (s0 : XS h) (l : LV h p Lo lv) (pg : PXg h a 1 cs) (hc : cs[i]? = some c) (Q : RT) (lm : Nat × Nat) {H : MH} {s : OS} (w10 : Option Value) (R : RIx N kp h p g0 M H s) (ht : t < c.2.1)
    (Kf : oStep Lo c s = none → ∀ H', AQ N h H' → (∃ nx, kp = 0 → RgX H' nx g0) → hfi H' 24 15 = nI i → Q (some (.int (-1))) H')
    (Ks : ∀ s', oStep Lo c s = some s' → ∀ H' w10, RIx N kp h p g0 (M + 1) H' s' → WP cd_Di_run (callD (d + 7)) Q lm 37 [] [some (.ref 24), some (.ref a), some (.ref N), some (.int (nI kp)), some (.int (nI s'.2.1)), some (.int (iI s'.2.2.1)), some (.int (nI i)), some (.int (nI c.1)), some (.int (nI c.2.1)), some (.int (nI (t + 1))), w10] H') :
    WP cd_Di_run (callD (d + 7)) Q lm 37 [] [some (.ref 24), some (.ref a), some (.ref N), some (.int (nI kp)), some (.int (nI s.2.1)), some (.int (iI s.2.2.1)), some (.int (nI i)), some (.int (nI c.1)), some (.int (nI c.2.1)), some (.int (nI t)), w10] H := by
  have okn : okN N := by unfold okN; omega
  have sj : sepJ N 219 220 := by unfold sepJ; omega
  obtain ⟨aq, V, oi, w24, nx, rg⟩ := R
  obtain ⟨o1, o2, o3, o4, o5⟩ := id oi
  have he : EOK (eO s.1 s.2.1 s.2.2.1) := eO_ok o1 (by omega) o4
  have sH := XS_e aq.1.2.2.2.1 s0
  have so := (sH).1
  unfold XSo at so
  have hS : NeS H N := by
    rcases hN with rfl | rfl
    · exact sH.2.2.2.2.2.1.1
    · exact sH.2.2.2.2.2.1.2.1
  have hJ := sH.2.2.2.1
  have k218 := hJ.1.1
  obtain ⟨Nn, px, pc⟩ := PXg_q okn aq pg
  have hil : i < cs.length := by
    by_cases z : i < cs.length
    · exact z
    · rw [List.getElem?_eq_none (by omega)] at hc; cases hc
  have X := pc i c hc
  obtain ⟨x1, x2, x3, x4, x5, x6, x7⟩ := id X
  have c3 : c.1 < 3 := by omega
  have a3 := px.2.1
  have LR := fun Q K => x_looksR (d + 5) N s.2.1 s.2.2.1 hJ hS V sj o1 Q K
  rw [U_Di_run_37 (cm _)]
  simp (disch := omega) only [UC_Di_run_157 (cm _), SA, SB, SC1, SC2, SG, SK, SV, so, k218, leI, show ¬ c.2.1 ≤ t by omega, true_or, or_true, true_implies, not_true_eq_false, not_false_eq_true, false_implies, true_and, and_true]
  refine LR _ (fun f1 F1 => ?_)
  clear LR
  have q1 := AQ_i (N := N) H (a := 219) (Or.inl rfl) f1
  have V1 : NeV (sIA H 219 f1) N s.1 := NeV_a (h := H) (by rw [fi_ia]) (fun b b1 b2 => hia_n _ _ (by unfold sepJ at sj; omega)) V
  have i1 := hia_s H 219 f1
  have z24 : hfi (sIA H 219 f1) 24 15 = hfi h 24 15 := by rw [fi_ia]; exact w24
  have r1 : RgX (sIA H 219 f1) nx (rgQ kp g0 s) := RgX_t (h := H) okn (by rw [fi_ia]) (fun _ _ => by rw [fi_ia]) (fun b b1 b2 => hia_n _ _ (by omega)) rg
  generalize sIA H 219 f1 = H1 at *
  have F1' : FaO (hia H1 219) (eO s.1 s.2.1 s.2.2.1) := by rw [i1]; exact F1
  obtain ⟨N1, px1, pc1⟩ := PXg_q okn q1 ⟨Nn, px, pc⟩
  have X1 := pc1 i c hc
  obtain ⟨-, -, -, -, y5, -⟩ := id X1
  have s1 := XS_e q1.1.2.2.2.1 sH
  have so1 := s1.1
  unfold XSo at so1
  have hJ1 := s1.2.2.2.1
  have k2181 := hJ1.1.1
  have ka1 := px1.1.1
  have PT := fun Q => (p_fld (d + 6) a i hi px1 hil Q).2.2.1
  have tx : XT H1 (a + 1) N1 (lX (hia H1 (a + 1))) (oW 1) c.2.2.1 (hia H1 (a + 2) (i * 6 + 2)) := by
    revert y5
    cases c.2.2.1 with
    | none => exact fun z => z
    | some v => exact fun ⟨_, t, t1, t2, t3⟩ => ⟨t, t2, t1, XE_of1 t3⟩
  have tb : ∀ v, c.2.2.1 = some v → ∀ x, v (eO s.1 s.2.1 s.2.2.1) = some x → bd x := by
    revert y5
    cases c.2.2.1 with
    | none => exact fun _ v z => by cases z
    | some v =>
      rintro ⟨_, t, t1, t2, t3⟩ v' z
      injection z with z
      subst z
      exact t3.b he
  simp (disch := omega) only [UC_Di_run_157 (cm _), SA, SB, SC1, SC2, SG, SK, SV, so1, k2181, ka1, PT, true_or, or_true, true_implies, not_true_eq_false, not_false_eq_true, false_implies, true_and, and_true]
  refine x_test (d + 5) 218 a (a + 1) 219 220 N1 (a + 2) cs.length hJ1 px1 (by omega) he tx F1' _ (fun f2 => ?_)
  have q2 := q1.trans (AQ_i (N := N) H1 (a := 220) (Or.inr rfl) f2)
  have V2 : NeV (sIA H1 220 f2) N s.1 := NeV_a (h := H1) (by rw [fi_ia]) (fun b b1 b2 => hia_n _ _ (by unfold sepJ at sj; omega)) V1
  have i2 : hia (sIA H1 220 f2) 219 = hia H1 219 := hia_n _ _ (by omega)
  have z242 : hfi (sIA H1 220 f2) 24 15 = hfi h 24 15 := by rw [fi_ia]; exact z24
  have r2 : RgX (sIA H1 220 f2) nx (rgQ kp g0 s) := RgX_t (h := H1) okn (by rw [fi_ia]) (fun _ _ => by rw [fi_ia]) (fun b b1 b2 => hia_n _ _ (by omega)) r1
  generalize sIA H1 220 f2 = H2 at *
  by_cases ch : holB c.2.2.1 (eO s.1 s.2.1 s.2.2.1) = true
  · have e1 := (tvO_1 tb).mpr ch
    have s2 := XS_e q2.1.2.2.2.1 sH
    have so2 := s2.1
    unfold XSo at so2
    have hJ2 := s2.2.2.2.1
    have k2182 := hJ2.1.1
    obtain ⟨N2, px2, pc2⟩ := PXg_q okn q2 ⟨Nn, px, pc⟩
    have TS := fun Q K1 K0 => x_tellsS (d + 4) a i N2 cs.length hi hil he hJ2 ⟨so2.2.2.2.2.2.2.2.2.2.2.2.2.2.2.2.2.1, so2.2.2.2.2.2.2.2.2.2.2.2.2.2.2.2.2.2.1⟩ px2 (pc2 i c hc) (by rw [i2]; exact F1') Q K1 K0
    simp (disch := omega) only [UC_Di_run_157 (cm _), SA, SB, SC1, SC2, SG, SK, SV, e1, so2, k2182, true_or, or_true, true_implies, not_true_eq_false, not_false_eq_true, false_implies, true_and, and_true]
    unfold oStep at Kf Ks
    rw [if_pos ch] at Kf Ks
    refine TS _ (fun ok H3 T3 sv => ?_) (fun ok H3 T3 => ?_)
    · rw [if_pos ok] at Kf Ks
      have q3 := q2.trans T3.Q (N := N)
      have s3 := XS_e q3.1.2.2.2.1 sH
      have so3 := s3.1
      unfold XSo at so3
      have hS3 : NeS H3 N := NeS_e q3.1.2.2.2.1 hS
      have V3 : NeV H3 N s.1 := NeV_a (by rw [T3.2.1]) (fun b b1 b2 => T3.2.2 b (by unfold sepJ at sj; omega) (by omega)) V2
      have r3 : RgX H3 nx (rgQ kp g0 s) := RgX_t okn (by rw [T3.2.1]) (fun _ _ => by rw [T3.2.1]) (fun b b1 b2 => T3.2.2 b (by omega) (by omega)) r2
      have v0 := sv 0 (by omega)
      have v1 := sv 1 (by omega)
      have v2 := sv 2 (by omega)
      have aq3 := aq.trans q3
      have ACT := fun Q kk => x_act d N nx (rgQ kp g0 s).1 kp c.1 hkp c3 okn r3.1 r3.2.1 s3 hS3 V3 o1 (aq3.L okn o2 l) r3.2.2.1 r3.2.2.2.1 (oSv c (eO s.1 s.2.1 s.2.2.1) 0) (oSv c (eO s.1 s.2.1 s.2.2.1) 1) (oSv c (eO s.1 s.2.1 s.2.2.1) 2) Q kk
      have okv := act_val (Lo := Lo) (one := oSv c (eO s.1 s.2.1 s.2.2.1) 0) (other := oSv c (eO s.1 s.2.1 s.2.2.1) 1) (costs := oSv c (eO s.1 s.2.1 s.2.2.1) 2) c3 o1
      have st1 := fun s' h => oStep_ok (Lo := Lo) (c := c) (s' := s') c3 oi h
      unfold oStep at st1
      rw [if_pos ch, if_pos ok] at st1
      generalize oSv c (eO s.1 s.2.1 s.2.2.1) 0 = b0 at *
      generalize oSv c (eO s.1 s.2.1 s.2.2.1) 1 = b1 at *
      generalize oSv c (eO s.1 s.2.1 s.2.2.1) 2 = b2 at *
      simp (disch := omega) only [UC_Di_run_157 (cm _), SA, SB, SC1, SC2, SG, SK, SV, so3, v0, v1, v2, eqI, Nat.one_ne_zero, nI_clamp, in_eq, Nat.reduceLeDiff, true_or, or_true, true_implies, not_true_eq_false, not_false_eq_true, false_implies, true_and, and_true]
      refine ACT _ (fun H4 ar V4 hk => ?_)
      clear ACT
      have q4 := aq3.trans (ar.Q okn r3.1)
      have eo := AR_eo okn r3.1 ar
      by_cases cv : (aAct Lo s.1 c.1 b0 b1 b2).1 < nI 0
      · rw [if_pos cv] at Kf
        have cv' : ¬ nI 0 ≤ (aAct Lo s.1 c.1 b0 b1 b2).1 := Int32.not_le.mpr cv
        have s4 := XS_e q4.1.2.2.2.1 s0
        have k74 := s4.1.1
        have q5 := q4.trans (AQ_st (N := N) H4 (nI i))
        have f5 : hfi (sFI H4 24 (up1 (hfi H4 24) 15 (nI i))) 24 15 = nI i := by rw [hfi_s, up1_s]
        have r5 : kp = 0 → RgX (sFI H4 24 (up1 (hfi H4 24) 15 (nI i))) nx g0 := fun z => by
          subst z
          obtain ⟨z1, z2⟩ := hk.2 (fun y => absurd y.1 (by omega))
          have r4 : RgX H4 nx (rgQ 0 g0 s) := RgX_keep z2 eo z1 r3
          exact RgX_t okn (hfi_nn _ _ (by omega)) (fun i hi => hfi_nn _ _ (by omega)) (fun b _ _ => by rw [ia_fi]) r4
        generalize hb : sFI H4 24 (up1 (hfi H4 24) 15 (nI i)) = H5 at *
        have Y := Kf rfl H5 q5 ⟨nx, r5⟩ f5
        simp (disch := omega) only [UC_Di_run_157 (cm _), SA, SB, SC1, SC2, SG, SK, SV, cv', k74, hb, Nat.reduceLeDiff, true_or, or_true, true_implies, not_true_eq_false, not_false_eq_true, false_implies, true_and, and_true]
        exact Y
      · rw [if_neg cv] at Ks st1
        have cv' : nI 0 ≤ (aAct Lo s.1 c.1 b0 b1 b2).1 := Int32.not_lt.mp cv
        have kept : okA Lo s.1 c.1 b0 b1 b2 := by
          rcases okv with ⟨k, hk3, e, -⟩ | ⟨m, -, -, z⟩
          · rw [e] at cv
            exact absurd (show rfV k < nI 0 by rcases hk3 with rfl | rfl | rfl <;> decide) cv
          · exact z
        have st2 := st1 _ rfl
        have RI : RIx N kp h p g0 (M + 1) H4 ((aAct Lo s.1 c.1 b0 b1 b2).2, s.2.1 + 1, (if c.1 = 1 then (aAct Lo s.1 c.1 b0 b1 b2).1.toInt else s.2.2.1), rgU s.2.2.2 s.1 c.1) := by
          refine ⟨q4, V4, st2, by rw [AR_24 okn ar, T3.2.1]; exact z242, ?_⟩
          rcases (show kp = 0 ∨ kp = 1 by omega) with rfl | rfl
          · obtain ⟨z1, z2⟩ := hk.2 (fun y => absurd y.1 (by omega))
            exact ⟨nx, RgX_keep z2 eo z1 r3⟩
          · obtain ⟨z1, z2, z3⟩ := hk.1 ⟨rfl, kept⟩
            exact ⟨(nx + 1) % 17, RgX_1 c3 r3 o1 z3 eo z1 z2 rfl⟩
        have Y := Ks _ rfl H4 (some (.int (aAct Lo s.1 c.1 b0 b1 b2).1)) RI
        by_cases c1 : c.1 = 1
        · have Y : WP cd_Di_run (callD (d + 7)) Q lm 37 [] [some (.ref 24), some (.ref a), some (.ref N), some (.int (nI kp)), some (.int (nI (s.2.1 + 1))), some (.int (iI (if c.1 = 1 then (aAct Lo s.1 c.1 b0 b1 b2).1.toInt else s.2.2.1))), some (.int (nI i)), some (.int (nI c.1)), some (.int (nI c.2.1)), some (.int (nI (t + 1))), some (.int (aAct Lo s.1 c.1 b0 b1 b2).1)] H4 := Y
          rw [if_pos c1, iI_toInt] at Y
          have c1' : nI c.1 = nI 1 := by rw [c1]
          simp (disch := omega) only [U_Di_run (cm _), SA, SB, SC1, SC2, SG, SK, SV, cv', c1', eq_self, nI_add, true_or, or_true, true_implies, not_true_eq_false, not_false_eq_true, false_implies, true_and, and_true]
          rw [c1'] at Y
          exact Y
        · have Y : WP cd_Di_run (callD (d + 7)) Q lm 37 [] [some (.ref 24), some (.ref a), some (.ref N), some (.int (nI kp)), some (.int (nI (s.2.1 + 1))), some (.int (iI (if c.1 = 1 then (aAct Lo s.1 c.1 b0 b1 b2).1.toInt else s.2.2.1))), some (.int (nI i)), some (.int (nI c.1)), some (.int (nI c.2.1)), some (.int (nI (t + 1))), some (.int (aAct Lo s.1 c.1 b0 b1 b2).1)] H4 := Y
          rw [if_neg c1] at Y
          simp (disch := omega) only [U_Di_run (cm _), SA, SB, SC1, SC2, SG, SK, SV, cv', eqI, c1, nI_add, true_or, or_true, true_implies, not_true_eq_false, not_false_eq_true, false_implies, true_and, and_true]
          exact Y
    · rw [if_neg (by rw [ok]; decide)] at Kf
      have q3 := aq.trans (q2.trans T3.Q (N := N))
      have s3 := XS_e q3.1.2.2.2.1 s0
      have k73 := s3.1.1
      have q5 := q3.trans (AQ_st (N := N) H3 (nI i))
      have f5 : hfi (sFI H3 24 (up1 (hfi H3 24) 15 (nI i))) 24 15 = nI i := by rw [hfi_s, up1_s]
      have r3 : RgX H3 nx (rgQ kp g0 s) := RgX_t okn (by rw [T3.2.1]) (fun _ _ => by rw [T3.2.1]) (fun b b1 b2 => T3.2.2 b (by omega) (by omega)) r2
      have r5 : kp = 0 → RgX (sFI H3 24 (up1 (hfi H3 24) 15 (nI i))) nx g0 := fun z => by
        subst z
        exact RgX_t okn (hfi_nn _ _ (by omega)) (fun i hi => hfi_nn _ _ (by omega)) (fun b _ _ => by rw [ia_fi]) r3
      generalize hb : sFI H3 24 (up1 (hfi H3 24) 15 (nI i)) = H5 at *
      have Y := Kf rfl H5 q5 ⟨nx, r5⟩ f5
      have z3 : ¬ nI 0 ≤ (-3 : Int32) := by decide
      simp (disch := omega) only [UC_Di_run_157 (cm _), SA, SB, SC1, SC2, SG, SK, SV, z3, k73, hb, eqI, eq_self, Nat.reduceLeDiff, true_or, or_true, true_implies, not_true_eq_false, not_false_eq_true, false_implies, true_and, and_true]
      exact Y
  · have e1 : ¬ tv c.2.2.1 (eO s.1 s.2.1 s.2.2.1) = nI 1 := fun z => ch ((tvO_1 tb).mp z)
    unfold oStep at Ks
    rw [if_neg ch] at Ks
    have Y := Ks s rfl H2 w10 ⟨aq.trans q2, V2, oi.mono (by omega), z242, nx, r2⟩
    simp (disch := omega) only [U_Di_run (cm _), SA, SB, SC1, SC2, SG, SK, SV, e1, nI_add, true_or, or_true, true_implies, not_true_eq_false, not_false_eq_true, false_implies, true_and, and_true]
    exact Y
