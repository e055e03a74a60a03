/-! ===== an act of both, put together ===== -/
def X2 (h h2 : MH) (v : Int32) : Prop := (hsz h2 = hsz h ∧ hcc h2 = hcc h ∧ hcu h2 = hcu h ∧ SHE h h2) ∧ (∀ a, a ≠ 24 → hfi h2 a = hfi h a) ∧ hfi h2 24 = up1 (hfi h 24) 13 v ∧ (∀ a, a ≠ 244 → hia h2 a = hia h a) ∧ hja h2 = hja h
def M5 (h h2 : MH) (v : Int32) : Prop := (hsz h2 = hsz h ∧ hcc h2 = hcc h ∧ hcu h2 = hcu h ∧ SHE h h2) ∧ (∀ a, a ≠ 273 → hfi h2 a = hfi h a) ∧ hfi h2 273 = up1 (hfi h 273) 1 v ∧ (∀ a, a ≠ 274 → hia h2 a = hia h a) ∧ hja h2 = hja h
theorem X2_r (h : MH) (v : Int32) (i : Nat) : X2 h (xrH h v i) v := by
  obtain ⟨x1, x2, x3, x4, x5⟩ := xr_g h v i
  exact ⟨(KQ_xr h v i).1, x4, x3, x5, rfl⟩
theorem X2_w (h : MH) : X2 h (xwH h) (nI 0) := by
  obtain ⟨x1, x3, x4⟩ := xw_g h
  exact ⟨(KQ_xw h).1, x4, x3, fun a _ => by rw [x1], rfl⟩
theorem M5_r (h : MH) (v : Int32) (i : Nat) : M5 h (tnH h v i) v := by
  obtain ⟨t1, t2, t3⟩ := tn_g h v i
  exact ⟨(KQ_tn h v i).1, tn_f h v i, t1, t3, rfl⟩
theorem M5_w (h : MH) : M5 h (tpH h) (nI 0) := by
  obtain ⟨t1, t2⟩ := tp_g h
  exact ⟨(KQ_tp h).1, tp_f h, t1, fun a _ => by rw [t2], rfl⟩
theorem act_fin {h h1 h2 h3 h4 h5 : MH} {nx n kd : Nat} {p q : RW} {v : Int32} {kept : Prop} (hkd3 : kd < 3) (g : GI h) (hp : hia h 275 = p) (ivp : IV p) (ivq : IV q) (lo : LO p q) (r : RgV h nx n) (ar : AR 26 nx h h1) (V1 : NeV h1 26 q) (hk : HK h h1 p nx n kd kept) (x2 : X2 h1 h2 v) (th : thH h2 = h3) (m : MaF h3 h4 p q n kd kept) (m5 : M5 h4 h5 v) (cc : hia h5 244 0 = hia h5 274 1 ∧ hia h5 244 1 = hia h5 274 2 ∧ hia h5 244 2 = hia h5 274 3 ∧ hia h5 244 3 = hia h5 274 5 ∧ hia h5 244 4 = hia h5 274 6) : GI h5 ∧ FrE h h5 := by
  obtain ⟨⟨a1, a2, a3, a4, a5, a6⟩, a7, a8⟩ := ar
  obtain ⟨⟨b1, b2, b3, b4⟩, b5, b6, b7, b8⟩ := x2
  have kt := KP_th h2
  have t1 : hia (thH h2) = hia h2 := ia_fi _ _ _
  have t2 : ∀ k, k ≠ 0 → hfi (thH h2) 273 k = hfi h2 273 k := fun k hk => by unfold thH; rw [hfi_s, up1_n _ _ hk]
  have t3 : ∀ a, a ≠ 273 → hfi (thH h2) a = hfi h2 a := fun a ha => by unfold thH; exact hfi_nn _ _ ha
  have t4 : hja (thH h2) = hja h2 := (she_fi _ _ _).2
  rw [th] at kt t1 t2 t3 t4
  obtain ⟨⟨c1, c2, c3, c4⟩, -⟩ := kt
  obtain ⟨⟨d1, d2, d3, d4⟩, d5, d6, d7, d8, d9, d10, d11, -⟩ := m
  obtain ⟨⟨e1, e2, e3, e4⟩, e5, e6, e7, e8⟩ := m5
  have hnx := r.1
  have SS : SHE h h5 := (((a4.trans b4).trans c4).trans d4).trans e4
  have FI : ∀ a, a ≠ 24 → a ≠ 26 → a ≠ 40 → a ≠ 273 → a ≠ 43 + 10 * nx → hfi h5 a = hfi h a := fun a z1 z2 z3 z4 z5 => by rw [e5 a z4, d5 a z4, t3 a z4, b5 a z1, a7 a z2 z5 z3]
  have CI : ∀ a, (a ≤ 26 ∨ 35 < a) → (a ≤ 43 + 10 * nx ∨ 43 + 10 * nx + 9 < a) → a ≠ 42 → a ≠ 219 → a ≠ 220 → a ≠ 244 → a ≠ 274 → a ≠ 275 → a ≠ 278 → a ≠ 279 → hia h5 a = hia h a := fun a y1 y2 z1 z2 z3 z4 z5 z6 z7 z8 => by rw [e7 a z5, d7 a z6 z7 z8, t1, b7 a z4, a8 a y1 y2 z2 z3 z1]
  have N1 : ∀ a, 26 ≤ a → a < 213 → hia h5 a = hia h1 a := fun a y1 y2 => by rw [e7 a (by omega), d7 a (by omega) (by omega) (by omega), t1, b7 a (by omega)]
  have G1 : ∀ a, a ≠ 24 → a ≠ 273 → hfi h5 a = hfi h1 a := fun a z1 z4 => by rw [e5 a z4, d5 a z4, t3 a z4, b5 a z1]
  have f24 : hfi h5 24 = up1 (hfi h 24) 13 v := by rw [e5 24 (by omega), d5 24 (by omega), t3 24 (by omega), b6, a7 24 (by omega) (by omega) (by omega)]
  have f273 : ∀ k, k ≠ 0 → k ≠ 1 → k ≠ 8 → k ≠ 34 → k ≠ 38 → hfi h5 273 k = hfi h 273 k := fun k z0 z1 z2 z3 z4 => by rw [e6, up1_n _ _ z1, d6 k z2 z3 z4, t2 k z0, b5 273 (by omega), a7 273 (by omega) (by omega) (by omega)]
  have u3 : hia h3 278 = hia h 278 := by rw [t1, b7 278 (by omega), a8 278 (by omega) (by omega) (by omega) (by omega) (by omega)]
  have s3 : hia h3 279 = hia h 279 := by rw [t1, b7 279 (by omega), a8 279 (by omega) (by omega) (by omega) (by omega) (by omega)]
  have n3 : hfi h3 273 8 = hfi h 273 8 := by rw [t2 8 (by omega), b5 273 (by omega), a7 273 (by omega) (by omega) (by omega)]
  have eo : ∀ i, i < 17 → i ≠ nx → hfi h5 (43 + 10 * i) = hfi h (43 + 10 * i) ∧ ∀ a, 43 + 10 * i < a → a ≤ 43 + 10 * i + 9 → hia h5 a = hia h a := fun i hi hne => ⟨FI _ (by omega) (by omega) (by omega) (by omega) (by omega), fun a y1 y2 => CI a (by omega) (by omega) (by omega) (by omega) (by omega) (by omega) (by omega) (by omega) (by omega) (by omega)⟩
  have ct : CtV h5 := by
    obtain ⟨-, -, q7, q8, q9, q10⟩ := g.2.2.2.2.2.2.1
    refine ⟨cc, by rw [f24, up1_s, e6, up1_s], by rw [f24, up1_n _ _ (by omega), f273 11 (by omega) (by omega) (by omega) (by omega) (by omega)]; exact q7, by rw [f24, up1_n _ _ (by omega), f273 48 (by omega) (by omega) (by omega) (by omega) (by omega)]; exact q8, by rw [FI 213 (by omega) (by omega) (by omega) (by omega) (by omega), f273 18 (by omega) (by omega) (by omega) (by omega) (by omega)]; exact q9, by rw [f273 20 (by omega) (by omega) (by omega) (by omega) (by omega)]; exact q10⟩
  have rg : ∃ nx' n', RgV h5 nx' n' := by
    by_cases kp : kept
    · obtain ⟨k1, k2, k3⟩ := hk.1 kp
      obtain ⟨y1, y2, y3⟩ := d10 kp
      refine ⟨_, _, RgV_push hkd3 r ivp ⟨?_, ?_⟩ ?_ eo (NeV_a (G1 _ (by omega) (by omega)) (fun a z1 z2 => N1 a (by omega) (by omega)) k1) ?_ ?_ ?_⟩
      · rw [G1 40 (by omega) (by omega), k3, up1_n _ _ (by omega), up1_s]
      · rw [G1 40 (by omega) (by omega), k3, up1_s]
      · rw [e6, up1_n _ _ (by omega), y3]
      · rw [N1 42 (by omega) (by omega), k2]
      · rw [e7 278 (by omega), y1, u3]
      · rw [e7 279 (by omega), y2, s3]
    · obtain ⟨k2, k3⟩ := hk.2 kp
      obtain ⟨y1, y2, y3⟩ := d11 kp
      exact ⟨nx, n, RgV_keep (by rw [G1 40 (by omega) (by omega), k3]) (by rw [e6, up1_n _ _ (by omega), y3, n3]) eo (by rw [N1 42 (by omega) (by omega), k2]) (by rw [e7 279 (by omega), y2, s3]) (fun x hx => by rw [e7 278 (by omega), y1 x (by omega), u3]) r⟩
  refine ⟨GI_act hnx g hp ⟨by rw [e1, d1, c1, b1, a1], SS⟩ FI ⟨by rw [f24, up1_n _ _ (by omega)], by rw [f24, up1_n _ _ (by omega)]⟩ ⟨f273 13 (by omega) (by omega) (by omega) (by omega) (by omega), f273 52 (by omega) (by omega) (by omega) (by omega) (by omega)⟩ CI (fun a ha => by rw [e8, d8 a (by omega) (by omega), t4, b8, a6]) (by rw [e7 275 (by omega), d9]) (NeV_a (G1 26 (by omega) (by omega)) (fun a z1 z2 => N1 a (by omega) (by omega)) V1) ivq lo rg ct, ⟨by rw [e1, d1, c1, b1, a1], by rw [e2, d2, c2, b2, a2], by rw [e3, d3, c3, b3, a3], SS⟩, CI 0 (by omega) (by omega) (by omega) (by omega) (by omega) (by omega) (by omega) (by omega) (by omega) (by omega)⟩
