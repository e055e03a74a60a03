/-! ===== image ===== -/
set_option maxRecDepth 20000 in
theorem UC_Mo_image_54 {G : GT} (hG : Gmono G) (R : RT) (lm : Nat × Nat) : WP cd_Mo_image G R lm 0 = stp G R lm (2, 1, 0, 0, 0, 0, []) (WP cd_Mo_image G R lm) ∧ WP cd_Mo_image G R lm 1 = stp G R lm (7, 2, 0, 0, nI 0, 0, []) (WP cd_Mo_image G R lm) ∧ WP cd_Mo_image G R lm 2 = stp G R lm (59, 5, 8, 0, 0, 0, []) (WP cd_Mo_image G R lm) ∧ WP cd_Mo_image G R lm 5 = stp G R lm (1, 6, 1, 0, 0, 0, []) (WP cd_Mo_image G R lm) ∧ WP cd_Mo_image G R lm 6 = stp G R lm (33, 7, 0, 0, 0, 0, []) (WP cd_Mo_image G R lm) ∧ WP cd_Mo_image G R lm 7 = stp G R lm (8, 8, 0, 0, 0, lN 0, []) (WP cd_Mo_image G R lm) ∧ WP cd_Mo_image G R lm 8 = stp G R lm (8, 9, 0, 0, 0, lN 1, []) (WP cd_Mo_image G R lm) ∧ WP cd_Mo_image G R lm 9 = stp G R lm (76, 12, 130, 3, 0, 0, []) (WP cd_Mo_image G R lm) ∧ WP cd_Mo_image G R lm 12 = stp G R lm (48, 15, 21, 0, 0, 0, []) (WP cd_Mo_image G R lm) ∧ WP cd_Mo_image G R lm 15 = stp G R lm (2, 16, 0, 0, 0, 0, []) (WP cd_Mo_image G R lm) ∧ WP cd_Mo_image G R lm 16 = stp G R lm (7, 17, 0, 0, (-1), 0, []) (WP cd_Mo_image G R lm) ∧ WP cd_Mo_image G R lm 17 = stp G R lm (86, 20, 133, 1, 0, 0, [8]) (WP cd_Mo_image G R lm) ∧ WP cd_Mo_image G R lm 20 = stp G R lm (81, 21, 0, 0, 0, 0, []) (WP cd_Mo_image G R lm) ∧ WP cd_Mo_image G R lm 21 = stp G R lm (7, 22, 0, 0, nI 0, 0, []) (WP cd_Mo_image G R lm) ∧ WP cd_Mo_image G R lm 22 = stp G R lm (4, 23, 2, 0, 0, 0, []) (WP cd_Mo_image G R lm) ∧ WP cd_Mo_image G R lm 24 = stp G R lm (7, 27, 0, 0, nI 7422, 0, []) (WP cd_Mo_image G R lm) ∧ WP cd_Mo_image G R lm 27 = stp G R lm (44, 30, 54, 0, 0, 0, []) (WP cd_Mo_image G R lm) ∧ WP cd_Mo_image G R lm 30 = stp G R lm (2, 31, 0, 0, 0, 0, []) (WP cd_Mo_image G R lm) ∧ WP cd_Mo_image G R lm 31 = stp G R lm (58, 34, 8, 4, 0, 0, []) (WP cd_Mo_image G R lm) ∧ WP cd_Mo_image G R lm 34 = stp G R lm (7, 37, 0, 0, nI 7422, 0, []) (WP cd_Mo_image G R lm) ∧ WP cd_Mo_image G R lm 37 = stp G R lm (1, 38, 1, 0, 0, 0, []) (WP cd_Mo_image G R lm) ∧ WP cd_Mo_image G R lm 38 = stp G R lm (14, 39, 0, 0, 0, 0, []) (WP cd_Mo_image G R lm) ∧ WP cd_Mo_image G R lm 39 = stp G R lm (1, 40, 2, 0, 0, 0, []) (WP cd_Mo_image G R lm) ∧ WP cd_Mo_image G R lm 40 = stp G R lm (12, 41, 0, 0, 0, 0, []) (WP cd_Mo_image G R lm) ∧ WP cd_Mo_image G R lm 41 = stp G R lm (2, 42, 0, 0, 0, 0, []) (WP cd_Mo_image G R lm) ∧ WP cd_Mo_image G R lm 42 = stp G R lm (58, 45, 8, 3, 0, 0, []) (WP cd_Mo_image G R lm) ∧ WP cd_Mo_image G R lm 45 = stp G R lm (1, 46, 2, 0, 0, 0, []) (WP cd_Mo_image G R lm) ∧ WP cd_Mo_image G R lm 46 = stp G R lm (62, 47, 0, 0, 0, 0, []) (WP cd_Mo_image G R lm) ∧ WP cd_Mo_image G R lm 47 = stp G R lm (66, 48, 0, 0, 0, 0, []) (WP cd_Mo_image G R lm) ∧ WP cd_Mo_image G R lm 48 = stp G R lm (11, 51, 2, 0, nI 1, 0, []) (WP cd_Mo_image G R lm) ∧ WP cd_Mo_image G R lm 51 = stp G R lm (40, 23, 0, 0, 0, 0, []) (WP cd_Mo_image G R lm) ∧ WP cd_Mo_image G R lm 55 = stp G R lm (58, 58, 8, 5, 0, 0, []) (WP cd_Mo_image G R lm) ∧ WP cd_Mo_image G R lm 58 = stp G R lm (1, 59, 1, 0, 0, 0, []) (WP cd_Mo_image G R lm) ∧ WP cd_Mo_image G R lm 59 = stp G R lm (7, 60, 0, 0, nI 1, 0, []) (WP cd_Mo_image G R lm) ∧ WP cd_Mo_image G R lm 60 = stp G R lm (67, 61, 0, 0, 0, 0, []) (WP cd_Mo_image G R lm) ∧ WP cd_Mo_image G R lm 61 = stp G R lm (2, 62, 0, 0, 0, 0, []) (WP cd_Mo_image G R lm) ∧ WP cd_Mo_image G R lm 62 = stp G R lm (7, 63, 0, 0, nI 0, 0, []) (WP cd_Mo_image G R lm) ∧ WP cd_Mo_image G R lm 63 = stp G R lm (86, 66, 133, 1, 0, 0, [8]) (WP cd_Mo_image G R lm) ∧ WP cd_Mo_image G R lm 66 = stp G R lm (81, 67, 0, 0, 0, 0, []) (WP cd_Mo_image G R lm) := ⟨WP_eq hG rfl, WP_eq hG rfl, WP_eq hG rfl, WP_eq hG rfl, WP_eq hG rfl, WP_eq hG rfl, WP_eq hG rfl, WP_eq hG rfl, WP_eq hG rfl, WP_eq hG rfl, WP_eq hG rfl, WP_eq hG rfl, WP_eq hG rfl, WP_eq hG rfl, WP_eq hG rfl, WP_eq hG rfl, WP_eq hG rfl, WP_eq hG rfl, WP_eq hG rfl, WP_eq hG rfl, WP_eq hG rfl, WP_eq hG rfl, WP_eq hG rfl, WP_eq hG rfl, WP_eq hG rfl, WP_eq hG rfl, WP_eq hG rfl, WP_eq hG rfl, WP_eq hG rfl, WP_eq hG rfl, WP_eq hG rfl, WP_eq hG rfl, WP_eq hG rfl, WP_eq hG rfl, WP_eq hG rfl, WP_eq hG rfl, WP_eq hG rfl, WP_eq hG rfl, WP_eq hG rfl⟩
theorem m_l_img (d k : Nat) (hk : k ≤ 1) (Q : RT) (lm : Nat × Nat) {h : MH} (hM : MoS h) : ∀ (m i : Nat) (f : Nat → Int32), i + m = 7422 → (∀ j, j < i → f (7422 * k + j) = hia h 275 j) → (∀ j, j < 7422 * k ∨ 7422 * k + 7422 ≤ j → f j = hia h 276 j) → (∀ f', (∀ j, j < 7422 → f' (7422 * k + j) = hia h 275 j) → (∀ j, j < 7422 * k ∨ 7422 * k + 7422 ≤ j → f' j = hia h 276 j) → WP cd_Mo_image (callD d) Q lm 54 [] [some (.ref 273), some (.int (nI k)), some (.int (nI 7422))] (sIA h 276 f')) → WP cd_Mo_image (callD d) Q lm 23 [] [some (.ref 273), some (.int (nI k)), some (.int (nI i))] (sIA h 276 f)
  | 0, i, f, e, h1, h2, K => by
    obtain rfl : i = 7422 := by omega
    have Y := K f h1 h2
    rw [U_Mo_image_23 (cm _)]
    simp (disch := omega) only [UC_Mo_image_54 (cm _), SA, SB, SC1, SC2, SG, SK, SV, leI, Nat.le_refl, true_or, or_true, true_implies, not_true_eq_false, not_false_eq_true, false_implies, true_and, and_true]
    exact Y
  | m + 1, i, f, e, h1, h2, K => by
    obtain ⟨k8, r2, r3, r4⟩ := hM.row
    obtain ⟨s1, s2, s3⟩ := hM.a276
    have ih := m_l_img d k hk Q lm hM m (i + 1) (up1 f (7422 * k + i) (hia h 275 i)) (by omega) (fun j hj => by
      by_cases c : j = i
      · subst c; rw [up1_s]
      · rw [up1_n _ _ (by omega)]; exact h1 j (by omega)) (fun j hj => by rw [up1_n _ _ (by omega)]; exact h2 j hj) K
    rw [U_Mo_image_23 (cm _)]
    simp (disch := omega) only [UC_Mo_image_54 (cm _), SA, SB, SC1, SC2, SG, SK, SV, k8, r2, r3, r4, s1, s2, s3, up1_s, up1_n, leI, show ¬ 7422 ≤ i by omega, pk_mul, nI_add, nI_clamp, in_eq, Nat.reduceLeDiff, true_or, or_true, true_implies, not_true_eq_false, not_false_eq_true, false_implies, true_and, and_true]
    exact ih
def wiA (k : Nat) : Nat := 245 + 14 * k
theorem kept_or : ∀ b0, b0 ≤ 1 → ∀ b1, b1 ≤ 1 → nI (b0 + 2 * b1) ||| (nI 1 <<< (nI 0 &&& 31)) = nI (1 + 2 * b1) ∧ nI (b0 + 2 * b1) ||| (nI 1 <<< (nI 1 &&& 31)) = nI (b0 + 2 * 1) := by
  intro b0 h0 b1 h1
  rcases (show b0 = 0 ∨ b0 = 1 by omega) with rfl | rfl <;> rcases (show b1 = 0 ∨ b1 = 1 by omega) with rfl | rfl <;> exact ⟨by decide, by decide⟩
/-- the relation behind an image -/
theorem GI_img {h h2 h9 : MH} {k b0 b1 : Nat} (hk : k ≤ 1) (g : GI h) (la : LA h) (hb0 : b0 ≤ 1) (hb1 : b1 ≤ 1) (i0 : b0 = 1 → WV h 245 (iR (hia h 276) 0)) (i1 : b1 = 1 → WV h 259 (iR (hia h 276) 1)) (e277 : hia h 277 0 = nI b0 ∧ hia h 277 1 = nI b1) (c : CW h h2 (wiA k) 25) (V2 : NeV h2 (wiA k + 1) (hia h 275)) (S : hsz h9 = hsz h2 ∧ hcc h9 = hcc h2 ∧ hcu h9 = hcu h2 ∧ SHE h2 h9) (J : hja h9 = hja h2) (F : ∀ a, a ≠ 24 → a ≠ 273 → hfi h9 a = hfi h2 a) (F24 : ∀ n, n ≠ 2 → n ≠ 13 → hfi h9 24 n = hfi h2 24 n) (f13 : hfi h9 24 13 = nI 0) (f2 : hfi h9 24 2 = if k = 0 then nI (1 + 2 * b1) else nI (b0 + 2 * 1)) (F273 : ∀ n, n ≠ 0 → n ≠ 1 → hfi h9 273 n = hfi h2 273 n) (m1 : hfi h9 273 1 = nI 0) (C : ∀ a, a ≠ 276 → a ≠ 277 → hia h9 a = hia h2 a) (R : (∀ j, j < 7422 → hia h9 276 (7422 * k + j) = hia h2 275 j) ∧ ∀ j, j < 7422 * k ∨ 7422 * k + 7422 ≤ j → hia h9 276 j = hia h2 276 j) (B : hia h9 277 = up1 (hia h2 277) k (nI 1)) : Pst h h9 := by
  obtain ⟨⟨c1, c2, c3, c4, c5, c6, c7⟩, c8, c9, c10, c11, c12, c13⟩ := id c
  obtain ⟨S1, S2, S3, S4⟩ := S
  obtain ⟨g1, ⟨g2, g3, g4⟩, g5, g6, ⟨nx, n, g7⟩, g8, g9, ⟨T, g10⟩, g11⟩ := g
  have wk : wiA k = 245 ∨ wiA k = 259 := by unfold wiA; omega
  have kd : hkd h9 = hkd h := S4.1.trans c4
  have ln : hln h9 = hln h := S4.2.1.trans c5
  have fr : hfr h9 = hfr h := S4.2.2.1.trans c6
  have ra : ∀ a, a ≠ wiA k + 11 → hra h9 a = hra h a := fun a ha => by rw [S4.2.2.2, c10 a ha]
  have FI : ∀ a, a ≠ 24 → a ≠ 273 → a ≠ wiA k → a ≠ wiA k + 1 → hfi h9 a = hfi h a := fun a a1 a2 a3 a4 => by rw [F a a1 a2, c8 a a3 a4]
  have CI : ∀ a, a ≠ 276 → a ≠ 277 → a ≤ wiA k ∨ wiA k + 13 < a → hia h9 a = hia h a := fun a a1 a2 a3 => by rw [C a a1 a2, c9 a a3]
  have X : ∀ x, 300 ≤ x → x < hsz h → hkd h9 x = hkd h x ∧ hln h9 x = hln h x ∧ hfr h9 x = hfr h x ∧ hfi h9 x = hfi h x ∧ hia h9 x = hia h x := fun x h1 _ => ⟨by rw [kd], by rw [ln], by rw [fr], FI x (by omega) (by omega) (by omega) (by omega), CI x (by omega) (by omega) (by omega)⟩
  have r2 : hia h2 275 = hia h 275 := c9 275 (by omega)
  have q2 : hia h2 276 = hia h 276 := c9 276 (by omega)
  have p2 : hia h2 277 = hia h 277 := c9 277 (by omega)
  have jj : ∀ a, (288 ≤ a ∧ a ≤ 290) ∨ a = 297 → hja h9 a = hja h a := fun a _ => by rw [J, c7]
  have f24 : ∀ n, n ≠ 2 → n ≠ 13 → hfi h9 24 n = hfi h 24 n := fun n a b => by rw [F24 n a b, c8 24 (by omega) (by omega)]
  have f273 : ∀ n, n ≠ 0 → n ≠ 1 → hfi h9 273 n = hfi h 273 n := fun n a b => by rw [F273 n a b, c8 273 (by omega) (by omega)]
  -- the new image
  have new : WV h9 (wiA k) (iR (hia h9 276) k) := by
    have w2 : WV h2 (wiA k) (iR (hia h9 276) k) := WV_cp c V2 (fun x hx => by show hia h9 276 (7422 * k + x) = _; rw [R.1 x hx, r2]) (by omega) g6
    exact WV_a (by omega) ⟨F _ (by omega) (by omega), F _ (by omega) (by omega)⟩ (fun a a1 a2 => C a (by omega) (by omega)) (by rw [S4.2.2.2]) (fun x h1 _ => ⟨by rw [S4.1], by rw [S4.2.1], by rw [S4.2.2.1], F x (by omega) (by omega), C x (by omega) (by omega)⟩) w2
  have old : ∀ j, j ≤ 1 → j ≠ k → WV h (wiA j) (iR (hia h 276) j) → WV h9 (wiA j) (iR (hia h9 276) j) := fun j hj jk w => by
    have wj : wiA j = 245 + 14 * j := rfl
    have wk' : wiA k = 245 + 14 * k := rfl
    have e : WV h9 (wiA j) (iR (hia h 276) j) := WV_a (by omega) ⟨FI _ (by omega) (by omega) (by omega) (by omega), FI _ (by omega) (by omega) (by omega) (by omega)⟩ (fun a a1 a2 => CI a (by omega) (by omega) (by omega)) (ra _ (by omega)) X w
    obtain ⟨x1, x2, x3, ⟨nl, l1, l2, l3, l4⟩, ⟨ns, n1, n2, n3⟩, ⟨md, m1, m2⟩, ⟨sl, s1, s2⟩⟩ := e
    have hq : ∀ x, x < 7422 → iR (hia h9 276) j x = iR (hia h 276) j x := fun x hx => by
      show hia h9 276 (7422 * j + x) = hia h 276 (7422 * j + x)
      rw [R.2 _ (by omega), q2]
    have hr : ∀ y, 5 ≤ y → y < 1754 → iR (hia h9 276) j y = iR (hia h 276) j y := fun y _ h2 => hq y (by omega)
    refine ⟨NeV_c hr x2.q x1, IV_c hr x2, by rw [hq 0 (by omega), hq 1 (by omega), hq 2 (by omega), hq 3 (by omega), hq 4 (by omega)]; exact x3, ⟨nl, l1, (hq 1 (by omega)).trans l2, by rw [hq 2 (by omega)]; exact l3, fun i hi => ?_⟩, ⟨ns, n1, (hq 0 (by omega)).trans n2, fun i hi => ?_⟩, ⟨md, m1, (hq 4 (by omega)).trans m2⟩, ⟨sl, s1, (hq 3 (by omega)).trans s2⟩⟩
    · obtain ⟨a, L, y1, y2, y3, y4, y5⟩ := l4 i hi
      exact ⟨a, L, y1, y2, y3, y4, TX_b (fun x _ hx => hq x hx) y5⟩
    · rw [hq _ (by omega), hq _ (by omega)]
      exact n3 i hi
  refine ⟨⟨XS_w kd ln fr (ra 41 (by omega)) (ra 39 (by omega)) g1, ⟨MoS_w kd ln fr g2, WDM_a jj g3, HDM_a jj g4⟩, by omega, ?_, ⟨nx, n, ?_⟩, ?_, ?_, ⟨T, ?_⟩, ?_⟩, ⟨by rw [S2, c2]; exact Nat.le_add_right _ _, by rw [S3, c3]; exact Nat.le_add_right _ _⟩, by rw [kd], by rw [ln], CI 0 (by omega) (by omega) (by omega), fun la W hW i hi => ?_⟩
  · rw [CI 275 (by omega) (by omega) (by omega)]
    exact WV_a (by omega) ⟨FI 25 (by omega) (by omega) (by omega) (by omega), FI 26 (by omega) (by omega) (by omega) (by omega)⟩ (fun a a1 a2 => CI a (by omega) (by omega) (by omega)) (ra 36 (by omega)) X g6
  · exact RgV_a (FI 40 (by omega) (by omega) (by omega) (by omega)) (f273 8 (by omega) (by omega)) (fun i hi => FI _ (by omega) (by omega) (by omega) (by omega)) (fun a a1 a2 => CI a (by omega) (by omega) (by omega)) (CI 279 (by omega) (by omega) (by omega)) (fun x _ => by rw [CI 278 (by omega) (by omega) (by omega)]) g7
  · rcases (show k = 0 ∨ k = 1 by omega) with rfl | rfl
    · refine ⟨1, b1, by omega, hb1, by rw [f2, if_pos rfl], by rw [B, up1_s], by rw [B, up1_n _ _ (by omega), p2]; exact e277.2, fun _ => new, fun z => old 1 (by omega) (by omega) (i1 z)⟩
    · refine ⟨b0, 1, hb0, by omega, by rw [f2, if_neg (by omega)], by rw [B, up1_n _ _ (by omega), p2]; exact e277.1, by rw [B, up1_s], fun z => old 0 (by omega) (by omega) (i0 z), fun _ => new⟩
  · exact CtV_v (nI 0) g9 (CI 244 (by omega) (by omega) (by omega)) (CI 274 (by omega) (by omega) (by omega)) f13 m1 (fun k hk => f24 k (by omega) (by omega)) (by rw [FI 213 (by omega) (by omega) (by omega) (by omega)]) (fun k hk => f273 k (by omega) (by omega))
  · unfold TpV at *
    rw [CI 215 (by omega) (by omega) (by omega), CI 282 (by omega) (by omega) (by omega), FI 214 (by omega) (by omega) (by omega) (by omega), f273 13 (by omega) (by omega)]
    exact g10
  · exact DyV_a ⟨by rw [kd], by rw [ln], CI 1 (by omega) (by omega) (by omega)⟩ (f24 8 (by omega) (by omega)) (f273 52 (by omega) (by omega)) (FI 231 (by omega) (by omega) (by omega) (by omega)) (fun a a1 a2 => CI a (by omega) (by omega) (by omega)) (CI 299 (by omega) (by omega) (by omega)) g11
  · rw [kd, S1, c1]
    by_cases e : W = wiA k
    · rw [e, S4.2.2.2, c11 i hi]
      exact la 25 (by omega) i hi
    · rw [ra (W + 11) (by omega)]
      exact la W hW i hi
theorem op_image (kI : Int32) : PairL 3 109 140 [.int kI] := fun d h g la => by
  have s := g.1
  have so := (s).1
  unfold XSo at so
  have sw := (WoS_25 s).1
  have IN := fun h Q => e_in (d + 1) kI.toInt64 (lN 0) (lN 1) h Q
  have qk := i2l_r kI 1 (by omega)
  by_cases c : rgI kI 1
  · obtain ⟨k, hk, rfl⟩ := rg_n (by omega) c
    rw [b01_t (by rw [qk]; exact c)] at IN
    obtain ⟨b0, b1, hb0, hb1, j1, j2, j3, j4, j5⟩ := g.2.2.2.2.2.1
    obtain ⟨V, iv, -⟩ := g.2.2.2.1
    have ra : hra h 39 k = some (wiA k) := by
      rcases (show k = 0 ∨ k = 1 by omega) with rfl | rfl
      · exact s.2.2.2.2.2.2.2.1
      · exact s.2.2.2.2.2.2.2.2
    have wk : wiA k = 245 ∨ wiA k = 259 := by unfold wiA; omega
    have sW : WoS h (wiA k) := by
      rcases wk with e | e <;> rw [e]
      · exact s.2.2.2.2.1.2.1
      · exact s.2.2.2.2.1.2.2
    have nW : NeS h (wiA k + 1) := by
      rcases wk with e | e <;> rw [e]
      · exact s.2.2.2.2.2.1.2.2.2.1
      · exact s.2.2.2.2.2.1.2.2.2.2
    have kW := sW.1
    have WC := fun Q K => w_copies (d + 0) (wiA k) 25 (by omega) (by omega) (by omega) sW (WoS_25 s) nW s.2.2.2.2.2.1.1 V (QL_mono iv.q (by omega)) (fun i hi => by
      rcases la 25 (by omega) i hi with z | ⟨a, z, -, -, ka⟩
      · exact Or.inl z
      · exact Or.inr ⟨a, z, ka⟩) Q K
    rw [E_Di_image]
    simp (disch := omega) only [U_Di_image (cm _), SA, SB, SC1, SC2, SG, SK, SV, so, sw, kW, ra, ltI, Nat.not_lt_zero, show k < 2 by omega, nI_clamp, in_eq, Nat.reduceLeDiff, Nat.le_refl, true_or, or_true, true_implies, not_true_eq_false, not_false_eq_true, false_implies, true_and, and_true]
    refine WC _ (fun h2 cw V2 => ?_)
    clear WC
    have s2 : XS h2 := XS_w cw.1.2.2.2.1 cw.1.2.2.2.2.1 cw.1.2.2.2.2.2.1 (cw.2.2.2.1 41 (by omega)) (cw.2.2.2.1 39 (by omega)) s
    have k72 := s2.1.1
    have i2 : hfi h2 24 2 = nI (b0 + 2 * b1) := by rw [cw.2.1 24 (by omega) (by omega)]; exact j1
    have nv : nI (b0 + 2 * b1) ||| (nI 1 <<< (nI k &&& 31)) = if k = 0 then nI (1 + 2 * b1) else nI (b0 + 2 * 1) := by
      obtain ⟨y1, y2⟩ := kept_or b0 hb0 b1 hb1
      rcases (show k = 0 ∨ k = 1 by omega) with rfl | rfl
      · rw [if_pos rfl]; exact y1
      · rw [if_neg (by omega)]; exact y2
    generalize (if k = 0 then nI (1 + 2 * b1) else nI (b0 + 2 * 1)) = nb at *
    obtain ⟨a1, a2, a3, a4, a5⟩ := fi_g h2 24 (up1 (hfi h2 24) 2 nb)
    have as := she_fi h2 24 (up1 (hfi h2 24) 2 nb)
    generalize ha : sFI h2 24 (up1 (hfi h2 24) 2 nb) = h3 at *
    have s3 := XS_e as.1.2.2.2 s2
    have k73 := s3.1.1
    have W := fun Q => x_went (d + 1) (nI 0) s3 Q
    have xw := X2_w h3
    have xwi := (xw_g h3).1
    generalize xwH h3 = h4 at *
    simp (disch := omega) only [U_Di_image (cm _), SA, SB, SC1, SC2, SG, SK, SV, k72, k73, i2, nv, ha, W, Nat.reduceLeDiff, true_or, or_true, true_implies, not_true_eq_false, not_false_eq_true, false_implies, true_and, and_true]
    refine ⟨_, rfl, ?_⟩
    have M2 := MoS_w cw.1.2.2.2.1 cw.1.2.2.2.2.1 cw.1.2.2.2.2.2.1 g.2.1.1
    have M4 := xw.1.2.2.2.M (as.1.2.2.2.M M2)
    have k84 := M4.1
    obtain ⟨M5, ei5, ef5, kp5⟩ := thM M4
    have t3 : ∀ a, a ≠ 273 → hfi (thH h4) a = hfi h4 a := fun a ha => by unfold thH; exact hfi_nn _ _ ha
    have t4 : hja (thH h4) = hja h4 := (she_fi _ _ _).2
    generalize hh : thH h4 = h5 at *
    unfold thH at hh
    have I5 : hia h5 = hia h2 := by rw [ei5, xwi, a2]
    rw [E_Mo_image]
    simp (disch := omega) only [UC_Mo_image_54 (cm _), SA, SB, SC1, SC2, SG, SK, SV, hh, k84, IN, eqI, Nat.one_ne_zero, true_or, or_true, true_implies, not_true_eq_false, not_false_eq_true, false_implies, true_and, and_true]
    have L := fun lm K => m_l_img (d + 2) k hk (fun r2 h2 => r2 = some (Value.int (nI 0)) ∧ Pst h h2) lm M5 7422 0 (hia h5 276) (by omega) (fun j hj => absurd hj (Nat.not_lt_zero j)) (fun j _ => rfl) K
    rw [sIA_id] at L
    refine L _ (fun f' r1 r2 => ?_)
    clear L
    have bs := she_ia h5 276 f'
    have b2 := hia_s h5 276 f'
    have b3 : ∀ a, a ≠ 276 → hia (sIA h5 276 f') a = hia h5 a := fun a ha => hia_n _ _ ha
    have b4 := fi_ia h5 276 f'
    generalize sIA h5 276 f' = h6 at *
    have M6 := bs.1.2.2.2.M M5
    have k86 := M6.1
    obtain ⟨u1, u2, u3⟩ := M6.a277
    have cs := she_ia h6 277 (up1 (hia h6 277) k (nI 1))
    have c2 := hia_s h6 277 (up1 (hia h6 277) k (nI 1))
    have c3 : ∀ a, a ≠ 277 → hia (sIA h6 277 (up1 (hia h6 277) k (nI 1))) a = hia h6 a := fun a ha => hia_n _ _ ha
    have c4 := fi_ia h6 277 (up1 (hia h6 277) k (nI 1))
    generalize hc : sIA h6 277 (up1 (hia h6 277) k (nI 1)) = h7 at *
    have M7' := cs.1.2.2.2.M M6
    have k87 := M7'.1
    have TP := fun Q => m_tellP (d + 1) 0 (by omega) M7' Q
    have m5 := M5_w h7
    have tpi := (tp_g h7).2
    generalize tpH h7 = h8 at *
    simp (disch := omega) only [U_Mo_image (cm _), SA, SB, SC1, SC2, SG, SK, SV, k86, u1, u2, u3, hc, k87, TP, eqI, nI_clamp, in_eq, Nat.reduceLeDiff, true_or, or_true, true_implies, not_true_eq_false, not_false_eq_true, false_implies, true_and, and_true]
    have SS := she_t (she_t (she_t (she_t (she_t as ⟨xw.1, xw.2.2.2.2⟩) ⟨kp5.1, t4⟩) bs) cs) ⟨m5.1, m5.2.2.2.2⟩
    refine GI_img hk g la hb0 hb1 j4 j5 ⟨j2, j3⟩ cw V2 SS.1 SS.2 (fun a z1 z2 => ?_) (fun n z1 z2 => ?_) ?_ ?_ (fun n z1 z2 => ?_) ?_ (fun a z1 z2 => ?_) ⟨fun j hj => ?_, fun j hj => ?_⟩ ?_
    · rw [m5.2.1 a z2, c4, b4, t3 a z2, xw.2.1 a z1, a5 a z1]
    · rw [m5.2.1 24 (by omega), c4, b4, t3 24 (by omega), xw.2.2.1, up1_n _ _ z2, a4, up1_n _ _ z1]
    · rw [m5.2.1 24 (by omega), c4, b4, t3 24 (by omega), xw.2.2.1, up1_s]
    · rw [m5.2.1 24 (by omega), c4, b4, t3 24 (by omega), xw.2.2.1, up1_n _ _ (by omega), a4, up1_s, ← nv]
      obtain ⟨y1, y2⟩ := kept_or b0 hb0 b1 hb1
      rcases (show k = 0 ∨ k = 1 by omega) with rfl | rfl
      · rw [if_pos rfl]; exact y1
      · rw [if_neg (by omega)]; exact y2
    · rw [m5.2.2.1, up1_n _ _ z2, c4, b4, ef5 n z1, xw.2.1 273 (by omega), a5 273 (by omega)]
    · rw [m5.2.2.1, up1_s]
    · rw [tpi, c3 a z2, b3 a z1, I5]
    · rw [tpi, c3 276 (by omega), b2, r1 j hj, I5]
    · rw [tpi, c3 276 (by omega), b2, r2 j hj, I5]
    · rw [tpi, c2, b3 277 (by omega), I5]
  · rw [b01_f (by rw [qk]; exact c)] at IN
    have R := fun Q => x_refused (d + 1) 1 (by omega) s Q
    have e1 : rfV 1 = -1 := by decide
    obtain ⟨hM1, ei, ef, -, fin⟩ := rfM 1 (by omega) g
    rw [e1] at R hM1 ei ef fin
    generalize xrH h (-1) (rfX 1) = h1 at *
    have k81 := hM1.1
    obtain ⟨hM2, ei2, ef2, kp⟩ := thM hM1
    generalize hh : thH h1 = h2 at *
    unfold thH at hh
    have k82 := hM2.1
    have T := fun Q => m_tellR (d + 1) 1 (by omega) hM2 Q
    rw [e1] at T
    have Y := fin h2 kp
    generalize tnH h2 (-1) 1 = h9 at *
    have fin2 : callD (d + 3) 140 [.ref 273, .int kI] h1 (fun r2 h2 => r2 = some (Value.int (-1)) ∧ Pst h h2) := by
      rw [E_Mo_image]
      simp (disch := omega) only [U_Mo_image (cm _), SA, SB, SC1, SC2, SG, SK, SV, hh, k81, k82, IN, T, eqI, true_or, or_true, true_implies, not_true_eq_false, not_false_eq_true, false_implies, true_and, and_true]
      exact Y
    rw [E_Di_image]
    rcases rg_no (by omega) c with z | ⟨z1, z2⟩
    · simp (disch := omega) only [U_Di_image (cm _), SA, SB, SC1, SC2, SG, SK, SV, so, R, z, true_or, or_true, true_implies, not_true_eq_false, not_false_eq_true, false_implies, true_and, and_true]
      exact ⟨_, rfl, fin2⟩
    · have z3 : ¬ kI < nI 2 := Int32.not_lt.mpr z2
      simp (disch := omega) only [U_Di_image (cm _), SA, SB, SC1, SC2, SG, SK, SV, so, R, z1, z3, true_or, or_true, true_implies, not_true_eq_false, not_false_eq_true, false_implies, true_and, and_true]
      exact ⟨_, rfl, fin2⟩
