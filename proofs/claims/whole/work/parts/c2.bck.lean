/-! ===== back ===== -/
set_option maxRecDepth 20000 in
theorem UC_Mo_back_70 {G : GT} (hG : Gmono G) (R : RT) (lm : Nat × Nat) : WP cd_Mo_back G R lm 0 = stp G R lm (2, 1, 0, 0, 0, 0, []) (WP cd_Mo_back G R lm) ∧ WP cd_Mo_back G R lm 1 = stp G R lm (7, 2, 0, 0, nI 0, 0, []) (WP cd_Mo_back G R lm) ∧ WP cd_Mo_back G R lm 2 = stp G R lm (59, 5, 8, 0, 0, 0, []) (WP cd_Mo_back G R lm) ∧ WP cd_Mo_back G R lm 5 = stp G R lm (1, 6, 1, 0, 0, 0, []) (WP cd_Mo_back G R lm) ∧ WP cd_Mo_back G R lm 6 = stp G R lm (33, 7, 0, 0, 0, 0, []) (WP cd_Mo_back G R lm) ∧ WP cd_Mo_back G R lm 7 = stp G R lm (8, 8, 0, 0, 0, lN 0, []) (WP cd_Mo_back G R lm) ∧ WP cd_Mo_back G R lm 8 = stp G R lm (8, 9, 0, 0, 0, lN 1, []) (WP cd_Mo_back G R lm) ∧ WP cd_Mo_back G R lm 9 = stp G R lm (76, 12, 130, 3, 0, 0, []) (WP cd_Mo_back G R lm) ∧ WP cd_Mo_back G R lm 12 = stp G R lm (48, 15, 21, 0, 0, 0, []) (WP cd_Mo_back G R lm) ∧ WP cd_Mo_back G R lm 15 = stp G R lm (2, 16, 0, 0, 0, 0, []) (WP cd_Mo_back G R lm) ∧ WP cd_Mo_back G R lm 16 = stp G R lm (7, 17, 0, 0, (-1), 0, []) (WP cd_Mo_back G R lm) ∧ WP cd_Mo_back G R lm 17 = stp G R lm (86, 20, 133, 1, 0, 0, [8]) (WP cd_Mo_back G R lm) ∧ WP cd_Mo_back G R lm 20 = stp G R lm (81, 21, 0, 0, 0, 0, []) (WP cd_Mo_back G R lm) ∧ WP cd_Mo_back G R lm 21 = stp G R lm (2, 22, 0, 0, 0, 0, []) (WP cd_Mo_back G R lm) ∧ WP cd_Mo_back G R lm 22 = stp G R lm (58, 25, 8, 5, 0, 0, []) (WP cd_Mo_back G R lm) ∧ WP cd_Mo_back G R lm 25 = stp G R lm (1, 26, 1, 0, 0, 0, []) (WP cd_Mo_back G R lm) ∧ WP cd_Mo_back G R lm 26 = stp G R lm (63, 27, 0, 0, 0, 0, []) (WP cd_Mo_back G R lm) ∧ WP cd_Mo_back G R lm 27 = stp G R lm (48, 30, 37, 0, 0, 0, []) (WP cd_Mo_back G R lm) ∧ WP cd_Mo_back G R lm 30 = stp G R lm (2, 31, 0, 0, 0, 0, []) (WP cd_Mo_back G R lm) ∧ WP cd_Mo_back G R lm 31 = stp G R lm (7, 33, 0, 0, (-2), 0, []) (WP cd_Mo_back G R lm) ∧ WP cd_Mo_back G R lm 33 = stp G R lm (86, 36, 133, 1, 0, 0, [8]) (WP cd_Mo_back G R lm) ∧ WP cd_Mo_back G R lm 36 = stp G R lm (81, 37, 0, 0, 0, 0, []) (WP cd_Mo_back G R lm) ∧ WP cd_Mo_back G R lm 37 = stp G R lm (7, 38, 0, 0, nI 0, 0, []) (WP cd_Mo_back G R lm) ∧ WP cd_Mo_back G R lm 38 = stp G R lm (4, 39, 2, 0, 0, 0, []) (WP cd_Mo_back G R lm) ∧ WP cd_Mo_back G R lm 40 = stp G R lm (7, 43, 0, 0, nI 7422, 0, []) (WP cd_Mo_back G R lm) ∧ WP cd_Mo_back G R lm 43 = stp G R lm (44, 46, 70, 0, 0, 0, []) (WP cd_Mo_back G R lm) ∧ WP cd_Mo_back G R lm 46 = stp G R lm (2, 47, 0, 0, 0, 0, []) (WP cd_Mo_back G R lm) ∧ WP cd_Mo_back G R lm 47 = stp G R lm (58, 50, 8, 3, 0, 0, []) (WP cd_Mo_back G R lm) ∧ WP cd_Mo_back G R lm 50 = stp G R lm (1, 51, 2, 0, 0, 0, []) (WP cd_Mo_back G R lm) ∧ WP cd_Mo_back G R lm 51 = stp G R lm (2, 52, 0, 0, 0, 0, []) (WP cd_Mo_back G R lm) ∧ WP cd_Mo_back G R lm 52 = stp G R lm (58, 55, 8, 4, 0, 0, []) (WP cd_Mo_back G R lm) ∧ WP cd_Mo_back G R lm 55 = stp G R lm (7, 58, 0, 0, nI 7422, 0, []) (WP cd_Mo_back G R lm) ∧ WP cd_Mo_back G R lm 58 = stp G R lm (1, 59, 1, 0, 0, 0, []) (WP cd_Mo_back G R lm) ∧ WP cd_Mo_back G R lm 59 = stp G R lm (14, 60, 0, 0, 0, 0, []) (WP cd_Mo_back G R lm) ∧ WP cd_Mo_back G R lm 60 = stp G R lm (1, 61, 2, 0, 0, 0, []) (WP cd_Mo_back G R lm) ∧ WP cd_Mo_back G R lm 61 = stp G R lm (12, 62, 0, 0, 0, 0, []) (WP cd_Mo_back G R lm) ∧ WP cd_Mo_back G R lm 62 = stp G R lm (62, 63, 0, 0, 0, 0, []) (WP cd_Mo_back G R lm) ∧ WP cd_Mo_back G R lm 63 = stp G R lm (66, 64, 0, 0, 0, 0, []) (WP cd_Mo_back G R lm) ∧ WP cd_Mo_back G R lm 64 = stp G R lm (11, 67, 2, 0, nI 1, 0, []) (WP cd_Mo_back G R lm) ∧ WP cd_Mo_back G R lm 67 = stp G R lm (40, 39, 0, 0, 0, 0, []) (WP cd_Mo_back G R lm) ∧ WP cd_Mo_back G R lm 71 = stp G R lm (7, 72, 0, 0, nI 0, 0, []) (WP cd_Mo_back G R lm) ∧ WP cd_Mo_back G R lm 72 = stp G R lm (59, 75, 8, 8, 0, 0, []) (WP cd_Mo_back G R lm) ∧ WP cd_Mo_back G R lm 75 = stp G R lm (2, 76, 0, 0, 0, 0, []) (WP cd_Mo_back G R lm) ∧ WP cd_Mo_back G R lm 76 = stp G R lm (7, 77, 0, 0, nI 0, 0, []) (WP cd_Mo_back G R lm) ∧ WP cd_Mo_back G R lm 77 = stp G R lm (86, 80, 133, 1, 0, 0, [8]) (WP cd_Mo_back G R lm) ∧ WP cd_Mo_back G R lm 80 = stp G R lm (81, 81, 0, 0, 0, 0, []) (WP cd_Mo_back G R lm) := ⟨WP_eq hG rfl, WP_eq hG rfl, WP_eq hG rfl, WP_eq hG rfl, WP_eq hG rfl, WP_eq hG rfl, WP_eq hG rfl, WP_eq hG rfl, WP_eq hG rfl, WP_eq hG rfl, WP_eq hG rfl, WP_eq hG rfl, WP_eq hG rfl, WP_eq hG rfl, WP_eq hG rfl, WP_eq hG rfl, WP_eq hG rfl, WP_eq hG rfl, WP_eq hG rfl, WP_eq hG rfl, WP_eq hG rfl, WP_eq hG rfl, WP_eq hG rfl, WP_eq hG rfl, WP_eq hG rfl, WP_eq hG rfl, WP_eq hG rfl, WP_eq hG rfl, WP_eq hG rfl, WP_eq hG rfl, WP_eq hG rfl, WP_eq hG rfl, WP_eq hG rfl, WP_eq hG rfl, WP_eq hG rfl, WP_eq hG rfl, WP_eq hG rfl, WP_eq hG rfl, WP_eq hG rfl, WP_eq hG rfl, WP_eq hG rfl, WP_eq hG rfl, WP_eq hG rfl, WP_eq hG rfl, WP_eq hG rfl, WP_eq hG rfl⟩
theorem m_l_bck (d k : Nat) (hk : k ≤ 1) (Q : RT) (lm : Nat × Nat) {h : MH} (hM : MoS h) : ∀ (m i : Nat) (f : Nat → Int32), i + m = 7422 → (∀ j, j < i → f j = hia h 276 (7422 * k + j)) → (∀ f', (∀ j, j < 7422 → f' j = hia h 276 (7422 * k + j)) → WP cd_Mo_back (callD d) Q lm 70 [] [some (.ref 273), some (.int (nI k)), some (.int (nI 7422))] (sIA h 275 f')) → WP cd_Mo_back (callD d) Q lm 39 [] [some (.ref 273), some (.int (nI k)), some (.int (nI i))] (sIA h 275 f)
  | 0, i, f, e, h1, K => by
    obtain rfl : i = 7422 := by omega
    have Y := K f h1
    rw [U_Mo_back_39 (cm _)]
    simp (disch := omega) only [UC_Mo_back_70 (cm _), SA, SB, SC1, SC2, SG, SK, SV, leI, Nat.le_refl, true_or, or_true, true_implies, not_true_eq_false, not_false_eq_true, false_implies, true_and, and_true]
    exact Y
  | m + 1, i, f, e, h1, K => by
    obtain ⟨k8, r2, r3, r4⟩ := hM.row
    obtain ⟨s1, s2, s3⟩ := hM.a276
    have ih := m_l_bck d k hk Q lm hM m (i + 1) (up1 f i (hia h 276 (7422 * k + i))) (by omega) (fun j hj => by
      by_cases c : j = i
      · subst c; rw [up1_s]
      · rw [up1_n _ _ (by omega)]; exact h1 j (by omega)) K
    rw [U_Mo_back_39 (cm _)]
    simp (disch := omega) only [UC_Mo_back_70 (cm _), SA, SB, SC1, SC2, SG, SK, SV, k8, r2, r3, r4, s1, s2, s3, up1_s, up1_n, leI, show ¬ 7422 ≤ i by omega, pk_mul, nI_add, nI_clamp, in_eq, Nat.reduceLeDiff, true_or, or_true, true_implies, not_true_eq_false, not_false_eq_true, false_implies, true_and, and_true]
    exact ih
theorem GI_bck {h h2 h9 : MH} {k : Nat} (hk : k ≤ 1) (g : GI h) (wv : WV h (wiA k) (iR (hia h 276) k)) (c : CW h h2 25 (wiA k)) (V2 : NeV h2 26 (iR (hia h 276) k)) (S : hsz h9 = hsz h2 ∧ hcc h9 = hcc h2 ∧ hcu h9 = hcu h2 ∧ SHE h2 h9) (J : hja h9 = hja h2) (F : ∀ a, a ≠ 24 → a ≠ 40 → a ≠ 273 → hfi h9 a = hfi h2 a) (F24 : hfi h9 24 = up1 (hfi h2 24) 13 (nI 0)) (F40 : hfi h9 40 = up1 (hfi h2 40) 3 (nI 0)) (F273 : ∀ n, n ≠ 0 → n ≠ 1 → n ≠ 8 → hfi h9 273 n = hfi h2 273 n) (m1 : hfi h9 273 1 = nI 0) (m8 : hfi h9 273 8 = nI 0) (C : ∀ a, a ≠ 275 → hia h9 a = hia h2 a) (R : ∀ j, j < 7422 → hia h9 275 j = iR (hia h 276) k j) : Pst h h9 := by
  obtain ⟨⟨c1, c2, c3, c4, c5, c6, c7⟩, c8, c9, c10, c11, c12, c13⟩ := id c
  obtain ⟨S1, S2, S3, S4⟩ := S
  have wk : wiA k = 245 ∨ wiA k = 259 := by unfold wiA; omega
  have kd : hkd h9 = hkd h := S4.1.trans c4
  have ln : hln h9 = hln h := S4.2.1.trans c5
  have fr : hfr h9 = hfr h := S4.2.2.1.trans c6
  have ra : ∀ a, a ≠ 36 → hra h9 a = hra h a := fun a ha => by rw [S4.2.2.2, c10 a ha]
  have FI : ∀ a, a ≠ 24 → a ≠ 25 → a ≠ 26 → a ≠ 40 → a ≠ 273 → hfi h9 a = hfi h a := fun a a1 a2 a3 a4 a5 => by rw [F a a1 a4 a5, c8 a a2 a3]
  have CI : ∀ a, a ≠ 275 → a ≤ 25 ∨ 38 < a → hia h9 a = hia h a := fun a a1 a2 => by rw [C a a1, c9 a (by omega)]
  have f24 : ∀ n, n ≠ 13 → hfi h9 24 n = hfi h 24 n := fun n a => by rw [F24, up1_n _ _ a, c8 24 (by omega) (by omega)]
  have f273 : ∀ n, n ≠ 0 → n ≠ 1 → n ≠ 8 → hfi h9 273 n = hfi h 273 n := fun n a b d => by rw [F273 n a b d, c8 273 (by omega) (by omega)]
  have f40 : hfi h9 40 = up1 (hfi h 40) 3 (nI 0) := by rw [F40, c8 40 (by omega) (by omega)]
  have K : KI h h9 := ⟨⟨by omega, by rw [kd], by rw [ln], CI 1 (by omega) (by omega)⟩, fun s => XS_w kd ln fr (ra 41 (by omega)) (ra 39 (by omega)) s, fun s => MoS_w kd ln fr s, fun a _ => by rw [J, c7], ⟨f24 2 (by omega), f24 8 (by omega), f273 52 (by omega) (by omega) (by omega)⟩, fun a ha => FI a (by omega) (by omega) (by omega) (by omega) (by omega), fun a ha => CI a (by omega) (by omega), ⟨ra 256 (by omega), ra 270 (by omega)⟩, fun x h1 _ => ⟨by rw [kd], by rw [ln], by rw [fr], FI x (by omega) (by omega) (by omega) (by omega) (by omega), CI x (by omega) (by omega)⟩⟩
  refine ⟨GI_mk K g ?_ ?_ ?_ ?_, ⟨by rw [S2, c2]; exact Nat.le_add_right _ _, by rw [S3, c3]; exact Nat.le_add_right _ _⟩, by rw [kd], by rw [ln], CI 0 (by omega) (by omega), fun la W hW i hi => ?_⟩
  · have w2 : WV h2 25 (hia h9 275) := WV_cp c V2 R (by omega) wv
    exact WV_a (by omega) ⟨F _ (by omega) (by omega) (by omega), F _ (by omega) (by omega) (by omega)⟩ (fun a a1 a2 => C a (by omega)) (by rw [S4.2.2.2]) (fun x h1 _ => ⟨by rw [S4.1], by rw [S4.2.1], by rw [S4.2.2.1], F x (by omega) (by omega) (by omega), C x (by omega)⟩) w2
  · obtain ⟨nx, n, r1, r2, r3, r4, r5, r6⟩ := g.2.2.2.2.1
    exact ⟨nx, 0, r1, by omega, by rw [f40, up1_n _ _ (by omega)]; exact r3, by rw [f40, up1_s], m8, fun j hj => absurd hj (Nat.not_lt_zero j)⟩
  · exact CtV_v (nI 0) g.2.2.2.2.2.2.1 (CI 244 (by omega) (by omega)) (CI 274 (by omega) (by omega)) (by rw [F24, up1_s]) m1 (fun k hk => f24 k (by omega)) (by rw [FI 213 (by omega) (by omega) (by omega) (by omega) (by omega)]) (fun k hk => f273 k (by omega) (by omega) (by omega))
  · obtain ⟨T, t⟩ := g.2.2.2.2.2.2.2.1
    refine ⟨T, ?_⟩
    unfold TpV at *
    rw [CI 215 (by omega) (by omega), CI 282 (by omega) (by omega), FI 214 (by omega) (by omega) (by omega) (by omega) (by omega), f273 13 (by omega) (by omega) (by omega)]
    exact t
  · rw [kd, S1, c1]
    by_cases e : W = 25
    · rw [e, S4.2.2.2, c11 i hi]
      exact la (wiA k) (by omega) i hi
    · rw [ra (W + 11) (by omega)]
      exact la W hW i hi
theorem kept_bt : ∀ b0, b0 ≤ 1 → ∀ b1, b1 ≤ 1 → bt (nI (b0 + 2 * b1)) 0 = nI b0 ∧ bt (nI (b0 + 2 * b1)) 1 = nI b1 := by
  intro b0 h0 b1 h1
  rcases (show b0 = 0 ∨ b0 = 1 by omega) with rfl | rfl <;> rcases (show b1 = 0 ∨ b1 = 1 by omega) with rfl | rfl <;> exact ⟨by decide, by decide⟩
theorem op_back (kI : Int32) : PairL 3 110 141 [.int kI] := fun d h g la => by
  have s := g.1
  have so := (s).1
  unfold XSo at so
  have sw := (WoS_25 s).1
  have IN := fun h Q => e_in (d + 1) kI.toInt64 (lN 0) (lN 1) h Q
  have qk := i2l_r kI 1 (by omega)
  by_cases c : rgI kI 1
  · obtain ⟨k, hk, rfl⟩ := rg_n (by omega) c
    rw [b01_t (by rw [qk]; exact c)] at IN
    have ik : ∃ b, b ≤ 1 ∧ bt (hfi h 24 2) k = nI b ∧ hia h 277 k = nI b ∧ (b = 1 → WV h (wiA k) (iR (hia h 276) k)) := by
      obtain ⟨b0, b1, hb0, hb1, j1, j2, j3, j4, j5⟩ := g.2.2.2.2.2.1
      obtain ⟨y1, y2⟩ := kept_bt b0 hb0 b1 hb1
      rw [j1]
      rcases (show k = 0 ∨ k = 1 by omega) with rfl | rfl
      · exact ⟨b0, hb0, y1, j2, j4⟩
      · exact ⟨b1, hb1, y2, j3, j5⟩
    obtain ⟨b, hb, jb, jk, jw⟩ := ik
    have EB := fun h' Q => e_bit (d + 1) (hfi h 24 2) k h' Q
    rw [jb] at EB
    rcases (show b = 0 ∨ b = 1 by omega) with rfl | rfl
    · have R := fun Q => x_refused (d + 1) 2 (by omega) s Q
      have e1 : rfV 2 = -2 := by decide
      obtain ⟨hM1, ei, ef, -, fin⟩ := rfM 2 (by omega) g
      rw [e1] at R hM1 ei ef fin
      generalize xrH h (-2) (rfX 2) = h1 at *
      have k81 := hM1.1
      obtain ⟨hM2, ei2, ef2, kp⟩ := thM hM1
      generalize hh : thH h1 = h2 at *
      unfold thH at hh
      have k82 := hM2.1
      obtain ⟨u1, u2, u3⟩ := hM2.a277
      have jk2 : hia h2 277 k = nI 0 := by rw [ei2, ei 277 (by omega)]; exact jk
      have T := fun Q => m_tellR (d + 1) 2 (by omega) hM2 Q
      rw [e1] at T
      have Y := fin h2 kp
      generalize tnH h2 (-2) 2 = h9 at *
      rw [E_Di_back]
      simp (disch := omega) only [U_Di_back (cm _), SA, SB, SC1, SC2, SG, SK, SV, so, EB, R, ltI, eqI, Nat.not_lt_zero, show k < 2 by omega, true_or, or_true, true_implies, not_true_eq_false, not_false_eq_true, false_implies, true_and, and_true]
      refine ⟨_, rfl, ?_⟩
      rw [E_Mo_back]
      simp (disch := omega) only [U_Mo_back (cm _), SA, SB, SC1, SC2, SG, SK, SV, hh, k81, k82, u1, u2, u3, jk2, IN, T, eqI, Nat.one_ne_zero, nI_clamp, in_eq, Nat.reduceLeDiff, true_or, or_true, true_implies, not_true_eq_false, not_false_eq_true, false_implies, true_and, and_true]
      exact Y
    · have wv := jw rfl
      have ra : hra h 39 k = some (wiA k) := by
        rcases (show k = 0 ∨ k = 1 by omega) with rfl | rfl
        · exact s.2.2.2.2.2.2.2.1
        · exact s.2.2.2.2.2.2.2.2
      have wk : wiA k = 245 ∨ wiA k = 259 := by unfold wiA; omega
      have sW : WoS h (wiA k) := by
        rcases wk with e | e <;> rw [e]
        · exact s.2.2.2.2.1.2.1
        · exact s.2.2.2.2.1.2.2
      have nW : NeS h (wiA k + 1) := by
        rcases wk with e | e <;> rw [e]
        · exact s.2.2.2.2.2.1.2.2.2.1
        · exact s.2.2.2.2.2.1.2.2.2.2
      have WC := fun Q K => w_copies (d + 0) 25 (wiA k) (by omega) (by omega) (by omega) (WoS_25 s) sW s.2.2.2.2.2.1.1 nW wv.1 (QL_mono wv.2.1.q (by omega)) (fun i hi => by
        rcases la (wiA k) (by omega) i hi with z | ⟨a, z, -, -, ka⟩
        · exact Or.inl z
        · exact Or.inr ⟨a, z, ka⟩) Q K
      rw [E_Di_back]
      simp (disch := omega) only [U_Di_back (cm _), SA, SB, SC1, SC2, SG, SK, SV, so, sw, ra, EB, ltI, eqI, Nat.one_ne_zero, Nat.not_lt_zero, show k < 2 by omega, nI_clamp, in_eq, Nat.reduceLeDiff, Nat.le_refl, true_or, or_true, true_implies, not_true_eq_false, not_false_eq_true, false_implies, true_and, and_true]
      refine WC _ (fun h2 cw V2 => ?_)
      clear WC
      have s2 : XS h2 := XS_w cw.1.2.2.2.1 cw.1.2.2.2.2.1 cw.1.2.2.2.2.2.1 (cw.2.2.2.1 41 (by omega)) (cw.2.2.2.1 39 (by omega)) s
      have so2 := s2.1
      unfold XSo at so2
      have k40 := s2.2.2.1.1
      have CL := fun Q => x_clears (d + 1) s2 Q
      obtain ⟨a1, a2, a3, a4, a5⟩ := fi_g h2 40 (up1 (hfi h2 40) 3 (nI 0))
      have as := she_fi h2 40 (up1 (hfi h2 40) 3 (nI 0))
      generalize sFI h2 40 (up1 (hfi h2 40) 3 (nI 0)) = h3 at *
      have s3 := XS_e as.1.2.2.2 s2
      have k73 := s3.1.1
      have W := fun Q => x_went (d + 1) (nI 0) s3 Q
      have xw := X2_w h3
      have xwi := (xw_g h3).1
      generalize xwH h3 = h4 at *
      simp (disch := omega) only [U_Di_back (cm _), SA, SB, SC1, SC2, SG, SK, SV, so2, k40, CL, k73, W, true_or, or_true, true_implies, not_true_eq_false, not_false_eq_true, false_implies, true_and, and_true]
      refine ⟨_, rfl, ?_⟩
      have M2 := MoS_w cw.1.2.2.2.1 cw.1.2.2.2.2.1 cw.1.2.2.2.2.2.1 g.2.1.1
      have M4 := xw.1.2.2.2.M (as.1.2.2.2.M M2)
      have k84 := M4.1
      obtain ⟨M5, ei5, ef5, kp5⟩ := thM M4
      have t3 : ∀ a, a ≠ 273 → hfi (thH h4) a = hfi h4 a := fun a ha => by unfold thH; exact hfi_nn _ _ ha
      have t4 : hja (thH h4) = hja h4 := (she_fi _ _ _).2
      generalize hh : thH h4 = h5 at *
      unfold thH at hh
      have I5 : hia h5 = hia h2 := by rw [ei5, xwi, a2]
      have k85 := M5.1
      obtain ⟨u1, u2, u3⟩ := M5.a277
      have jk5 : hia h5 277 k = nI 1 := by rw [I5, cw.2.2.1 277 (by omega)]; exact jk
      rw [E_Mo_back]
      simp (disch := omega) only [UC_Mo_back_70 (cm _), SA, SB, SC1, SC2, SG, SK, SV, hh, k84, k85, u1, u2, u3, jk5, IN, eqI, Nat.one_ne_zero, nI_clamp, in_eq, Nat.reduceLeDiff, true_or, or_true, true_implies, not_true_eq_false, not_false_eq_true, false_implies, true_and, and_true]
      have L := fun lm K => m_l_bck (d + 2) k hk (fun r2 h2 => r2 = some (Value.int (nI 0)) ∧ Pst h h2) lm M5 7422 0 (hia h5 275) (by omega) (fun j hj => absurd hj (Nat.not_lt_zero j)) K
      rw [sIA_id] at L
      refine L _ (fun f' r1 => ?_)
      clear L
      have bs := she_ia h5 275 f'
      have b2 := hia_s h5 275 f'
      have b3 : ∀ a, a ≠ 275 → hia (sIA h5 275 f') a = hia h5 a := fun a ha => hia_n _ _ ha
      have b4 := fi_ia h5 275 f'
      generalize sIA h5 275 f' = h6 at *
      have M6 := bs.1.2.2.2.M M5
      have k86 := M6.1
      obtain ⟨-, c2, -, c4, c5⟩ := fi_g h6 273 (up1 (hfi h6 273) 8 (nI 0))
      have cs := she_fi h6 273 (up1 (hfi h6 273) 8 (nI 0))
      generalize hc : sFI h6 273 (up1 (hfi h6 273) 8 (nI 0)) = h7 at *
      have M7' := cs.1.2.2.2.M M6
      have k87 := M7'.1
      have TP := fun Q => m_tellP (d + 1) 0 (by omega) M7' Q
      have m5 := M5_w h7
      have tpi := (tp_g h7).2
      generalize tpH h7 = h8 at *
      simp (disch := omega) only [U_Mo_back (cm _), SA, SB, SC1, SC2, SG, SK, SV, k86, hc, k87, TP, true_or, or_true, true_implies, not_true_eq_false, not_false_eq_true, false_implies, true_and, and_true]
      have SS := she_t (she_t (she_t (she_t (she_t as ⟨xw.1, xw.2.2.2.2⟩) ⟨kp5.1, t4⟩) bs) cs) ⟨m5.1, m5.2.2.2.2⟩
      refine GI_bck hk g wv cw V2 SS.1 SS.2 (fun a z1 z2 z3 => ?_) ?_ ?_ (fun n z1 z2 z3 => ?_) ?_ ?_ (fun a z1 => ?_) (fun j hj => ?_)
      · rw [m5.2.1 a z3, c5 a z3, b4, t3 a z3, xw.2.1 a z1, a5 a z2]
      · rw [m5.2.1 24 (by omega), c5 24 (by omega), b4, t3 24 (by omega), xw.2.2.1, a5 24 (by omega)]
      · rw [m5.2.1 40 (by omega), c5 40 (by omega), b4, t3 40 (by omega), xw.2.1 40 (by omega), a4]
      · rw [m5.2.2.1, up1_n _ _ z2, c4, up1_n _ _ z3, b4, ef5 n z1, xw.2.1 273 (by omega), a5 273 (by omega)]
      · rw [m5.2.2.1, up1_s]
      · rw [m5.2.2.1, up1_n _ _ (by omega), c4, up1_s]
      · rw [tpi, c2, b3 a z1, I5]
      · rw [tpi, c2, b2, r1 j hj, I5, cw.2.2.1 276 (by omega)]; rfl
  · rw [b01_f (by rw [qk]; exact c)] at IN
    have R := fun Q => x_refused (d + 1) 1 (by omega) s Q
    have e1 : rfV 1 = -1 := by decide
    obtain ⟨hM1, ei, ef, -, fin⟩ := rfM 1 (by omega) g
    rw [e1] at R hM1 ei ef fin
    generalize xrH h (-1) (rfX 1) = h1 at *
    have k81 := hM1.1
    obtain ⟨hM2, ei2, ef2, kp⟩ := thM hM1
    generalize hh : thH h1 = h2 at *
    unfold thH at hh
    have k82 := hM2.1
    have T := fun Q => m_tellR (d + 1) 1 (by omega) hM2 Q
    rw [e1] at T
    have Y := fin h2 kp
    generalize tnH h2 (-1) 1 = h9 at *
    have fin2 : callD (d + 3) 141 [.ref 273, .int kI] h1 (fun r2 h2 => r2 = some (Value.int (-1)) ∧ Pst h h2) := by
      rw [E_Mo_back]
      simp (disch := omega) only [U_Mo_back (cm _), SA, SB, SC1, SC2, SG, SK, SV, hh, k81, k82, IN, T, eqI, true_or, or_true, true_implies, not_true_eq_false, not_false_eq_true, false_implies, true_and, and_true]
      exact Y
    rw [E_Di_back]
    rcases rg_no (by omega) c with z | ⟨z1, z2⟩
    · simp (disch := omega) only [U_Di_back (cm _), SA, SB, SC1, SC2, SG, SK, SV, so, R, z, true_or, or_true, true_implies, not_true_eq_false, not_false_eq_true, false_implies, true_and, and_true]
      exact ⟨_, rfl, fin2⟩
    · have z3 : ¬ kI < nI 2 := Int32.not_lt.mpr z2
      simp (disch := omega) only [U_Di_back (cm _), SA, SB, SC1, SC2, SG, SK, SV, so, R, z1, z3, true_or, or_true, true_implies, not_true_eq_false, not_false_eq_true, false_implies, true_and, and_true]
      exact ⟨_, rfl, fin2⟩
