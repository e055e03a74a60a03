/-! ===== orders: the program's sums, what can be taken back ===== -/
theorem p_fld (d a i : Nat) (hi : i < 12) {h : MH} {c q N n : Nat} (s : PXs h a c q N n) (hn : i < n) (Q : RT) : callD (d + 1) 41 [.ref a, .int (nI i)] h Q = Q (some (.int (hia h q (i * 6)))) h ∧ callD (d + 1) 42 [.ref a, .int (nI i)] h Q = Q (some (.int (hia h q (i * 6 + 1)))) h ∧ callD (d + 1) 43 [.ref a, .int (nI i)] h Q = Q (some (.int (hia h q (i * 6 + 2)))) h ∧ ∀ j, j < 3 → callD (d + 1) 44 [.ref a, .int (nI i), .int (nI j)] h Q = Q (some (.int (hia h q (i * 6 + 3 + j)))) h := by
  obtain ⟨⟨s1, s2, s3, s4, s5, s6, s7, s8⟩, -, -, -, -, -, n12⟩ := s
  refine ⟨?_, ?_, ?_, fun j hj => ?_⟩
  · rw [E_Pr_kind]
    simp (disch := omega) only [U_Pr_kind (cm _), SA, SB, SC1, SC2, SG, SK, SV, s1, s5, s6, s7, pk_mul, nI_add, Nat.add_zero, nI_clamp, in_eq, Nat.reduceLeDiff, true_or, or_true, true_implies, not_true_eq_false, not_false_eq_true, false_implies, true_and, and_true]
  · rw [E_Pr_times]
    simp (disch := omega) only [U_Pr_times (cm _), SA, SB, SC1, SC2, SG, SK, SV, s1, s5, s6, s7, pk_mul, nI_add, nI_clamp, in_eq, Nat.reduceLeDiff, true_or, or_true, true_implies, not_true_eq_false, not_false_eq_true, false_implies, true_and, and_true]
  · rw [E_Pr_test]
    simp (disch := omega) only [U_Pr_test (cm _), SA, SB, SC1, SC2, SG, SK, SV, s1, s5, s6, s7, pk_mul, nI_add, nI_clamp, in_eq, Nat.reduceLeDiff, true_or, or_true, true_implies, not_true_eq_false, not_false_eq_true, false_implies, true_and, and_true]
  · rw [E_Pr_sum]
    simp (disch := omega) only [U_Pr_sum (cm _), SA, SB, SC1, SC2, SG, SK, SV, s1, s5, s6, s7, pk_mul, nI_add, nI_clamp, in_eq, Nat.reduceLeDiff, true_or, or_true, true_implies, not_true_eq_false, not_false_eq_true, false_implies, true_and, and_true]
theorem XE_of1 {h : MH} {c N t : Nat} {v : VAL} (x : XEc (hia h c) N 1 t v) : XE h c N (lX (hia h c)) (oW 1) t v := by
  obtain ⟨t', D, hD, s, ht, e⟩ := x
  exact ⟨t', D, hD, s.1, ht, e, s.2⟩
theorem XEc.b {cf : Nat → Int32} {N om t : Nat} {v : VAL} (x : XEc cf N om t v) {e : EV} (he : EOK e) : ∀ y, v e = some y → bd y := by
  obtain ⟨t', D, hD, s, -⟩ := x
  exact fun y hy => s.1.2.1 e y he hy
def TFy (h H : MH) : Prop := (hsz H = hsz h ∧ hcc H = hcc h ∧ hcu H = hcu h ∧ SHE h H ∧ hja H = hja h) ∧ hfi H = hfi h ∧ ∀ a, a ≠ 220 → a ≠ 243 → hia H a = hia h a
theorem TFy.refl (h : MH) : TFy h h := ⟨⟨rfl, rfl, rfl, SHE.refl h, rfl⟩, rfl, fun _ _ _ => rfl⟩
theorem TFy.trans {a b c : MH} (x : TFy a b) (y : TFy b c) : TFy a c := ⟨⟨y.1.1.trans x.1.1, y.1.2.1.trans x.1.2.1, y.1.2.2.1.trans x.1.2.2.1, x.1.2.2.2.1.trans y.1.2.2.2.1, y.1.2.2.2.2.trans x.1.2.2.2.2⟩, y.2.1.trans x.2.1, fun p q r => (y.2.2 p q r).trans (x.2.2 p q r)⟩
theorem TFy_i (h : MH) {a : Nat} (ha : a = 220 ∨ a = 243) (f : Nat → Int32) : TFy h (sIA h a f) := ⟨⟨rfl, rfl, rfl, SHE.refl h, rfl⟩, rfl, fun b b1 b2 => hia_n _ _ (by omega)⟩
theorem PXs_e {h H : MH} {a N n : Nat} (S : SHE h H) (f : hfi H a = hfi h a) (s : PXs h a (a + 1) (a + 2) N n) : PXs H a (a + 1) (a + 2) N n := by
  unfold PXs at *
  rw [S.1, S.2.1, S.2.2.1, f]
  exact s
theorem JS_e {h H : MH} (S : SHE h H) (s : JS h 218 219 220) : JS H 218 219 220 := by
  unfold JS at *
  rw [S.1, S.2.1, S.2.2.1]
  exact s
theorem x_l_ts (d a i N n : Nat) (hi : i < 12) (hin : i < n) {h : MH} {c : CLA} {e : EV} (he : EOK e) (hJ : JS h 218 219 220) (s3 : hkd h 243 = 20 ∧ hln h 243 = 3) (s : PXs h a (a + 1) (a + 2) N n) (X : XCc (hia h (a + 2)) (hia h (a + 1)) N 1 (i * 6) c) (F : FaO (hia h 219) e) (Q : RT) (lm : Nat × Nat) (K1 : okSy c e = true → ∀ H, TFy h H → (∀ j, j < 3 → hia H 243 j = oSv c e j) → Q (some (.int (nI 1))) H) (K0 : okSy c e = false → ∀ H, TFy h H → Q (some (.int (nI 0))) H) : ∀ (m j : Nat) (H : MH) (w5 : Option Value), j + m = 3 → TFy h H → (∀ t, t < j → hia H 243 t = oSv c e t ∧ okJ c e t = true) → WP cd_Ju_tellsSums (callD (d + 2)) Q lm 3 [] [some (.ref 218), some (.ref a), some (.int (nI i)), some (.ref 243), some (.int (nI j)), w5] H := by
  intro m
  induction m with
  | zero =>
    intro j H w5 ej T hs
    obtain rfl : j = 3 := by omega
    have ok : okSy c e = true := by rw [okSy_e, (hs 0 (by omega)).2, (hs 1 (by omega)).2, (hs 2 (by omega)).2]; rfl
    have Y := K1 ok H T (fun t ht => (hs t ht).1)
    rw [U_Ju_tellsSums_3 (cm _)]
    simp (disch := omega) only [U_Ju_tellsSums (cm _), SA, SB, SC1, SC2, SG, SK, SV, leI, Nat.le_refl, true_or, or_true, true_implies, not_true_eq_false, not_false_eq_true, false_implies, true_and, and_true]
    exact Y
  | succ m ih =>
    intro j H w5 ej T hs
    have a3 := s.2.1
    have sH := PXs_e T.1.2.2.2.1 (by rw [T.2.1]) s
    have q0 : hia H (a + 2) = hia h (a + 2) := T.2.2 _ (by omega) (by omega)
    have q1 : hia H (a + 1) = hia h (a + 1) := T.2.2 _ (by omega) (by omega)
    have q2 : hia H 219 = hia h 219 := T.2.2 _ (by omega) (by omega)
    have k43 : hkd H 243 = 20 := by rw [T.1.2.2.2.1.1]; exact s3.1
    have l43 : hln H 243 = 3 := by rw [T.1.2.2.2.1.2.1]; exact s3.2
    have PS := fun Q => (p_fld (d + 1) a i hi sH hin Q).2.2.2 j (by omega)
    rw [q0] at PS
    obtain ⟨x1, x2, x3, x4, x5, x6, x7⟩ := X
    rw [U_Ju_tellsSums_3 (cm _)]
    by_cases cj : j < nSm 1 c.1
    · obtain ⟨t, t1, t2, t3⟩ := x6 j cj
      have zt := nI_m1 (n := t) (by omega)
      have k218 : hkd H 218 = 1 := by rw [T.1.2.2.2.1.1]; exact hJ.1.1
      have ka := sH.1.1
      simp (disch := omega) only [U_Ju_tellsSums (cm _), SA, SB, SC1, SC2, SG, SK, SV, leI, show ¬ 3 ≤ j by omega, k43, l43, ka, k218, PS, t2, zt, Nat.reduceLeDiff, Nat.le_refl, true_or, or_true, true_implies, not_true_eq_false, not_false_eq_true, false_implies, true_and, and_true]
      refine x_sum d 218 a (a + 1) 219 220 N (a + 2) n (JS_e T.1.2.2.2.1 hJ) sH (by omega) he (XE_of1 (by rw [q1]; exact t3)) (by rw [q2]; exact F) _ (fun g => ?_)
      have T1 := T.trans (TFy_i H (Or.inl rfl) g)
      have g43 : hia (sIA H 220 g) 243 = hia H 243 := hia_n _ _ (by omega)
      generalize sIA H 220 g = H1 at *
      have k431 : hkd H1 243 = 20 := by rw [T1.1.2.2.2.1.1]; exact s3.1
      have l431 : hln H1 243 = 3 := by rw [T1.1.2.2.2.1.2.1]; exact s3.2
      have T2 := T1.trans (TFy_i H1 (Or.inr rfl) (up1 (hia H1 243) j (vI (c.2.2.2 j e))))
      have g2 := hia_s H1 243 (up1 (hia H1 243) j (vI (c.2.2.2 j e)))
      generalize hb : sIA H1 243 (up1 (hia H1 243) j (vI (c.2.2.2 j e))) = H2 at *
      have k432 : hkd H2 243 = 20 := by rw [T2.1.2.2.2.1.1]; exact s3.1
      have l432 : hln H2 243 = 3 := by rw [T2.1.2.2.2.1.2.1]; exact s3.2
      have rd : hia H2 243 j = vI (c.2.2.2 j e) := by rw [g2, up1_s]
      have sv : oSv c e j = vI (c.2.2.2 j e) := if_pos cj
      have vb := vI_b (t3.b he)
      by_cases cn : c.2.2.2 j e = none
      · have ok : okSy c e = false := by
          have zz : okJ c e j = false := by unfold okJ; rw [decide_eq_false (by omega), cn]; rfl
          rw [okSy_e]
          rcases (show j = 0 ∨ j = 1 ∨ j = 2 by omega) with rfl | rfl | rfl
          · rw [zz, Bool.false_and]
          · rw [zz, Bool.false_and, Bool.and_false]
          · rw [zz, Bool.and_false, Bool.and_false]
        have Y := K0 ok H2 T2
        have ev := vb.mpr cn
        rw [ev] at hb rd
        simp (disch := omega) only [U_Ju_tellsSums (cm _), SA, SB, SC1, SC2, SG, SK, SV, k431, l431, hb, k432, l432, rd, ev, nI_clamp, in_eq, Nat.reduceLeDiff, true_or, or_true, true_implies, not_true_eq_false, not_false_eq_true, false_implies, true_and, and_true]
        exact Y
      · have ev : ¬ vI (c.2.2.2 j e) = nI 2000000000 := fun z => cn (vb.mp z)
        have Y := ih (j + 1) H2 (some (.int (nI t))) (by omega) T2 (fun u hu => by
          by_cases cu : u = j
          · subst cu
            refine ⟨by rw [rd, sv], ?_⟩
            unfold okJ
            cases hh : c.2.2.2 u e with
            | none => exact absurd hh cn
            | some x => rw [Option.isSome_some, Bool.or_true]
          · rw [g2, up1_n _ _ cu, g43]
            exact hs u (by omega))
        simp (disch := omega) only [U_Ju_tellsSums (cm _), SA, SB, SC1, SC2, SG, SK, SV, k431, l431, hb, k432, l432, rd, ev, nI_add, nI_clamp, in_eq, Nat.reduceLeDiff, true_or, or_true, true_implies, not_true_eq_false, not_false_eq_true, false_implies, true_and, and_true]
        exact Y
    · have t2 := x7 j (by omega) (by omega)
      have T2 := T.trans (TFy_i H (Or.inr rfl) (up1 (hia H 243) j (nI 0)))
      have g2 := hia_s H 243 (up1 (hia H 243) j (nI 0))
      generalize hb : sIA H 243 (up1 (hia H 243) j (nI 0)) = H2 at *
      have k432 : hkd H2 243 = 20 := by rw [T2.1.2.2.2.1.1]; exact s3.1
      have l432 : hln H2 243 = 3 := by rw [T2.1.2.2.2.1.2.1]; exact s3.2
      have rd : hia H2 243 j = nI 0 := by rw [g2, up1_s]
      have sv : oSv c e j = nI 0 := if_neg cj
      have ka := sH.1.1
      have z0 : ¬ nI 0 = nI 2000000000 := by decide
      have Y := ih (j + 1) H2 (some (.int (-1))) (by omega) T2 (fun u hu => by
        by_cases cu : u = j
        · subst cu
          refine ⟨by rw [rd, sv], ?_⟩
          unfold okJ
          rw [decide_eq_true (by omega), Bool.true_or]
        · rw [g2, up1_n _ _ cu]
          exact hs u (by omega))
      simp (disch := omega) only [U_Ju_tellsSums (cm _), SA, SB, SC1, SC2, SG, SK, SV, leI, show ¬ 3 ≤ j by omega, k43, l43, ka, PS, t2, hb, k432, l432, rd, z0, nI_add, nI_clamp, in_eq, Nat.reduceLeDiff, Nat.le_refl, true_or, or_true, true_implies, not_true_eq_false, not_false_eq_true, false_implies, true_and, and_true]
      exact Y
theorem x_tellsS (d a i N n : Nat) (hi : i < 12) (hin : i < n) {h : MH} {c : CLA} {e : EV} (he : EOK e) (hJ : JS h 218 219 220) (s3 : hkd h 243 = 20 ∧ hln h 243 = 3) (s : PXs h a (a + 1) (a + 2) N n) (X : XCc (hia h (a + 2)) (hia h (a + 1)) N 1 (i * 6) c) (F : FaO (hia h 219) e) (Q : RT) (K1 : okSy c e = true → ∀ H, TFy h H → (∀ j, j < 3 → hia H 243 j = oSv c e j) → Q (some (.int (nI 1))) H) (K0 : okSy c e = false → ∀ H, TFy h H → Q (some (.int (nI 0))) H) : callD (d + 3) 13 [.ref 218, .ref a, .int (nI i), .ref 243] h Q := by
  rw [E_Ju_tellsSums]
  simp only [U_Ju_tellsSums (cm _), SA, SB, SG, SV]
  exact x_l_ts d a i N n hi hin he hJ s3 s X F Q _ K1 K0 3 0 h none (by omega) (TFy.refl h) (fun t ht => absurd ht (Nat.not_lt_zero t))
/-! what can be taken back, of each side -/
def RgX (h : MH) (nx : Nat) (g : RGy) : Prop := nx < 17 ∧ g.1 ≤ 16 ∧ hfi h 40 2 = nI nx ∧ hfi h 40 3 = nI g.1 ∧ ∀ j, j < g.1 → NeV h (43 + 10 * rgP nx g.1 j) (g.2.1 j) ∧ IV (g.2.1 j) ∧ hia h 42 (rgP nx g.1 j) = nI (g.2.2 j) ∧ g.2.2 j < 3
def RgM (h : MH) (g : RGy) : Prop := g.1 ≤ 16 ∧ hfi h 273 8 = nI g.1 ∧ ∀ j, j < g.1 → (∀ x, 5 ≤ x → x < 1754 → uR (hia h 278) j x = g.2.1 j x) ∧ hia h 279 j = nI (g.2.2 j)
theorem RgV_g {h : MH} {nx n : Nat} (r : RgV h nx n) : ∃ g : RGy, g.1 = n ∧ RgX h nx g ∧ RgM h g := by
  obtain ⟨r1, r2, r3, r4, r5, r6⟩ := r
  refine ⟨(n, fun j => uR (hia h 278) j, fun j => nn (hia h 279 j)), rfl, ⟨r1, r2, r3, r4, fun j hj => ?_⟩, r2, r5, fun j hj => ⟨fun _ _ _ => rfl, ?_⟩⟩
  · obtain ⟨x1, x2, x3, kd, k3, x4⟩ := r6 j hj
    exact ⟨x1, x2, by show hia h 42 _ = nI (nn (hia h 279 j)); rw [x3, x4, nn_n (by omega)], by show nn (hia h 279 j) < 3; rw [x4, nn_n (by omega)]; exact k3⟩
  · obtain ⟨x1, x2, x3, kd, k3, x4⟩ := r6 j hj
    show hia h 279 j = nI (nn (hia h 279 j))
    rw [x4, nn_n (by omega)]
theorem RgV_of {h : MH} {nx : Nat} {g : RGy} (x : RgX h nx g) (m : RgM h g) : RgV h nx g.1 := by
  obtain ⟨x1, x2, x3, x4, x5⟩ := x
  obtain ⟨m1, m2, m3⟩ := m
  refine ⟨x1, x2, x3, x4, m2, fun j hj => ?_⟩
  obtain ⟨y1, y2, y3, y4⟩ := x5 j hj
  obtain ⟨z1, z2⟩ := m3 j hj
  exact ⟨NeV_c z1 y2.q y1, IV_c z1 y2, by rw [y3, z2], g.2.2 j, y4, z2⟩
theorem RgX_keep {h h' : MH} {nx : Nat} {g : RGy} (e1 : hfi h' 40 = hfi h 40) (eo : ∀ i, i < 17 → i ≠ nx → hfi h' (43 + 10 * i) = hfi h (43 + 10 * i) ∧ ∀ a, 43 + 10 * i < a → a ≤ 43 + 10 * i + 9 → hia h' a = hia h a) (e42 : hia h' 42 = hia h 42) (r : RgX h nx g) : RgX h' nx g := by
  obtain ⟨r1, r2, r3, r4, r6⟩ := r
  refine ⟨r1, r2, by rw [e1]; exact r3, by rw [e1]; exact r4, fun j hj => ?_⟩
  obtain ⟨x1, x2, x3, x4⟩ := r6 j hj
  have ne : rgP nx g.1 j ≠ nx := by unfold rgP; omega
  obtain ⟨o1, o2⟩ := eo _ (rgP_lt nx g.1 j) ne
  exact ⟨NeV_a o1 o2 x1, x2, by rw [e42]; exact x3, x4⟩
theorem RgX_push {h h2 : MH} {nx kd : Nat} {g : RGy} {p : RW} (hkd3 : kd < 3) (r : RgX h nx g) (iv : IV p) (e40 : hfi h2 40 2 = nI ((nx + 1) % 17) ∧ hfi h2 40 3 = nI (min 16 (g.1 + 1))) (eo : ∀ i, i < 17 → i ≠ nx → hfi h2 (43 + 10 * i) = hfi h (43 + 10 * i) ∧ ∀ a, 43 + 10 * i < a → a ≤ 43 + 10 * i + 9 → hia h2 a = hia h a) (en : NeV h2 (43 + 10 * nx) p) (e42 : hia h2 42 = up1 (hia h 42) nx (nI kd)) : RgX h2 ((nx + 1) % 17) (rgU g p kd) := by
  obtain ⟨r1, r2, r3, r4, r6⟩ := r
  have nn' : min 16 (g.1 + 1) = rmN g.1 := by unfold rmN; split <;> omega
  refine ⟨Nat.mod_lt _ (by omega), rmN_le r2, e40.1, by rw [e40.2, nn']; rfl, fun j hj => ?_⟩
  have hj' : j < rmN g.1 := hj
  show NeV h2 (43 + 10 * rgP ((nx + 1) % 17) (rmN g.1) j) (if g.1 = 16 then (if j = 15 then p else g.2.1 (j + 1)) else (if j = g.1 then p else g.2.1 j)) ∧ IV (if g.1 = 16 then (if j = 15 then p else g.2.1 (j + 1)) else (if j = g.1 then p else g.2.1 j)) ∧ hia h2 42 (rgP ((nx + 1) % 17) (rmN g.1) j) = nI (if g.1 = 16 then (if j = 15 then kd else g.2.2 (j + 1)) else (if j = g.1 then kd else g.2.2 j)) ∧ (if g.1 = 16 then (if j = 15 then kd else g.2.2 (j + 1)) else (if j = g.1 then kd else g.2.2 j)) < 3
  rw [e42]
  by_cases c16 : g.1 = 16
  · have rn : rmN g.1 = 16 := by unfold rmN; rw [if_pos c16]
    rw [rn] at hj' ⊢
    rw [if_pos c16, if_pos c16]
    by_cases cj : j = 15
    · have pl : rgP ((nx + 1) % 17) 16 j = nx := by rw [cj]; unfold rgP; omega
      rw [if_pos cj, if_pos cj, pl, up1_s]
      exact ⟨en, iv, rfl, hkd3⟩
    · have pl : rgP ((nx + 1) % 17) 16 j = rgP nx g.1 (j + 1) := by rw [c16]; unfold rgP; omega
      have ne : rgP nx g.1 (j + 1) ≠ nx := by rw [c16]; unfold rgP; omega
      obtain ⟨x1, x2, x3, x4⟩ := r6 (j + 1) (by omega)
      obtain ⟨o1, o2⟩ := eo (rgP nx g.1 (j + 1)) (rgP_lt _ _ _) ne
      rw [if_neg cj, if_neg cj, pl, up1_n _ _ ne]
      exact ⟨NeV_a o1 o2 x1, x2, x3, x4⟩
  · have rn : rmN g.1 = g.1 + 1 := by unfold rmN; rw [if_neg c16]
    rw [rn] at hj' ⊢
    rw [if_neg c16, if_neg c16]
    by_cases cj : j = g.1
    · have pl : rgP ((nx + 1) % 17) (g.1 + 1) j = nx := by rw [cj]; unfold rgP; omega
      rw [if_pos cj, if_pos cj, pl, up1_s]
      exact ⟨en, iv, rfl, hkd3⟩
    · have pl : rgP ((nx + 1) % 17) (g.1 + 1) j = rgP nx g.1 j := by unfold rgP; omega
      have ne : rgP nx g.1 j ≠ nx := by unfold rgP; omega
      obtain ⟨x1, x2, x3, x4⟩ := r6 j (by omega)
      obtain ⟨o1, o2⟩ := eo (rgP nx g.1 j) (rgP_lt _ _ _) ne
      rw [if_neg cj, if_neg cj, pl, up1_n _ _ ne]
      exact ⟨NeV_a o1 o2 x1, x2, x3, x4⟩
theorem RgM_push {h h3 : MH} {p q : RW} {g : RGy} {kd : Nat} {kept : Prop} (ky : kept) (m : MaF h h3 p q g.1 kd kept) (r : RgM h g) : RgM h3 (rgU g p kd) := by
  obtain ⟨r1, r2, r3⟩ := r
  obtain ⟨k1, k2, k3⟩ := m.2.2.2.2.2.2.1 ky
  refine ⟨rmN_le r1, k3, fun j hj => ?_⟩
  have hj' : j < rmN g.1 := hj
  show (∀ x, 5 ≤ x → x < 1754 → uR (hia h3 278) j x = (if g.1 = 16 then (if j = 15 then p else g.2.1 (j + 1)) else (if j = g.1 then p else g.2.1 j)) x) ∧ hia h3 279 j = nI (if g.1 = 16 then (if j = 15 then kd else g.2.2 (j + 1)) else (if j = g.1 then kd else g.2.2 j))
  rw [k1, k2]
  unfold rmO
  by_cases c16 : g.1 = 16
  · have rn : rmN g.1 = 16 := by unfold rmN; rw [if_pos c16]
    rw [rn] at hj'
    rw [if_pos c16, if_pos c16, if_pos c16]
    by_cases cj : j = 15
    · rw [if_pos cj, if_pos cj, cj, up1_s]
      exact ⟨fun x h1 h2 => (rmU_row (j := 0) r1 h1 h2).2.2.2 c16, rfl⟩
    · obtain ⟨z1, z2⟩ := r3 (j + 1) (by omega)
      rw [if_neg cj, if_neg cj, up1_n _ _ cj]
      unfold shF
      rw [if_pos (by omega)]
      exact ⟨fun x h1 h2 => ((rmU_row r1 h1 h2).2.2.1 c16 (by omega)).trans (z1 x h1 h2), z2⟩
  · have rn : rmN g.1 = g.1 + 1 := by unfold rmN; rw [if_neg c16]
    rw [rn] at hj'
    rw [if_neg c16, if_neg c16, if_neg c16]
    by_cases cj : j = g.1
    · rw [if_pos cj, if_pos cj, cj, up1_s]
      exact ⟨fun x h1 h2 => (rmU_row (j := 0) r1 h1 h2).2.1 (by omega), rfl⟩
    · obtain ⟨z1, z2⟩ := r3 j (by omega)
      rw [if_neg cj, if_neg cj, up1_n _ _ cj]
      exact ⟨fun x h1 h2 => ((rmU_row r1 h1 h2).1 (by omega) (by omega)).trans (z1 x h1 h2), z2⟩
