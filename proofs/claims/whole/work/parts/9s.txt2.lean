/-! ===== the program reads sums, times, a test ===== -/
set_option maxRecDepth 20000 in
theorem UC_Re_readsSums_60 {G : GT} (hG : Gmono G) (R : RT) (lm : Nat × Nat) : WP cd_Re_readsSums G R lm 0 = stp G R lm (1, 1, 2, 0, 0, 0, []) (WP cd_Re_readsSums G R lm) ∧ WP cd_Re_readsSums G R lm 1 = stp G R lm (48, 4, 8, 0, 0, 0, []) (WP cd_Re_readsSums G R lm) ∧ WP cd_Re_readsSums G R lm 4 = stp G R lm (7, 5, 0, 0, nI 3, 0, []) (WP cd_Re_readsSums G R lm) ∧ WP cd_Re_readsSums G R lm 5 = stp G R lm (40, 23, 0, 0, 0, 0, []) (WP cd_Re_readsSums G R lm) ∧ WP cd_Re_readsSums G R lm 8 = stp G R lm (1, 9, 2, 0, 0, 0, []) (WP cd_Re_readsSums G R lm) ∧ WP cd_Re_readsSums G R lm 9 = stp G R lm (7, 10, 0, 0, nI 2, 0, []) (WP cd_Re_readsSums G R lm) ∧ WP cd_Re_readsSums G R lm 10 = stp G R lm (41, 13, 18, 0, 0, 0, []) (WP cd_Re_readsSums G R lm) ∧ WP cd_Re_readsSums G R lm 13 = stp G R lm (1, 14, 2, 0, 0, 0, []) (WP cd_Re_readsSums G R lm) ∧ WP cd_Re_readsSums G R lm 14 = stp G R lm (7, 15, 0, 0, nI 3, 0, []) (WP cd_Re_readsSums G R lm) ∧ WP cd_Re_readsSums G R lm 15 = stp G R lm (42, 18, 22, 0, 0, 0, []) (WP cd_Re_readsSums G R lm) ∧ WP cd_Re_readsSums G R lm 18 = stp G R lm (7, 19, 0, 0, nI 1, 0, []) (WP cd_Re_readsSums G R lm) ∧ WP cd_Re_readsSums G R lm 19 = stp G R lm (40, 23, 0, 0, 0, 0, []) (WP cd_Re_readsSums G R lm) ∧ WP cd_Re_readsSums G R lm 22 = stp G R lm (7, 23, 0, 0, nI 0, 0, []) (WP cd_Re_readsSums G R lm) ∧ WP cd_Re_readsSums G R lm 23 = stp G R lm (4, 24, 3, 0, 0, 0, []) (WP cd_Re_readsSums G R lm) ∧ WP cd_Re_readsSums G R lm 24 = stp G R lm (7, 25, 0, 0, nI 0, 0, []) (WP cd_Re_readsSums G R lm) ∧ WP cd_Re_readsSums G R lm 25 = stp G R lm (4, 27, 4, 0, 0, 0, []) (WP cd_Re_readsSums G R lm) ∧ WP cd_Re_readsSums G R lm 29 = stp G R lm (1, 30, 3, 0, 0, 0, []) (WP cd_Re_readsSums G R lm) ∧ WP cd_Re_readsSums G R lm 30 = stp G R lm (44, 33, 98, 0, 0, 0, []) (WP cd_Re_readsSums G R lm) ∧ WP cd_Re_readsSums G R lm 33 = stp G R lm (1, 35, 4, 0, 0, 0, []) (WP cd_Re_readsSums G R lm) ∧ WP cd_Re_readsSums G R lm 35 = stp G R lm (52, 38, 60, 0, 0, 0, []) (WP cd_Re_readsSums G R lm) ∧ WP cd_Re_readsSums G R lm 38 = stp G R lm (2, 39, 0, 0, 0, 0, []) (WP cd_Re_readsSums G R lm) ∧ WP cd_Re_readsSums G R lm 39 = stp G R lm (1, 41, 4, 0, 0, 0, []) (WP cd_Re_readsSums G R lm) ∧ WP cd_Re_readsSums G R lm 41 = stp G R lm (7, 42, 0, 0, nI 1, 0, []) (WP cd_Re_readsSums G R lm) ∧ WP cd_Re_readsSums G R lm 42 = stp G R lm (42, 45, 50, 0, 0, 0, []) (WP cd_Re_readsSums G R lm) ∧ WP cd_Re_readsSums G R lm 45 = stp G R lm (10, 47, 7, 0, 0, 0, []) (WP cd_Re_readsSums G R lm) ∧ WP cd_Re_readsSums G R lm 47 = stp G R lm (40, 52, 0, 0, 0, 0, []) (WP cd_Re_readsSums G R lm) ∧ WP cd_Re_readsSums G R lm 50 = stp G R lm (10, 52, 8, 0, 0, 0, []) (WP cd_Re_readsSums G R lm) ∧ WP cd_Re_readsSums G R lm 52 = stp G R lm (86, 55, 49, 1, 0, 0, [4]) (WP cd_Re_readsSums G R lm) ∧ WP cd_Re_readsSums G R lm 55 = stp G R lm (48, 58, 60, 0, 0, 0, []) (WP cd_Re_readsSums G R lm) ∧ WP cd_Re_readsSums G R lm 58 = stp G R lm (7, 59, 0, 0, nI 0, 0, []) (WP cd_Re_readsSums G R lm) ∧ WP cd_Re_readsSums G R lm 59 = stp G R lm (81, 60, 1, 0, 0, 0, []) (WP cd_Re_readsSums G R lm) ∧ WP cd_Re_readsSums G R lm 61 = stp G R lm (58, 64, 4, 2, 0, 0, []) (WP cd_Re_readsSums G R lm) ∧ WP cd_Re_readsSums G R lm 64 = stp G R lm (1, 65, 1, 0, 0, 0, []) (WP cd_Re_readsSums G R lm) ∧ WP cd_Re_readsSums G R lm 65 = stp G R lm (7, 66, 0, 0, nI 3, 0, []) (WP cd_Re_readsSums G R lm) ∧ WP cd_Re_readsSums G R lm 66 = stp G R lm (12, 67, 0, 0, 0, 0, []) (WP cd_Re_readsSums G R lm) ∧ WP cd_Re_readsSums G R lm 67 = stp G R lm (1, 69, 4, 0, 0, 0, []) (WP cd_Re_readsSums G R lm) ∧ WP cd_Re_readsSums G R lm 69 = stp G R lm (12, 70, 0, 0, 0, 0, []) (WP cd_Re_readsSums G R lm) ∧ WP cd_Re_readsSums G R lm 70 = stp G R lm (2, 71, 0, 0, 0, 0, []) (WP cd_Re_readsSums G R lm) ∧ WP cd_Re_readsSums G R lm 71 = stp G R lm (56, 74, 4, 3, 0, 0, []) (WP cd_Re_readsSums G R lm) ∧ WP cd_Re_readsSums G R lm 74 = stp G R lm (66, 75, 0, 0, 0, 0, []) (WP cd_Re_readsSums G R lm) ∧ WP cd_Re_readsSums G R lm 75 = stp G R lm (2, 76, 0, 0, 0, 0, []) (WP cd_Re_readsSums G R lm) ∧ WP cd_Re_readsSums G R lm 76 = stp G R lm (7, 77, 0, 0, nI 2, 0, []) (WP cd_Re_readsSums G R lm) ∧ WP cd_Re_readsSums G R lm 77 = stp G R lm (7, 78, 0, 0, nI 0, 0, []) (WP cd_Re_readsSums G R lm) ∧ WP cd_Re_readsSums G R lm 78 = stp G R lm (86, 81, 56, 2, 0, 0, [4]) (WP cd_Re_readsSums G R lm) ∧ WP cd_Re_readsSums G R lm 81 = stp G R lm (48, 84, 86, 0, 0, 0, []) (WP cd_Re_readsSums G R lm) ∧ WP cd_Re_readsSums G R lm 84 = stp G R lm (7, 85, 0, 0, nI 0, 0, []) (WP cd_Re_readsSums G R lm) ∧ WP cd_Re_readsSums G R lm 85 = stp G R lm (81, 86, 1, 0, 0, 0, []) (WP cd_Re_readsSums G R lm) ∧ WP cd_Re_readsSums G R lm 86 = stp G R lm (2, 87, 0, 0, 0, 0, []) (WP cd_Re_readsSums G R lm) ∧ WP cd_Re_readsSums G R lm 87 = stp G R lm (7, 88, 0, 0, nI 0, 0, []) (WP cd_Re_readsSums G R lm) ∧ WP cd_Re_readsSums G R lm 88 = stp G R lm (7, 89, 0, 0, nI 0, 0, []) (WP cd_Re_readsSums G R lm) ∧ WP cd_Re_readsSums G R lm 89 = stp G R lm (86, 92, 50, 2, 0, 0, [4]) (WP cd_Re_readsSums G R lm) ∧ WP cd_Re_readsSums G R lm 92 = stp G R lm (11, 95, 4, 0, nI 1, 0, []) (WP cd_Re_readsSums G R lm) ∧ WP cd_Re_readsSums G R lm 95 = stp G R lm (40, 27, 0, 0, 0, 0, []) (WP cd_Re_readsSums G R lm) ∧ WP cd_Re_readsSums G R lm 98 = stp G R lm (7, 99, 0, 0, nI 1, 0, []) (WP cd_Re_readsSums G R lm) ∧ WP cd_Re_readsSums G R lm 99 = stp G R lm (81, 100, 1, 0, 0, 0, []) (WP cd_Re_readsSums G R lm) := ⟨WP_eq hG rfl, WP_eq hG rfl, WP_eq hG rfl, WP_eq hG rfl, WP_eq hG rfl, WP_eq hG rfl, WP_eq hG rfl, WP_eq hG rfl, WP_eq hG rfl, WP_eq hG rfl, WP_eq hG rfl, WP_eq hG rfl, WP_eq hG rfl, WP_eq hG rfl, WP_eq hG rfl, WP_eq hG rfl, WP_eq hG rfl, WP_eq hG rfl, WP_eq hG rfl, WP_eq hG rfl, WP_eq hG rfl, WP_eq hG rfl, WP_eq hG rfl, WP_eq hG rfl, WP_eq hG rfl, WP_eq hG rfl, WP_eq hG rfl, WP_eq hG rfl, WP_eq hG rfl, WP_eq hG rfl, WP_eq hG rfl, WP_eq hG rfl, WP_eq hG rfl, WP_eq hG rfl, WP_eq hG rfl, WP_eq hG rfl, WP_eq hG rfl, WP_eq hG rfl, WP_eq hG rfl, WP_eq hG rfl, WP_eq hG rfl, WP_eq hG rfl, WP_eq hG rfl, WP_eq hG rfl, WP_eq hG rfl, WP_eq hG rfl, WP_eq hG rfl, WP_eq hG rfl, WP_eq hG rfl, WP_eq hG rfl, WP_eq hG rfl, WP_eq hG rfl, WP_eq hG rfl, WP_eq hG rfl, WP_eq hG rfl⟩
theorem bW_adv {T : TP} {q x : Nat} (hq : q ≤ T.2) (hx : x < 22) (h : bW T q x = true) : q + 2 ≤ tBe T q ∧ tBe T q ≤ T.2 := by
  have ta := tAt_le T q
  have bl := bW_len h
  have : 2 ≤ (wds x).length := by
    have : ∀ x, x < 22 → 2 ≤ (wds x).length := by decide
    exact this x hx
  exact ⟨by omega, tBe_N T hq⟩
theorem x_l_sums (d b : Nat) {T : TP} {om : Nat} (hom : om ≤ 1) (hb : b ≤ 66) (w2 : Option Value) (Q : RT) (lm : Nat × Nat) : ∀ (m i q k cl : Nat) (h : MH) (vs : Nat → VAL), i + m ≤ 3 → k ≤ 50 → RS h T om q k cl → cl + T.2 < 448 + q + (if i = 0 then 0 else 1) → SmK h T om q cl b i m Q (pSm T om m i q k vs) → WP cd_Re_readsSums (callD (d + 164)) Q lm 27 [] [some (.ref 213), some (.int (nI b)), w2, some (.int (nI (i + m))), some (.int (nI i))] h
  | 0, i, q, k, cl, h, vs, him, hk, r, hc, K => by
    have Y := K h cl (RG.refl h) r rfl (Nat.le_refl _) (by omega) (fun _ _ => rfl) (fun _ _ => rfl) (fun j a b => by omega)
    rw [U_Re_readsSums_27 (cm _)]
    simp (disch := omega) only [U_Re_readsSums (cm _), SA, SB, SC1, SC2, SG, SV, leI, Nat.add_zero, Nat.le_refl, true_or, or_true, true_implies, not_true_eq_false, not_false_eq_true, false_implies, true_and, and_true]
    exact Y
  | m + 1, i, q, k, cl, h, vs, him, hk, r, hc, K => by
    have s := r.1
    unfold XSr at s
    have hq := r.2.1.2.2.1
    have lt : ¬ i + (m + 1) ≤ i := by omega
    have go : ∀ (qs : Nat) (h1 : MH), RG h h1 → hfi h1 213 6 = hfi h 213 6 → hia h1 216 = hia h 216 → hia h1 217 = hia h 217 → RS h1 T om qs k cl → cl + T.2 < 448 + qs → (qs = q ∧ i = 0 ∨ q + 2 ≤ qs) → SmK h T om q cl b i (m + 1) Q (match pCh T om 40 2 0 qs k with
        | .error f => .error f
        | .ok (v, q2, k2) => pSm T om m (i + 1) q2 k2 (up1 vs i v)) → WP cd_Re_readsSums (callD (d + 164)) Q lm 60 [] [some (.ref 213), some (.int (nI b)), w2, some (.int (nI (i + (m + 1)))), some (.int (nI i))] h1 := fun qs h1 f0 g6 g216 g217 r1 hcs hqs K => by
      refine x_s60 d b i qs k cl hom hb (by omega) hk r1 hcs w2 (nI (i + (m + 1))) Q lm (fun f e => by rw [e] at K; exact fun h' eg => K h' (EG.pre f0 eg)) (fun v q2 k2 e h' cl' f1 r1 e6 c1 c2 c3 kc cw xe => ?_)
      rw [e] at K
      simp only at K
      have k50 := (kCh T om 40 2 0 qs k v q2 k2 e).1 hk
      have recu := x_l_sums d b hom hb w2 Q lm m (i + 1) q2 k2 cl' h' (up1 vs i v) (by omega) k50 r1 (by rw [if_neg (by omega)]; omega)
      rw [show i + 1 + m = i + (m + 1) by omega] at recu
      refine recu ?_
      cases hs : pSm T om m (i + 1) q2 k2 (up1 vs i v) with
      | error f =>
        rw [hs] at K
        exact fun h2 e2 => K h2 (EG.pre (f0.trans f1) e2)
      | ok w =>
        obtain ⟨vs', q', k'⟩ := w
        rw [hs] at K
        intro h2 cl2 f2 r2 y6 d1 d2 kc2 kw2 xs2
        rw [if_neg (by omega)] at d2
        refine K h2 cl2 ((f0.trans f1).trans f2) r2 ((y6.trans e6).trans g6) (by omega) ?_ (fun j hj => by rw [kc2 j (by omega), kc j hj, g216]) (fun x hx => ?_) (fun j j1 j2 => ?_)
        · split
          · omega
          · next z => omega
        · rw [kw2 x (by omega), cw, up1_n _ _ (by omega), g217]
        · by_cases ej : j = i
          · subst ej
            refine ⟨cl, by omega, ?_, ?_⟩
            · rw [kw2 _ (by omega), cw, up1_s]
            · rw [pSm_lo m (j + 1) q2 k2 (up1 vs j v) hs j (by omega), up1_s]
              exact xe.of d1 kc2
          · exact xs2 j (by omega) (by omega)
    unfold pSm at K
    rw [U_Re_readsSums_27 (cm _)]
    by_cases i0 : i = 0
    · subst i0
      rw [if_pos (Or.inl rfl), if_pos rfl] at K
      rw [if_pos rfl] at hc
      have Y := go q h (RG.refl h) rfl rfl rfl r (by omega) (Or.inl ⟨rfl, rfl⟩) K
      clear go K
      simp (disch := omega) only [UC_Re_readsSums_60 (cm _), SA, SB, SC1, SC2, SG, SV, leI, lt, Nat.le_refl, true_or, or_true, true_implies, not_true_eq_false, not_false_eq_true, false_implies, true_and, and_true]
      exact Y
    · rw [if_neg i0] at K hc
      have li : ¬ i ≤ 0 := by omega
      have GO : bW T q (4 + i) = true → WP cd_Re_readsSums (callD (d + 164)) Q lm 60 [] [some (.ref 213), some (.int (nI b)), w2, some (.int (nI (i + (m + 1)))), some (.int (nI i))] (avH h T q) := fun c => by
        rw [if_pos (Or.inr c)] at K
        obtain ⟨a1, a2⟩ := bW_adv hq (by omega) c
        exact go (tBe T q) (avH h T q) (RF_av h T q).G (by rw [av_6]) rfl rfl (RS_av r) (by omega) (Or.inr a1) K
      have BD : bW T q (4 + i) = false → Q (some (.int (nI 0))) (flH h) := fun c => by
        rw [if_neg (fun z => by rcases z with z | z; exact i0 z; rw [c] at z; cases z)] at K
        exact K (flH h) ⟨(RF_fl h).G, fl_6 r⟩
      clear go K
      rcases (show i = 1 ∨ i = 2 by omega) with rfl | rfl
      · have TW := fun Q => r_takesWord (d + 161) 5 (by omega) r Q
        cases c : bW T q 5 with
        | true =>
          rw [c] at TW
          simp only [if_true] at TW
          have Y := GO c
          generalize avH h T q = h1 at *
          simp (disch := omega) only [UC_Re_readsSums_60 (cm _), SA, SB, SC1, SC2, SG, SV, s, TW, leI, eqI, lt, li, Nat.one_ne_zero, true_or, or_true, true_implies, not_true_eq_false, not_false_eq_true, false_implies, true_and, and_true]
          exact Y
        | false =>
          rw [c] at TW
          simp only [Bool.false_eq_true, if_false] at TW
          have Y := BD c
          generalize flH h = h1 at *
          simp (disch := omega) only [UC_Re_readsSums_60 (cm _), SA, SB, SC1, SC2, SG, SV, s, TW, leI, eqI, lt, li, Nat.one_ne_zero, true_or, or_true, true_implies, not_true_eq_false, not_false_eq_true, false_implies, true_and, and_true]
          exact Y
      · have TW := fun Q => r_takesWord (d + 161) 6 (by omega) r Q
        cases c : bW T q 6 with
        | true =>
          rw [c] at TW
          simp only [if_true] at TW
          have Y := GO c
          generalize avH h T q = h1 at *
          simp (disch := omega) only [UC_Re_readsSums_60 (cm _), SA, SB, SC1, SC2, SG, SV, s, TW, leI, eqI, lt, li, Nat.one_ne_zero, Nat.reduceEqDiff, true_or, or_true, true_implies, not_true_eq_false, not_false_eq_true, false_implies, true_and, and_true]
          exact Y
        | false =>
          rw [c] at TW
          simp only [Bool.false_eq_true, if_false] at TW
          have Y := BD c
          generalize flH h = h1 at *
          simp (disch := omega) only [UC_Re_readsSums_60 (cm _), SA, SB, SC1, SC2, SG, SV, s, TW, leI, eqI, lt, li, Nat.one_ne_zero, Nat.reduceEqDiff, true_or, or_true, true_implies, not_true_eq_false, not_false_eq_true, false_implies, true_and, and_true]
          exact Y
/-- which kind's number it is with the program -/
def kdX (om kd : Nat) : Nat := if om = 0 then kd + 3 else kd
theorem x_sums (d b kd q k cl : Nat) {T : TP} {om : Nat} (hom : om = 0 ∧ kd ≤ 1 ∨ om = 1 ∧ kd ≤ 2) (hb : b ≤ 66) (hk : k ≤ 50) {h : MH} (r : RS h T om q k cl) (hc : cl + T.2 < 448 + q) (Q : RT) (K : SmK h T om q cl b 0 (nSm om kd) Q (pSm T om (nSm om kd) 0 q k (fun _ => vZ))) : callD (d + 165) 53 [.ref 213, .int (nI b), .int (nI (kdX om kd))] h Q := by
  have L := fun w2 lm => x_l_sums d b (om := om) (by omega) hb w2 Q lm (nSm om kd) 0 q k cl h (fun _ => vZ) (by unfold nSm; split; split <;> omega; split; omega; split <;> omega) hk r (by rw [if_pos rfl]; exact hc) K
  clear K
  rw [E_Re_readsSums]
  rcases (show (om = 0 ∧ kd = 0) ∨ (om = 0 ∧ kd = 1) ∨ (om = 1 ∧ kd = 0) ∨ (om = 1 ∧ kd = 1) ∨ (om = 1 ∧ kd = 2) by omega) with ⟨rfl, rfl⟩ | ⟨rfl, rfl⟩ | ⟨rfl, rfl⟩ | ⟨rfl, rfl⟩ | ⟨rfl, rfl⟩
  all_goals
    unfold kdX
    simp only [nSm, Nat.one_ne_zero, Nat.reduceEqDiff, if_true, if_false, Nat.zero_add, Nat.reduceAdd] at L ⊢
    simp (disch := omega) only [U_Re_readsSums (cm _), SA, SB, SC1, SC2, SG, SV, eqI, Nat.one_ne_zero, Nat.reduceEqDiff, true_or, or_true, true_implies, not_true_eq_false, not_false_eq_true, false_implies, true_and, and_true]
    exact L _ _
def TmK (h : MH) (T : TP) (om k cl b : Nat) (Q : RT) : Except Nat (Nat × Nat) → Prop
  | .error f => ∀ h', EG h h' f → Q (some (.int (nI 0))) h'
  | .ok (n, q') => ∀ h', RG h h' → RS h' T om q' k cl → hfi h' 213 6 = hfi h 213 6 → hia h' 216 = hia h 216 → (n = 1 ∧ hia h' 217 = hia h 217 ∨ hia h' 217 = up1 (hia h 217) (b + 1) (nI n)) → Q (some (.int (nI 1))) h'
theorem x_times (d b q k cl : Nat) {T : TP} {om : Nat} (hom : om ≤ 1) (hb : b ≤ 66) {h : MH} (r : RS h T om q k cl) (Q : RT) (K : TmK h T om k cl b Q (pTm T om q)) : callD (d + 3) 54 [.ref 213, .int (nI b)] h Q := by
  have s := r.1
  unfold XSr at s
  have hq := r.2.1.2.2.1
  have e5 : hfi h 213 5 = nI om := r.2.2.2.2
  unfold pTm at K
  rw [E_Re_readsTimes]
  by_cases c : om = 1 ∧ bW T q 20 = true
  · rw [if_pos c] at K
    obtain ⟨rfl, cw⟩ := c
    have W := fun Q => x_hasWord (d + 1) q 20 (by omega) r.2.1 Q
    rw [cw, b2_t] at W
    have AV := fun Q => r_adv d r Q
    have R1 := RS_av r
    have N := fun Q => x_hasNumber (d + 1) (tBe T q) 1 20 (by omega) (by omega) R1.2.1 Q
    have s1 := R1.1
    unfold XSr at s1
    cases cn : bN T (tBe T q) 1 20 with
    | false =>
      rw [if_neg (by rw [cn]; decide)] at K
      rw [cn, b2_f] at N
      have FL := fun Q => r_fails (d + 1) R1 Q
      have Y := K (flH (avH h T q)) ⟨((RF_av h T q).trans (RF_fl _)).G, fl_6 R1⟩
      generalize flH (avH h T q) = h2 at *
      generalize avH h T q = h1 at *
      simp (disch := omega) only [U_Re_readsTimes (cm _), SA, SB, SC1, SC2, SG, SV, s, s1, e5, W, AV, N, FL, eqI, Nat.one_ne_zero, true_or, or_true, true_implies, not_true_eq_false, not_false_eq_true, false_implies, true_and, and_true]
      exact Y
    | true =>
      rw [if_pos cn] at K
      rw [cn, b2_t] at N
      have i1 := bN_t.mp cn
      have e6 : hfi (avH h T q) 214 5 = nI (nmX T (tBe T q)) := R1.2.1.2.2.2.2.2.2.2
      have R2 := RS_c R1 (up1 (hia h 217) (b + 1) (nI (nmV T (tBe T q))))
      have AV2 := fun Q => r_adv d R2 Q
      have R3 := RS_av R2
      have Y := K _ (((RF_av h T q).G.trans (RG_c _ _)).trans (RF_av _ T (tBe T q)).G) R3 (by rw [av_6]; show hfi (avH h T q) 213 6 = _; rw [av_6]) (by show hia (sIA (avH h T q) 217 _) 216 = _; rw [hia_n _ _ (by omega)]; rfl) (Or.inr (by show hia (sIA (avH h T q) 217 _) 217 = _; rw [hia_s]))
      have ex : nmX T (tBe T q) = nmV T (tBe T q) := (nm_of (by omega) cn).1
      rw [ex] at e6
      have g7 : hia (avH h T q) 217 = hia h 217 := rfl
      generalize avH h T q = h1 at *
      have s2 := R2.1
      unfold XSr at s2
      generalize avH (sIA h1 217 (up1 (hia h 217) (b + 1) (nI (nmV T (tBe T q))))) T (tBe T q) = h3 at *
      simp (disch := omega) only [U_Re_readsTimes (cm _), SA, SB, SC1, SC2, SG, SV, SM, s, s1, s2, e5, e6, g7, W, AV, N, AV2, nI_add, nI_clamp, in_eq, Nat.reduceLeDiff, eqI, Nat.one_ne_zero, true_or, or_true, true_implies, not_true_eq_false, not_false_eq_true, false_implies, true_and, and_true]
      exact Y
  · rw [if_neg c] at K
    have Y := K h (RG.refl h) r rfl rfl (Or.inl ⟨rfl, rfl⟩)
    rcases (show om = 0 ∨ om = 1 by omega) with rfl | rfl
    · simp (disch := omega) only [U_Re_readsTimes (cm _), SA, SB, SC1, SC2, SG, SV, s, e5, eqI, Nat.one_ne_zero, true_or, or_true, true_implies, not_true_eq_false, not_false_eq_true, false_implies, true_and, and_true]
      exact Y
    · have cw : bW T q 20 = false := by
        cases z : bW T q 20 with
        | false => rfl
        | true => exact absurd ⟨rfl, z⟩ c
      have W := fun Q => x_hasWord (d + 1) q 20 (by omega) r.2.1 Q
      rw [cw, b2_f] at W
      simp (disch := omega) only [U_Re_readsTimes (cm _), SA, SB, SC1, SC2, SG, SV, s, e5, W, eqI, Nat.one_ne_zero, true_or, or_true, true_implies, not_true_eq_false, not_false_eq_true, false_implies, true_and, and_true]
      exact Y
