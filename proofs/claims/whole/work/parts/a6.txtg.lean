/-! ===== the reference reads a text ===== -/
def COw (h : MH) (cf : CFt) (nc j : Nat) (x : CLA) : Prop := MClO (hia h 298) cf nc (10 * j) x
set_option maxRecDepth 20000 in
theorem UC_Mo_orders_50 {G : GT} (hG : Gmono G) (R : RT) (lm : Nat × Nat) : WP cd_Mo_orders G R lm 0 = stp G R lm (2, 1, 0, 0, 0, 0, []) (WP cd_Mo_orders G R lm) ∧ WP cd_Mo_orders G R lm 1 = stp G R lm (7, 2, 0, 0, nI 0, 0, []) (WP cd_Mo_orders G R lm) ∧ WP cd_Mo_orders G R lm 2 = stp G R lm (59, 5, 8, 0, 0, 0, []) (WP cd_Mo_orders G R lm) ∧ WP cd_Mo_orders G R lm 5 = stp G R lm (2, 6, 0, 0, 0, 0, []) (WP cd_Mo_orders G R lm) ∧ WP cd_Mo_orders G R lm 6 = stp G R lm (7, 7, 0, 0, (-1), 0, []) (WP cd_Mo_orders G R lm) ∧ WP cd_Mo_orders G R lm 7 = stp G R lm (59, 10, 8, 48, 0, 0, []) (WP cd_Mo_orders G R lm) ∧ WP cd_Mo_orders G R lm 10 = stp G R lm (2, 11, 0, 0, 0, 0, []) (WP cd_Mo_orders G R lm) ∧ WP cd_Mo_orders G R lm 11 = stp G R lm (7, 12, 0, 0, nI 1, 0, []) (WP cd_Mo_orders G R lm) ∧ WP cd_Mo_orders G R lm 12 = stp G R lm (86, 15, 187, 1, 0, 0, [8]) (WP cd_Mo_orders G R lm) ∧ WP cd_Mo_orders G R lm 15 = stp G R lm (2, 16, 0, 0, 0, 0, []) (WP cd_Mo_orders G R lm) ∧ WP cd_Mo_orders G R lm 16 = stp G R lm (86, 19, 237, 0, 0, 0, [8]) (WP cd_Mo_orders G R lm) ∧ WP cd_Mo_orders G R lm 20 = stp G R lm (56, 23, 8, 19, 0, 0, []) (WP cd_Mo_orders G R lm) ∧ WP cd_Mo_orders G R lm 23 = stp G R lm (48, 26, 46, 0, 0, 0, []) (WP cd_Mo_orders G R lm) ∧ WP cd_Mo_orders G R lm 26 = stp G R lm (2, 27, 0, 0, 0, 0, []) (WP cd_Mo_orders G R lm) ∧ WP cd_Mo_orders G R lm 27 = stp G R lm (7, 29, 0, 0, nI 59, 0, []) (WP cd_Mo_orders G R lm) ∧ WP cd_Mo_orders G R lm 29 = stp G R lm (86, 32, 168, 1, 0, 0, [8]) (WP cd_Mo_orders G R lm) ∧ WP cd_Mo_orders G R lm 32 = stp G R lm (47, 35, 46, 0, 0, 0, []) (WP cd_Mo_orders G R lm) ∧ WP cd_Mo_orders G R lm 35 = stp G R lm (2, 36, 0, 0, 0, 0, []) (WP cd_Mo_orders G R lm) ∧ WP cd_Mo_orders G R lm 36 = stp G R lm (86, 39, 166, 0, 0, 0, [8]) (WP cd_Mo_orders G R lm) ∧ WP cd_Mo_orders G R lm 39 = stp G R lm (2, 40, 0, 0, 0, 0, []) (WP cd_Mo_orders G R lm) ∧ WP cd_Mo_orders G R lm 40 = stp G R lm (86, 43, 237, 0, 0, 0, [8]) (WP cd_Mo_orders G R lm) ∧ WP cd_Mo_orders G R lm 43 = stp G R lm (40, 19, 0, 0, 0, 0, []) (WP cd_Mo_orders G R lm) ∧ WP cd_Mo_orders G R lm 46 = stp G R lm (2, 47, 0, 0, 0, 0, []) (WP cd_Mo_orders G R lm) ∧ WP cd_Mo_orders G R lm 47 = stp G R lm (86, 50, 188, 0, 0, 0, [8]) (WP cd_Mo_orders G R lm) ∧ WP cd_Mo_orders G R lm 51 = stp G R lm (56, 54, 8, 19, 0, 0, []) (WP cd_Mo_orders G R lm) ∧ WP cd_Mo_orders G R lm 54 = stp G R lm (47, 57, 64, 0, 0, 0, []) (WP cd_Mo_orders G R lm) ∧ WP cd_Mo_orders G R lm 57 = stp G R lm (2, 58, 0, 0, 0, 0, []) (WP cd_Mo_orders G R lm) ∧ WP cd_Mo_orders G R lm 58 = stp G R lm (7, 60, 0, 0, (-6), 0, []) (WP cd_Mo_orders G R lm) ∧ WP cd_Mo_orders G R lm 60 = stp G R lm (86, 63, 133, 1, 0, 0, [8]) (WP cd_Mo_orders G R lm) ∧ WP cd_Mo_orders G R lm 63 = stp G R lm (81, 64, 0, 0, 0, 0, []) (WP cd_Mo_orders G R lm) ∧ WP cd_Mo_orders G R lm 64 = stp G R lm (2, 65, 0, 0, 0, 0, []) (WP cd_Mo_orders G R lm) ∧ WP cd_Mo_orders G R lm 65 = stp G R lm (86, 68, 241, 0, 0, 0, [8]) (WP cd_Mo_orders G R lm) ∧ WP cd_Mo_orders G R lm 68 = stp G R lm (4, 69, 1, 0, 0, 0, []) (WP cd_Mo_orders G R lm) ∧ WP cd_Mo_orders G R lm 69 = stp G R lm (2, 70, 0, 0, 0, 0, []) (WP cd_Mo_orders G R lm) ∧ WP cd_Mo_orders G R lm 70 = stp G R lm (7, 71, 0, 0, nI 0, 0, []) (WP cd_Mo_orders G R lm) ∧ WP cd_Mo_orders G R lm 71 = stp G R lm (59, 74, 8, 46, 0, 0, []) (WP cd_Mo_orders G R lm) ∧ WP cd_Mo_orders G R lm 74 = stp G R lm (2, 75, 0, 0, 0, 0, []) (WP cd_Mo_orders G R lm) ∧ WP cd_Mo_orders G R lm 75 = stp G R lm (7, 76, 0, 0, (-1), 0, []) (WP cd_Mo_orders G R lm) ∧ WP cd_Mo_orders G R lm 76 = stp G R lm (59, 79, 8, 47, 0, 0, []) (WP cd_Mo_orders G R lm) ∧ WP cd_Mo_orders G R lm 79 = stp G R lm (7, 80, 0, 0, nI 0, 0, []) (WP cd_Mo_orders G R lm) ∧ WP cd_Mo_orders G R lm 80 = stp G R lm (4, 81, 2, 0, 0, 0, []) (WP cd_Mo_orders G R lm) ∧ WP cd_Mo_orders G R lm 82 = stp G R lm (2, 83, 0, 0, 0, 0, []) (WP cd_Mo_orders G R lm) ∧ WP cd_Mo_orders G R lm 83 = stp G R lm (56, 86, 8, 21, 0, 0, []) (WP cd_Mo_orders G R lm) ∧ WP cd_Mo_orders G R lm 86 = stp G R lm (44, 89, 147, 0, 0, 0, []) (WP cd_Mo_orders G R lm) ∧ WP cd_Mo_orders G R lm 89 = stp G R lm (7, 90, 0, 0, nI 0, 0, []) (WP cd_Mo_orders G R lm) ∧ WP cd_Mo_orders G R lm 90 = stp G R lm (4, 91, 3, 0, 0, 0, []) (WP cd_Mo_orders G R lm) ∧ WP cd_Mo_orders G R lm 92 = stp G R lm (2, 93, 0, 0, 0, 0, []) (WP cd_Mo_orders G R lm) ∧ WP cd_Mo_orders G R lm 93 = stp G R lm (58, 96, 8, 45, 0, 0, []) (WP cd_Mo_orders G R lm) ∧ WP cd_Mo_orders G R lm 96 = stp G R lm (7, 98, 0, 0, nI 10, 0, []) (WP cd_Mo_orders G R lm) ∧ WP cd_Mo_orders G R lm 98 = stp G R lm (1, 99, 2, 0, 0, 0, []) (WP cd_Mo_orders G R lm) ∧ WP cd_Mo_orders G R lm 99 = stp G R lm (14, 100, 0, 0, 0, 0, []) (WP cd_Mo_orders G R lm) ∧ WP cd_Mo_orders G R lm 100 = stp G R lm (7, 102, 0, 0, nI 7, 0, []) (WP cd_Mo_orders G R lm) ∧ WP cd_Mo_orders G R lm 102 = stp G R lm (12, 103, 0, 0, 0, 0, []) (WP cd_Mo_orders G R lm) ∧ WP cd_Mo_orders G R lm 103 = stp G R lm (62, 104, 0, 0, 0, 0, []) (WP cd_Mo_orders G R lm) ∧ WP cd_Mo_orders G R lm 104 = stp G R lm (44, 107, 141, 0, 0, 0, []) (WP cd_Mo_orders G R lm) ∧ WP cd_Mo_orders G R lm 107 = stp G R lm (2, 108, 0, 0, 0, 0, []) (WP cd_Mo_orders G R lm) ∧ WP cd_Mo_orders G R lm 108 = stp G R lm (7, 110, 0, 0, nI 10, 0, []) (WP cd_Mo_orders G R lm) ∧ WP cd_Mo_orders G R lm 110 = stp G R lm (1, 111, 2, 0, 0, 0, []) (WP cd_Mo_orders G R lm) ∧ WP cd_Mo_orders G R lm 111 = stp G R lm (14, 112, 0, 0, 0, 0, []) (WP cd_Mo_orders G R lm) ∧ WP cd_Mo_orders G R lm 112 = stp G R lm (86, 115, 239, 1, 0, 0, [8]) (WP cd_Mo_orders G R lm) ∧ WP cd_Mo_orders G R lm 115 = stp G R lm (50, 118, 135, 0, 0, 0, []) (WP cd_Mo_orders G R lm) ∧ WP cd_Mo_orders G R lm 118 = stp G R lm (2, 119, 0, 0, 0, 0, []) (WP cd_Mo_orders G R lm) ∧ WP cd_Mo_orders G R lm 119 = stp G R lm (1, 120, 1, 0, 0, 0, []) (WP cd_Mo_orders G R lm) ∧ WP cd_Mo_orders G R lm 120 = stp G R lm (86, 123, 242, 1, 0, 0, [8]) (WP cd_Mo_orders G R lm) ∧ WP cd_Mo_orders G R lm 123 = stp G R lm (2, 124, 0, 0, 0, 0, []) (WP cd_Mo_orders G R lm) ∧ WP cd_Mo_orders G R lm 124 = stp G R lm (1, 125, 2, 0, 0, 0, []) (WP cd_Mo_orders G R lm) ∧ WP cd_Mo_orders G R lm 125 = stp G R lm (59, 128, 8, 48, 0, 0, []) (WP cd_Mo_orders G R lm) ∧ WP cd_Mo_orders G R lm 128 = stp G R lm (2, 129, 0, 0, 0, 0, []) (WP cd_Mo_orders G R lm) ∧ WP cd_Mo_orders G R lm 129 = stp G R lm (7, 131, 0, 0, (-3), 0, []) (WP cd_Mo_orders G R lm) ∧ WP cd_Mo_orders G R lm 131 = stp G R lm (86, 134, 133, 1, 0, 0, [8]) (WP cd_Mo_orders G R lm) ∧ WP cd_Mo_orders G R lm 134 = stp G R lm (81, 135, 0, 0, 0, 0, []) (WP cd_Mo_orders G R lm) ∧ WP cd_Mo_orders G R lm 135 = stp G R lm (11, 138, 3, 0, nI 1, 0, []) (WP cd_Mo_orders G R lm) ∧ WP cd_Mo_orders G R lm 138 = stp G R lm (40, 91, 0, 0, 0, 0, []) (WP cd_Mo_orders G R lm) ∧ WP cd_Mo_orders G R lm 141 = stp G R lm (11, 144, 2, 0, nI 1, 0, []) (WP cd_Mo_orders G R lm) ∧ WP cd_Mo_orders G R lm 144 = stp G R lm (40, 81, 0, 0, 0, 0, []) (WP cd_Mo_orders G R lm) ∧ WP cd_Mo_orders G R lm 147 = stp G R lm (2, 148, 0, 0, 0, 0, []) (WP cd_Mo_orders G R lm) ∧ WP cd_Mo_orders G R lm 148 = stp G R lm (2, 149, 0, 0, 0, 0, []) (WP cd_Mo_orders G R lm) ∧ WP cd_Mo_orders G R lm 149 = stp G R lm (56, 152, 8, 46, 0, 0, []) (WP cd_Mo_orders G R lm) ∧ WP cd_Mo_orders G R lm 152 = stp G R lm (86, 155, 133, 1, 0, 0, [8]) (WP cd_Mo_orders G R lm) ∧ WP cd_Mo_orders G R lm 155 = stp G R lm (81, 156, 0, 0, 0, 0, []) (WP cd_Mo_orders G R lm) := ⟨WP_eq hG rfl, WP_eq hG rfl, WP_eq hG rfl, WP_eq hG rfl, WP_eq hG rfl, WP_eq hG rfl, WP_eq hG rfl, WP_eq hG rfl, WP_eq hG rfl, WP_eq hG rfl, WP_eq hG rfl, WP_eq hG rfl, WP_eq hG rfl, WP_eq hG rfl, WP_eq hG rfl, WP_eq hG rfl, WP_eq hG rfl, WP_eq hG rfl, WP_eq hG rfl, WP_eq hG rfl, WP_eq hG rfl, WP_eq hG rfl, WP_eq hG rfl, WP_eq hG rfl, WP_eq hG rfl, WP_eq hG rfl, WP_eq hG rfl, WP_eq hG rfl, WP_eq hG rfl, WP_eq hG rfl, WP_eq hG rfl, WP_eq hG rfl, WP_eq hG rfl, WP_eq hG rfl, WP_eq hG rfl, WP_eq hG rfl, WP_eq hG rfl, WP_eq hG rfl, WP_eq hG rfl, WP_eq hG rfl, WP_eq hG rfl, WP_eq hG rfl, WP_eq hG rfl, WP_eq hG rfl, WP_eq hG rfl, WP_eq hG rfl, WP_eq hG rfl, WP_eq hG rfl, WP_eq hG rfl, WP_eq hG rfl, WP_eq hG rfl, WP_eq hG rfl, WP_eq hG rfl, WP_eq hG rfl, WP_eq hG rfl, WP_eq hG rfl, WP_eq hG rfl, WP_eq hG rfl, WP_eq hG rfl, WP_eq hG rfl, WP_eq hG rfl, WP_eq hG rfl, WP_eq hG rfl, WP_eq hG rfl, WP_eq hG rfl, WP_eq hG rfl, WP_eq hG rfl, WP_eq hG rfl, WP_eq hG rfl, WP_eq hG rfl, WP_eq hG rfl, WP_eq hG rfl, WP_eq hG rfl, WP_eq hG rfl, WP_eq hG rfl, WP_eq hG rfl, WP_eq hG rfl, WP_eq hG rfl, WP_eq hG rfl, WP_eq hG rfl⟩
theorem m_or19E (d : Nat) {h : MH} {f : Nat} (e : MErz h f) (lm : Nat × Nat) (Q : RT) (Y : WP cd_Mo_orders (callD (d + 1)) Q lm 50 [] [some (.ref 273), none, none, none] (etH h)) : WP cd_Mo_orders (callD (d + 1)) Q lm 19 [] [some (.ref 273), none, none, none] h := by
  have k8 := e.2.2.cls.1
  have b := e.1
  have ET := fun Q => m_endTextE d e Q
  generalize etH h = h2 at *
  rw [U_Mo_orders_19 (cm _)]
  simp (disch := omega) only [UC_Mo_orders_50 (cm _), SA, SB, SC1, SC2, SG, SV, k8, b, ET, eqI, Nat.one_ne_zero, true_implies, not_true_eq_false, not_false_eq_true, false_implies, true_and, and_true]
  exact Y
theorem m_l_or19 (d : Nat) {T : TP} {h0 : MH} (Q : RT) (lm : Nat × Nat) : ∀ (m i q k : Nat) (cf : CFt) (nc : Nat) (h : MH) (cs0 : List CLA), i + m = 12 → cs0.length = i → MTG h0 h → HDM h → MRz h T 1 q cf nc k → k ≤ 50 → nc < q → CV 1 cf nc → hfi h 273 21 = nI i → (∀ j x, cs0[j]? = some x → COw h cf nc j x) → TxK 1 COw h0 cs0 (fun h' => WP cd_Mo_orders (callD (d + 10)) Q lm 50 [] [some (.ref 273), none, none, none] h') (pBh T 1 m q k) → WP cd_Mo_orders (callD (d + 10)) Q lm 19 [] [some (.ref 273), none, none, none] h := by
  intro m
  induction m using Nat.strongRecOn with
  | _ m ih =>
  intro i q k cf nc h cs0 him hcs F0 hd r hk hn cv h21 X K
  have k8 := r.1.1.1
  have b := r.2.2.2.1
  have hq := r.1.2.2.1
  have S := fun Q => m_isSign (d + 9) q 59 (by omega) r.1 Q
  have ET := fun Q => m_endText (d + 6) r Q
  unfold pBh at K
  rw [U_Mo_orders_19 (cm _)]
  by_cases t : tTy T q = 0
  · rw [if_pos t] at K
    simp only [if_pos t] at ET
    have c : bG T q 59 = false := by
      cases z : bG T q 59 with
      | false => rfl
      | true => exact absurd t (bG_ty z)
    rw [c, b2_f] at S
    have Y := TxK_ok F0 r cv (by rw [h21, hcs]) (fun j x hj => X j x hj) K
    generalize etH h = h2 at *
    simp (disch := omega) only [UC_Mo_orders_50 (cm _), SA, SB, SC1, SC2, SG, SV, k8, b, S, ET, eqI, Nat.one_ne_zero, true_implies, not_true_eq_false, not_false_eq_true, false_implies, true_and, and_true]
    exact Y
  · rw [if_neg t] at K
    simp only [if_neg t] at ET
    cases c : bG T q 59 with
    | false =>
      rw [if_neg (by rw [c]; decide)] at K
      rw [c, b2_f] at S
      obtain ⟨B1, B2⟩ := MRz_bd r
      have Y := TxK_er (F0.trans B2.T.G) B1 K
      generalize etH (bdH h) = h2 at *
      simp (disch := omega) only [UC_Mo_orders_50 (cm _), SA, SB, SC1, SC2, SG, SV, k8, b, S, ET, eqI, Nat.one_ne_zero, true_implies, not_true_eq_false, not_false_eq_true, false_implies, true_and, and_true]
      exact Y
    | true =>
      rw [if_pos c] at K
      rw [c, b2_t] at S
      clear ET
      obtain ⟨a1, a2⟩ := q_adv hq (bG_ty c)
      obtain ⟨N1, N2⟩ := MRz_nx r
      have NM := fun Q => (m_next1 (d + 8) q r.1 Q).1
      have nk := N1.1.1.1
      have n21 := (MTF.f21 N2).trans h21
      have n298 : hia (nxH h T q) 298 = hia h 298 := N2.2.2.1 298 (by omega)
      have hd1 : HDM (nxH h T q) := hd
      have FF := F0.trans N2.T.G
      generalize nxH h T q = h1 at *
      simp (disch := omega) only [UC_Mo_orders_50 (cm _), SA, SB, SC1, SC2, SG, SV, k8, nk, b, S, NM, eqI, Nat.one_ne_zero, true_implies, not_true_eq_false, not_false_eq_true, false_implies, true_and, and_true]
      refine m_readOrder d i (tBe T q) (by omega) N1 hd1 hk (by omega) cv n21 _ ?_
      clear NM S
      by_cases i12 : i < 12
      · rw [if_pos i12]
        obtain ⟨m', rfl⟩ : ∃ m', m = m' + 1 := ⟨m - 1, by omega⟩
        rw [pTx_s] at K
        cases hp : pCl T 1 (tBe T q) k with
        | error f =>
          rw [hp] at K
          intro h3 f3 e3
          simp (disch := omega) only [UC_Mo_orders_50 (cm _), SA, SB, SC1, SC2, SG, SV]
          exact m_or19E (d + 9) e3 lm Q (TxK_er (FF.trans f3.G) e3 K)
        | ok w =>
          obtain ⟨c1, q1, k1⟩ := w
          rw [hp] at K
          simp only at K
          intro h3 cf3 nc3 f3 r3 e21 cc cv3 nn3 n3 k3 kx mc
          simp (disch := omega) only [UC_Mo_orders_50 (cm _), SA, SB, SC1, SC2, SG, SV]
          refine ih m' (by omega) (i + 1) q1 k1 cf3 nc3 h3 (cs0 ++ [c1]) (by omega) (by rw [List.length_append, hcs]; rfl) (FF.trans f3.G) (by have z := f3.1.2.2.2.2; unfold HDM; rw [z]; exact hd1) r3 k3 n3 cv3 e21 (fun j x hj => ?_) ?_
          · rcases app1 hcs hj with ⟨j1, j2⟩ | ⟨j1, j2⟩
            · exact (X j x j2).of (fun y y1 y2 => by rw [kx y (by omega), n298]) nn3 cc
            · subst j1 j2; exact mc
          · cases hb : pBh T 1 m' q1 k1 with
            | error f =>
              rw [hb] at K
              exact K
            | ok cs =>
              rw [hb] at K
              intro h4 cf4 nc4 g1 g2 g3 g4 g5 g6 g7 g8 g9 g10 g11
              rw [List.append_assoc] at g6 g11
              exact K h4 cf4 nc4 g1 g2 g3 g4 g5 g6 g7 g8 g9 g10 g11
      · rw [if_neg i12]
        have m0 : m = 0 := by omega
        subst m0
        intro h3 f3 e3
        simp (disch := omega) only [UC_Mo_orders_50 (cm _), SA, SB, SC1, SC2, SG, SV]
        exact m_or19E (d + 9) e3 lm Q (TxK_er (FF.trans f3.G) e3 K)
theorem m_law28 (d : Nat) {T : TP} {h : MH} (hM : MoS h) (hw : WDM h) (hd : HDM h) (hb : TB (hia h 282) T) (h13 : hfi h 273 13 = nI T.2) (lm : Nat × Nat) (Q : RT) (K : TxK 0 CLw h [] (fun h' => WP cd_Mo_law (callD (d + 8)) Q lm 68 [] [some (.ref 273), none, none] h') (pTx T 0 12 0 0)) : WP cd_Mo_law (callD (d + 8)) Q lm 28 [] [some (.ref 273), none, none] h := by
  have k8 := hM.cls.1
  simp (disch := omega) only [UC_Mo_law_68 (cm _), SA, SB, SC1, SC2, SG, SV, k8, true_and]
  refine m_beginText (d + 4) 0 (Or.inl rfl) hM hw hb h13 (fun _ => (0, 0)) _ (fun h1 F1 ej r h21 => ?_)
  have k81 := r.1.1.1
  simp (disch := omega) only [UC_Mo_law_68 (cm _), SA, SB, SC1, SC2, SG, SV, k81, true_and]
  have hd1 : HDM h1 := by unfold HDM; rw [ej]; exact hd
  refine m_readLaw d 0 0 (by omega) r hd1 (by omega) (by omega) (fun k hk => absurd hk (Nat.not_lt_zero k)) h21 _ ?_
  rw [if_pos (by omega)]
  rw [pTx_s] at K
  cases hp : pCl T 0 0 0 with
  | error f =>
    rw [hp] at K
    intro h3 f3 e3
    simp only [SV]
    exact m_lw37E (d + 7) e3 lm Q (TxK_er (F1.trans f3.G) e3 K)
  | ok w =>
    obtain ⟨c1, q1, k1⟩ := w
    rw [hp] at K
    simp only at K
    intro h3 cf3 nc3 f3 r3 e21 cc cv3 nn3 n3 k3 kx mc
    simp only [SV]
    refine m_l_law37 d Q lm 11 1 q1 k1 cf3 nc3 h3 [c1] (by omega) rfl (F1.trans f3.G) (by have z := f3.1.2.2.2.2; unfold HDM; rw [z]; exact hd1) r3 k3 n3 cv3 e21 (fun j x hj => ?_) ?_
    · rcases app1 (cs0 := []) (i := 0) rfl hj with ⟨j1, j2⟩ | ⟨j1, j2⟩
      · omega
      · subst j1 j2; exact mc
    · cases hb : pBh T 0 11 q1 k1 with
      | error f =>
        rw [hb] at K
        exact K
      | ok cs =>
        rw [hb] at K
        exact K
theorem m_or10 (d : Nat) {T : TP} {h : MH} (hM : MoS h) (hw : WDM h) (hd : HDM h) (hb : TB (hia h 282) T) (h13 : hfi h 273 13 = nI T.2) (lm : Nat × Nat) (Q : RT) (K : TxK 1 COw h [] (fun h' => WP cd_Mo_orders (callD (d + 10)) Q lm 50 [] [some (.ref 273), none, none, none] h') (pTx T 1 12 0 0)) : WP cd_Mo_orders (callD (d + 10)) Q lm 10 [] [some (.ref 273), none, none, none] h := by
  have k8 := hM.cls.1
  simp (disch := omega) only [UC_Mo_orders_50 (cm _), SA, SB, SC1, SC2, SG, SV, k8, true_and]
  refine m_beginText (d + 6) 1 (Or.inr rfl) hM hw hb h13 (fun _ => (0, 0)) _ (fun h1 F1 ej r h21 => ?_)
  have k81 := r.1.1.1
  simp (disch := omega) only [UC_Mo_orders_50 (cm _), SA, SB, SC1, SC2, SG, SV, k81, true_and]
  have hd1 : HDM h1 := by unfold HDM; rw [ej]; exact hd
  refine m_readOrder d 0 0 (by omega) r hd1 (by omega) (by omega) (fun k hk => absurd hk (Nat.not_lt_zero k)) h21 _ ?_
  rw [if_pos (by omega)]
  rw [pTx_s] at K
  cases hp : pCl T 1 0 0 with
  | error f =>
    rw [hp] at K
    intro h3 f3 e3
    simp only [SV]
    exact m_or19E (d + 9) e3 lm Q (TxK_er (F1.trans f3.G) e3 K)
  | ok w =>
    obtain ⟨c1, q1, k1⟩ := w
    rw [hp] at K
    simp only at K
    intro h3 cf3 nc3 f3 r3 e21 cc cv3 nn3 n3 k3 kx mc
    simp only [SV]
    refine m_l_or19 d Q lm 11 1 q1 k1 cf3 nc3 h3 [c1] (by omega) rfl (F1.trans f3.G) (by have z := f3.1.2.2.2.2; unfold HDM; rw [z]; exact hd1) r3 k3 n3 cv3 e21 (fun j x hj => ?_) ?_
    · rcases app1 (cs0 := []) (i := 0) rfl hj with ⟨j1, j2⟩ | ⟨j1, j2⟩
      · omega
      · subst j1 j2; exact mc
    · cases hb : pBh T 1 11 q1 k1 with
      | error f =>
        rw [hb] at K
        exact K
      | ok cs =>
        rw [hb] at K
        exact K
