/-! ===== the program's act ===== -/
theorem x_a114 (d N nx n kp kd : Nat) (hkp : kp ≤ 1) (hN : N + 9 < 43 + 10 * nx ∨ 43 + 10 * nx + 9 < N) (hnx : nx < 17) (hn : n ≤ 16) {h : MH} {p q : RW} (s : XS h) (hS : NeS h N) (hV : NeV h N q) (hP : nI 400 < q 6 → NeV h (43 + 10 * nx) p) (hQ : QL p 420) (h2 : hfi h 40 2 = nI nx) (h3 : hfi h 40 3 = nI n) (one other costs rf told : Int32) (Q : RT) (lm : Nat × Nat) (ko : nI 400 < q 6 → ∀ h', XN h N h' p → Q (some (.int (-5))) h') (ks : ¬ nI 400 < q 6 → kp = 0 → Q (some (.int told)) h) (kk : ¬ nI 400 < q 6 → kp = 1 → Q (some (.int told)) (hkF h nx n kd)) : WP cd_Di_act (callD (d + 2)) Q lm 114 [] [some (.ref 24), some (.ref N), some (.int (nI kp)), some (.int (nI kd)), some (.int one), some (.int other), some (.int costs), some (.int rf), some (.int told)] h := by
  have so := s.1
  unfold XSo at so
  have sh := s.2.2.1
  unfold XSh at sh
  have e9 : hfi h N 9 = q 6 := hV.2.2.2.2.2.2.2.2.2.1
  by_cases c : nI 400 < q 6
  · have c' : ¬ q 6 ≤ nI 400 := Int32.not_le.mpr c
    simp (disch := omega) only [U_Di_act (cm _), SA, SB, SC1, SC2, SG, SV, so, sh, hS.1, e9, c', true_implies, not_true_eq_false, not_false_eq_true, false_implies, true_and, and_true]
    refine h_put d N nx hN hnx s hS (hP c) hQ h2 _ (fun h' X => ?_)
    simp (disch := omega) only [U_Di_act (cm _), SA, SB, SV]
    exact ko c h' X
  · have c' : q 6 ≤ nI 400 := Int32.not_lt.mp c
    rcases (show kp = 0 ∨ kp = 1 by omega) with rfl | rfl
    · simp (disch := omega) only [U_Di_act (cm _), SA, SB, SC1, SC2, SG, SV, so, hS.1, e9, c', true_implies, not_true_eq_false, not_false_eq_true, false_implies, true_and, and_true]
      exact ks c rfl
    · simp (disch := omega) only [U_Di_act (cm _), SA, SB, SC1, SC2, SG, SV, so, sh, hS.1, e9, c', eqI, Nat.one_ne_zero, h_keeps d nx n kd hnx hn s h2 h3, true_implies, not_true_eq_false, not_false_eq_true, false_implies, true_and, and_true]
      exact kk c rfl
theorem LV_e {h h' : MH} {p : RW} {Lo : Option LWS} {lv : Value} (e : SHE h h') (h25 : hfi h' 25 = hfi h 25) (hp : ∀ a, 300 ≤ a → hfi h' a = hfi h a ∧ hia h' a = hia h a) (l : LV h p Lo lv) : LV h' p Lo lv := by
  obtain ⟨l1, l2, l3, l⟩ := l
  refine ⟨by rw [h25]; exact l1, by rw [h25]; exact l2, l3, ?_⟩
  cases Lo with
  | none => exact l
  | some L =>
    obtain ⟨f, nl, a, a1, a2, a3, a4, a5, a6, P⟩ := l
    refine ⟨f, nl, a, a1, a2, a3, by rw [h25]; exact a4, by rw [e.2.2.2]; exact a5, a6, ?_⟩
    obtain ⟨c, q, N, l, s, P⟩ := P
    obtain ⟨s1, s2, s3, s4, s5⟩ := s
    have ec := (hp c s3).2
    have eq := (hp q s4).2
    have ea := (hp a s2).1
    refine ⟨c, q, N, l, ⟨by rw [e.1, e.2.1, e.2.2.1, ea]; exact s1, s2, s3, s4, s5⟩, fun i hi => ?_⟩
    unfold XT XE at *
    rw [ec, eq]
    exact P i hi
theorem AR.L {N nx : Nat} {h h' : MH} (hN : N + 9 < 300) (hN25 : N ≠ 25) (hnx : nx < 17) {p : RW} {Lo : Option LWS} {lv : Value} (x : AR N nx h h') (l : LV h p Lo lv) : LV h' p Lo lv := LV_e x.1.2.2.2.1 (x.2.1 25 (fun z => hN25 z.symm) (by omega) (by omega)) (fun a ha => ⟨x.2.1 a (by omega) (by omega) (by omega), x.2.2 a (by omega) (by omega) (by omega) (by omega) (by omega)⟩) l
theorem NeV_a {h h' : MH} {n : Nat} {p : RW} (e1 : hfi h' n = hfi h n) (e2 : ∀ a, n < a → a ≤ n + 9 → hia h' a = hia h a) (V : NeV h n p) : NeV h' n p := by
  unfold NeV at *
  rw [e1, e2 (n + 1) (by omega) (by omega), e2 (n + 2) (by omega) (by omega), e2 (n + 3) (by omega) (by omega), e2 (n + 4) (by omega) (by omega), e2 (n + 5) (by omega) (by omega), e2 (n + 6) (by omega) (by omega), e2 (n + 7) (by omega) (by omega), e2 (n + 8) (by omega) (by omega), e2 (n + 9) (by omega) (by omega)]
  exact V
set_option maxRecDepth 20000 in
theorem UC_Di_act_114 {G : GT} (hG : Gmono G) (R : RT) (lm : Nat × Nat) : WP cd_Di_act G R lm 0 = stp G R lm (2, 1, 0, 0, 0, 0, []) (WP cd_Di_act G R lm) ∧ WP cd_Di_act G R lm 1 = stp G R lm (2, 2, 1, 0, 0, 0, []) (WP cd_Di_act G R lm) ∧ WP cd_Di_act G R lm 2 = stp G R lm (1, 3, 3, 0, 0, 0, []) (WP cd_Di_act G R lm) ∧ WP cd_Di_act G R lm 3 = stp G R lm (1, 5, 4, 0, 0, 0, []) (WP cd_Di_act G R lm) ∧ WP cd_Di_act G R lm 5 = stp G R lm (1, 7, 5, 0, 0, 0, []) (WP cd_Di_act G R lm) ∧ WP cd_Di_act G R lm 7 = stp G R lm (1, 9, 6, 0, 0, 0, []) (WP cd_Di_act G R lm) ∧ WP cd_Di_act G R lm 9 = stp G R lm (86, 12, 121, 5, 0, 0, [7]) (WP cd_Di_act G R lm) ∧ WP cd_Di_act G R lm 12 = stp G R lm (4, 14, 7, 0, 0, 0, []) (WP cd_Di_act G R lm) ∧ WP cd_Di_act G R lm 14 = stp G R lm (1, 16, 7, 0, 0, 0, []) (WP cd_Di_act G R lm) ∧ WP cd_Di_act G R lm 16 = stp G R lm (47, 19, 22, 0, 0, 0, []) (WP cd_Di_act G R lm) ∧ WP cd_Di_act G R lm 19 = stp G R lm (1, 21, 7, 0, 0, 0, []) (WP cd_Di_act G R lm) ∧ WP cd_Di_act G R lm 21 = stp G R lm (81, 22, 0, 0, 0, 0, []) (WP cd_Di_act G R lm) ∧ WP cd_Di_act G R lm 22 = stp G R lm (1, 23, 2, 0, 0, 0, []) (WP cd_Di_act G R lm) ∧ WP cd_Di_act G R lm 23 = stp G R lm (48, 26, 36, 0, 0, 0, []) (WP cd_Di_act G R lm) ∧ WP cd_Di_act G R lm 26 = stp G R lm (2, 27, 1, 0, 0, 0, []) (WP cd_Di_act G R lm) ∧ WP cd_Di_act G R lm 27 = stp G R lm (56, 30, 2, 9, 0, 0, []) (WP cd_Di_act G R lm) ∧ WP cd_Di_act G R lm 30 = stp G R lm (7, 33, 0, 0, nI 380, 0, []) (WP cd_Di_act G R lm) ∧ WP cd_Di_act G R lm 33 = stp G R lm (46, 36, 44, 0, 0, 0, []) (WP cd_Di_act G R lm) ∧ WP cd_Di_act G R lm 36 = stp G R lm (2, 37, 0, 0, 0, 0, []) (WP cd_Di_act G R lm) ∧ WP cd_Di_act G R lm 37 = stp G R lm (58, 40, 7, 3, 0, 0, []) (WP cd_Di_act G R lm) ∧ WP cd_Di_act G R lm 40 = stp G R lm (2, 41, 1, 0, 0, 0, []) (WP cd_Di_act G R lm) ∧ WP cd_Di_act G R lm 41 = stp G R lm (86, 44, 1, 1, 0, 0, [0]) (WP cd_Di_act G R lm) ∧ WP cd_Di_act G R lm 44 = stp G R lm (1, 45, 3, 0, 0, 0, []) (WP cd_Di_act G R lm) ∧ WP cd_Di_act G R lm 45 = stp G R lm (48, 48, 63, 0, 0, 0, []) (WP cd_Di_act G R lm) ∧ WP cd_Di_act G R lm 48 = stp G R lm (2, 49, 1, 0, 0, 0, []) (WP cd_Di_act G R lm) ∧ WP cd_Di_act G R lm 49 = stp G R lm (1, 51, 4, 0, 0, 0, []) (WP cd_Di_act G R lm) ∧ WP cd_Di_act G R lm 51 = stp G R lm (1, 53, 5, 0, 0, 0, []) (WP cd_Di_act G R lm) ∧ WP cd_Di_act G R lm 53 = stp G R lm (1, 55, 6, 0, 0, 0, []) (WP cd_Di_act G R lm) ∧ WP cd_Di_act G R lm 55 = stp G R lm (86, 58, 29, 3, 0, 0, [2]) (WP cd_Di_act G R lm) ∧ WP cd_Di_act G R lm 58 = stp G R lm (4, 60, 8, 0, 0, 0, []) (WP cd_Di_act G R lm) ∧ WP cd_Di_act G R lm 60 = stp G R lm (40, 114, 0, 0, 0, 0, []) (WP cd_Di_act G R lm) ∧ WP cd_Di_act G R lm 63 = stp G R lm (1, 64, 3, 0, 0, 0, []) (WP cd_Di_act G R lm) ∧ WP cd_Di_act G R lm 64 = stp G R lm (7, 65, 0, 0, nI 1, 0, []) (WP cd_Di_act G R lm) ∧ WP cd_Di_act G R lm 65 = stp G R lm (42, 68, 106, 0, 0, 0, []) (WP cd_Di_act G R lm) ∧ WP cd_Di_act G R lm 68 = stp G R lm (2, 69, 1, 0, 0, 0, []) (WP cd_Di_act G R lm) ∧ WP cd_Di_act G R lm 69 = stp G R lm (2, 70, 0, 0, 0, 0, []) (WP cd_Di_act G R lm) ∧ WP cd_Di_act G R lm 70 = stp G R lm (58, 73, 7, 5, 0, 0, []) (WP cd_Di_act G R lm) ∧ WP cd_Di_act G R lm 73 = stp G R lm (2, 74, 1, 0, 0, 0, []) (WP cd_Di_act G R lm) ∧ WP cd_Di_act G R lm 74 = stp G R lm (2, 75, 0, 0, 0, 0, []) (WP cd_Di_act G R lm) ∧ WP cd_Di_act G R lm 75 = stp G R lm (58, 78, 7, 0, 0, 0, []) (WP cd_Di_act G R lm) ∧ WP cd_Di_act G R lm 78 = stp G R lm (2, 79, 0, 0, 0, 0, []) (WP cd_Di_act G R lm) ∧ WP cd_Di_act G R lm 79 = stp G R lm (58, 82, 7, 0, 0, 0, []) (WP cd_Di_act G R lm) ∧ WP cd_Di_act G R lm 82 = stp G R lm (56, 85, 6, 5, 0, 0, []) (WP cd_Di_act G R lm) ∧ WP cd_Di_act G R lm 85 = stp G R lm (86, 88, 75, 1, 0, 0, [6]) (WP cd_Di_act G R lm) ∧ WP cd_Di_act G R lm 88 = stp G R lm (2, 89, 0, 0, 0, 0, []) (WP cd_Di_act G R lm) ∧ WP cd_Di_act G R lm 89 = stp G R lm (58, 92, 7, 0, 0, 0, []) (WP cd_Di_act G R lm) ∧ WP cd_Di_act G R lm 92 = stp G R lm (56, 95, 6, 8, 0, 0, []) (WP cd_Di_act G R lm) ∧ WP cd_Di_act G R lm 95 = stp G R lm (86, 98, 10, 3, 0, 0, [1]) (WP cd_Di_act G R lm) ∧ WP cd_Di_act G R lm 98 = stp G R lm (86, 101, 33, 1, 0, 0, [2]) (WP cd_Di_act G R lm) ∧ WP cd_Di_act G R lm 101 = stp G R lm (4, 103, 8, 0, 0, 0, []) (WP cd_Di_act G R lm) ∧ WP cd_Di_act G R lm 103 = stp G R lm (40, 114, 0, 0, 0, 0, []) (WP cd_Di_act G R lm) ∧ WP cd_Di_act G R lm 106 = stp G R lm (2, 107, 1, 0, 0, 0, []) (WP cd_Di_act G R lm) ∧ WP cd_Di_act G R lm 107 = stp G R lm (1, 109, 4, 0, 0, 0, []) (WP cd_Di_act G R lm) ∧ WP cd_Di_act G R lm 109 = stp G R lm (86, 112, 35, 1, 0, 0, [2]) (WP cd_Di_act G R lm) ∧ WP cd_Di_act G R lm 112 = stp G R lm (4, 114, 8, 0, 0, 0, []) (WP cd_Di_act G R lm) ∧ WP cd_Di_act G R lm 115 = stp G R lm (56, 118, 2, 9, 0, 0, []) (WP cd_Di_act G R lm) ∧ WP cd_Di_act G R lm 118 = stp G R lm (7, 121, 0, 0, nI 400, 0, []) (WP cd_Di_act G R lm) ∧ WP cd_Di_act G R lm 121 = stp G R lm (46, 124, 135, 0, 0, 0, []) (WP cd_Di_act G R lm) ∧ WP cd_Di_act G R lm 124 = stp G R lm (2, 125, 0, 0, 0, 0, []) (WP cd_Di_act G R lm) ∧ WP cd_Di_act G R lm 125 = stp G R lm (58, 128, 7, 3, 0, 0, []) (WP cd_Di_act G R lm) ∧ WP cd_Di_act G R lm 128 = stp G R lm (2, 129, 1, 0, 0, 0, []) (WP cd_Di_act G R lm) ∧ WP cd_Di_act G R lm 129 = stp G R lm (86, 132, 2, 1, 0, 0, [0]) (WP cd_Di_act G R lm) ∧ WP cd_Di_act G R lm 132 = stp G R lm (7, 134, 0, 0, (-5), 0, []) (WP cd_Di_act G R lm) ∧ WP cd_Di_act G R lm 134 = stp G R lm (81, 135, 0, 0, 0, 0, []) (WP cd_Di_act G R lm) ∧ WP cd_Di_act G R lm 135 = stp G R lm (1, 136, 2, 0, 0, 0, []) (WP cd_Di_act G R lm) ∧ WP cd_Di_act G R lm 136 = stp G R lm (47, 139, 147, 0, 0, 0, []) (WP cd_Di_act G R lm) ∧ WP cd_Di_act G R lm 139 = stp G R lm (2, 140, 0, 0, 0, 0, []) (WP cd_Di_act G R lm) ∧ WP cd_Di_act G R lm 140 = stp G R lm (58, 143, 7, 3, 0, 0, []) (WP cd_Di_act G R lm) ∧ WP cd_Di_act G R lm 143 = stp G R lm (1, 144, 3, 0, 0, 0, []) (WP cd_Di_act G R lm) ∧ WP cd_Di_act G R lm 144 = stp G R lm (86, 147, 3, 1, 0, 0, [0]) (WP cd_Di_act G R lm) ∧ WP cd_Di_act G R lm 147 = stp G R lm (1, 149, 8, 0, 0, 0, []) (WP cd_Di_act G R lm) ∧ WP cd_Di_act G R lm 149 = stp G R lm (81, 150, 0, 0, 0, 0, []) (WP cd_Di_act G R lm) := ⟨WP_eq hG rfl, WP_eq hG rfl, WP_eq hG rfl, WP_eq hG rfl, WP_eq hG rfl, WP_eq hG rfl, WP_eq hG rfl, WP_eq hG rfl, WP_eq hG rfl, WP_eq hG rfl, WP_eq hG rfl, WP_eq hG rfl, WP_eq hG rfl, WP_eq hG rfl, WP_eq hG rfl, WP_eq hG rfl, WP_eq hG rfl, WP_eq hG rfl, WP_eq hG rfl, WP_eq hG rfl, WP_eq hG rfl, WP_eq hG rfl, WP_eq hG rfl, WP_eq hG rfl, WP_eq hG rfl, WP_eq hG rfl, WP_eq hG rfl, WP_eq hG rfl, WP_eq hG rfl, WP_eq hG rfl, WP_eq hG rfl, WP_eq hG rfl, WP_eq hG rfl, WP_eq hG rfl, WP_eq hG rfl, WP_eq hG rfl, WP_eq hG rfl, WP_eq hG rfl, WP_eq hG rfl, WP_eq hG rfl, WP_eq hG rfl, WP_eq hG rfl, WP_eq hG rfl, WP_eq hG rfl, WP_eq hG rfl, WP_eq hG rfl, WP_eq hG rfl, WP_eq hG rfl, WP_eq hG rfl, WP_eq hG rfl, WP_eq hG rfl, WP_eq hG rfl, WP_eq hG rfl, WP_eq hG rfl, WP_eq hG rfl, WP_eq hG rfl, WP_eq hG rfl, WP_eq hG rfl, WP_eq hG rfl, WP_eq hG rfl, WP_eq hG rfl, WP_eq hG rfl, WP_eq hG rfl, WP_eq hG rfl, WP_eq hG rfl, WP_eq hG rfl, WP_eq hG rfl, WP_eq hG rfl, WP_eq hG rfl, WP_eq hG rfl, WP_eq hG rfl, WP_eq hG rfl⟩
/-- the net is changed -/
theorem x_a44 (d N nx kd : Nat) (kp : Int32) (hk3 : kd < 3) (hN : N + 9 < 219 ∨ 220 < N) (hN3 : N + 9 < 300) (hN25 : N ≠ 25) (hnx : nx < 17) {Lo : Option LWS} {lv : Value} {h : MH} {p : RW} (s : XS h) (hS : NeS h N) (hV : NeV h N p) (v : IV p) (l : LV h p Lo lv) (one other costs : Int32) (hr : aRef Lo p kd one other costs = nI 0) (w8 : Option Value) (Q : RT) (lm : Nat × Nat) (kk : ∀ h', AR N nx h h' → (∀ a, a ≠ N → hfi h' a = hfi h a) → (∀ a, (a ≤ N ∨ N + 9 < a) → a ≠ 219 → a ≠ 220 → hia h' a = hia h a) → NeV h' N (aRaw Lo p kd one other costs) → WP cd_Di_act (callD (d + 6)) Q lm 114 [] [some (.ref 24), some (.ref N), some (.int kp), some (.int (nI kd)), some (.int one), some (.int other), some (.int costs), some (.int (nI 0)), some (.int (aTold Lo p kd one other))] h') : WP cd_Di_act (callD (d + 6)) Q lm 44 [] [some (.ref 24), some (.ref N), some (.int kp), some (.int (nI kd)), some (.int one), some (.int other), some (.int costs), some (.int (nI 0)), w8] h := by
  have so := s.1
  unfold XSo at so
  obtain ⟨c, t, sr⟩ := v.1.1
  have hQ := v.1.2.2.2
  rcases (show kd = 0 ∨ kd = 1 ∨ kd = 2 by omega) with rfl | rfl | rfl
  · obtain ⟨a, b, cn, ha, hb, hab, hc, rfl, rfl, rfl, hne⟩ := ref_0 hr
    unfold aRaw aTold at kk
    rw [if_neg (by omega), if_neg (by omega), if_neg (by omega), if_neg (by omega), nn_n (by omega), nn_n (by omega)] at kk
    simp (disch := omega) only [UC_Di_act_114 (cm _), SA, SB, SC1, SC2, SG, SV, hS.1, true_implies, not_true_eq_false, not_false_eq_true, false_implies, true_and, and_true]
    refine y_relinks d N a b cn ha hb hab hc (XN.of hS hV) v hne _ (fun h' X => ?_)
    simp (disch := omega) only [UC_Di_act_114 (cm _), SA, SB, SV]
    exact kk h' X.1.A X.1.2.1 (fun a h1 _ _ => X.1.2.2 a h1) X.2.2
  · have h6 := ref_1 hr
    obtain ⟨w, tm, w1, t1, w2, t2, w3⟩ := iv_nums v
    have hw0 : 0 < w := by
      rw [w2, eqI (by omega) (by omega)] at h6
      omega
    obtain ⟨n1, n2⟩ := jNx_ok Lo (p := p) (by omega) (by omega)
    obtain ⟨k, f, t', dd, mv, lk⟩ := v.1.2.1 _ n2
    unfold aRaw aTold at kk
    rw [if_pos rfl, if_pos rfl, dl_eq mv, mv.2.2.2.2.1] at kk
    have l' := l
    obtain ⟨l1, l2, ⟨md, md1, md2⟩, -⟩ := l
    have sw := s.2.2.2.2.1.1
    have LW := w_lawAt (d + 5) sw l'
    have l28 : hfi h 25 8 = nI md := l2.trans md2
    have k25 : hkd h 25 = 6 := sw.1
    have k218 : hkd h 218 = 1 := s.2.2.2.1.1.1
    simp (disch := omega) only [UC_Di_act_114 (cm _), SA, SB, SC1, SC2, SG, SV, so, hS.1, k25, k218, l1, l28, LW, eqI, Nat.one_ne_zero, true_implies, not_true_eq_false, not_false_eq_true, false_implies, true_and, and_true]
    refine x_first (d + 2) 218 N 219 220 w tm md (Lo := Lo) s.2.2.2.1 hS hV ⟨by omega, by omega⟩ l'.P (by omega) (by omega) (IM.vs v.1.2.1) w2 hw0 (by omega) t2 md2 t1 md1 _ (fun f1 g1 => ?_)
    rw [n1]
    have k2' : hkd (JH h 219 220 f1 g1) N = 2 := hS.1
    simp (disch := omega) only [UC_Di_act_114 (cm _), SA, SB, SC1, SC2, SV, k2', true_and]
    refine y_delivers d N (jNx Lo p) k f t' dd tm (XN.of (NeS_J hS) (NeV_J ⟨by omega, by omega⟩ hV)) n2 (QL_mono hQ (by omega)) mv c.CN (sr t' mv.2.2.1).2.1 (sr t' mv.2.2.1).2.2.2.2 lk t2 t1 _ (fun h' X => ?_)
    simp (disch := omega) only [UC_Di_act_114 (cm _), SA, SB, SV]
    exact kk h' ((AR.J N nx h f1 g1).trans X.1.A) (fun a ha => X.1.2.1 a ha) (fun a h1 h2 h3 => (X.1.2.2 a h1).trans (JH_n h2 h3)) X.2.2
  · obtain ⟨r, hr', rfl, h3⟩ := ref_2 hr
    unfold aRaw aTold at kk
    rw [if_neg (by omega), if_pos rfl, if_neg (by omega), if_pos rfl, nn_n (by omega)] at kk
    have io := (v.2.1 r hr').1
    simp (disch := omega) only [UC_Di_act_114 (cm _), SA, SB, SC1, SC2, SG, SV, hS.1, eqI, Nat.reduceEqDiff, true_implies, not_true_eq_false, not_false_eq_true, false_implies, true_and, and_true]
    refine y_cuts (d + 1) N r hr' (XN.of hS hV) (QL_mono hQ (by omega)) c.CN (sr r hr').2.1 (sr r hr').2.2.2.2 (sr r hr').2.2.2.1.1 (fun z => m7z (sr r hr').2.2.2.2 (fun o ho b => nb_none z ho (io o ho b))) _ (fun h' X => ?_)
    simp (disch := omega) only [UC_Di_act_114 (cm _), SA, SB, SV]
    exact kk h' X.1.A X.1.2.1 (fun a h1 _ _ => X.1.2.2 a h1) X.2.2
set_option maxRecDepth 20000 in
theorem UC_Di_act_44_114 {G : GT} (hG : Gmono G) (R : RT) (lm : Nat × Nat) : WP cd_Di_act G R lm 0 = stp G R lm (2, 1, 0, 0, 0, 0, []) (WP cd_Di_act G R lm) ∧ WP cd_Di_act G R lm 1 = stp G R lm (2, 2, 1, 0, 0, 0, []) (WP cd_Di_act G R lm) ∧ WP cd_Di_act G R lm 2 = stp G R lm (1, 3, 3, 0, 0, 0, []) (WP cd_Di_act G R lm) ∧ WP cd_Di_act G R lm 3 = stp G R lm (1, 5, 4, 0, 0, 0, []) (WP cd_Di_act G R lm) ∧ WP cd_Di_act G R lm 5 = stp G R lm (1, 7, 5, 0, 0, 0, []) (WP cd_Di_act G R lm) ∧ WP cd_Di_act G R lm 7 = stp G R lm (1, 9, 6, 0, 0, 0, []) (WP cd_Di_act G R lm) ∧ WP cd_Di_act G R lm 9 = stp G R lm (86, 12, 121, 5, 0, 0, [7]) (WP cd_Di_act G R lm) ∧ WP cd_Di_act G R lm 12 = stp G R lm (4, 14, 7, 0, 0, 0, []) (WP cd_Di_act G R lm) ∧ WP cd_Di_act G R lm 14 = stp G R lm (1, 16, 7, 0, 0, 0, []) (WP cd_Di_act G R lm) ∧ WP cd_Di_act G R lm 16 = stp G R lm (47, 19, 22, 0, 0, 0, []) (WP cd_Di_act G R lm) ∧ WP cd_Di_act G R lm 19 = stp G R lm (1, 21, 7, 0, 0, 0, []) (WP cd_Di_act G R lm) ∧ WP cd_Di_act G R lm 21 = stp G R lm (81, 22, 0, 0, 0, 0, []) (WP cd_Di_act G R lm) ∧ WP cd_Di_act G R lm 22 = stp G R lm (1, 23, 2, 0, 0, 0, []) (WP cd_Di_act G R lm) ∧ WP cd_Di_act G R lm 23 = stp G R lm (48, 26, 36, 0, 0, 0, []) (WP cd_Di_act G R lm) ∧ WP cd_Di_act G R lm 26 = stp G R lm (2, 27, 1, 0, 0, 0, []) (WP cd_Di_act G R lm) ∧ WP cd_Di_act G R lm 27 = stp G R lm (56, 30, 2, 9, 0, 0, []) (WP cd_Di_act G R lm) ∧ WP cd_Di_act G R lm 30 = stp G R lm (7, 33, 0, 0, nI 380, 0, []) (WP cd_Di_act G R lm) ∧ WP cd_Di_act G R lm 33 = stp G R lm (46, 36, 44, 0, 0, 0, []) (WP cd_Di_act G R lm) ∧ WP cd_Di_act G R lm 36 = stp G R lm (2, 37, 0, 0, 0, 0, []) (WP cd_Di_act G R lm) ∧ WP cd_Di_act G R lm 37 = stp G R lm (58, 40, 7, 3, 0, 0, []) (WP cd_Di_act G R lm) ∧ WP cd_Di_act G R lm 40 = stp G R lm (2, 41, 1, 0, 0, 0, []) (WP cd_Di_act G R lm) ∧ WP cd_Di_act G R lm 41 = stp G R lm (86, 44, 1, 1, 0, 0, [0]) (WP cd_Di_act G R lm) ∧ WP cd_Di_act G R lm 45 = stp G R lm (48, 48, 63, 0, 0, 0, []) (WP cd_Di_act G R lm) ∧ WP cd_Di_act G R lm 48 = stp G R lm (2, 49, 1, 0, 0, 0, []) (WP cd_Di_act G R lm) ∧ WP cd_Di_act G R lm 49 = stp G R lm (1, 51, 4, 0, 0, 0, []) (WP cd_Di_act G R lm) ∧ WP cd_Di_act G R lm 51 = stp G R lm (1, 53, 5, 0, 0, 0, []) (WP cd_Di_act G R lm) ∧ WP cd_Di_act G R lm 53 = stp G R lm (1, 55, 6, 0, 0, 0, []) (WP cd_Di_act G R lm) ∧ WP cd_Di_act G R lm 55 = stp G R lm (86, 58, 29, 3, 0, 0, [2]) (WP cd_Di_act G R lm) ∧ WP cd_Di_act G R lm 58 = stp G R lm (4, 60, 8, 0, 0, 0, []) (WP cd_Di_act G R lm) ∧ WP cd_Di_act G R lm 60 = stp G R lm (40, 114, 0, 0, 0, 0, []) (WP cd_Di_act G R lm) ∧ WP cd_Di_act G R lm 63 = stp G R lm (1, 64, 3, 0, 0, 0, []) (WP cd_Di_act G R lm) ∧ WP cd_Di_act G R lm 64 = stp G R lm (7, 65, 0, 0, nI 1, 0, []) (WP cd_Di_act G R lm) ∧ WP cd_Di_act G R lm 65 = stp G R lm (42, 68, 106, 0, 0, 0, []) (WP cd_Di_act G R lm) ∧ WP cd_Di_act G R lm 68 = stp G R lm (2, 69, 1, 0, 0, 0, []) (WP cd_Di_act G R lm) ∧ WP cd_Di_act G R lm 69 = stp G R lm (2, 70, 0, 0, 0, 0, []) (WP cd_Di_act G R lm) ∧ WP cd_Di_act G R lm 70 = stp G R lm (58, 73, 7, 5, 0, 0, []) (WP cd_Di_act G R lm) ∧ WP cd_Di_act G R lm 73 = stp G R lm (2, 74, 1, 0, 0, 0, []) (WP cd_Di_act G R lm) ∧ WP cd_Di_act G R lm 74 = stp G R lm (2, 75, 0, 0, 0, 0, []) (WP cd_Di_act G R lm) ∧ WP cd_Di_act G R lm 75 = stp G R lm (58, 78, 7, 0, 0, 0, []) (WP cd_Di_act G R lm) ∧ WP cd_Di_act G R lm 78 = stp G R lm (2, 79, 0, 0, 0, 0, []) (WP cd_Di_act G R lm) ∧ WP cd_Di_act G R lm 79 = stp G R lm (58, 82, 7, 0, 0, 0, []) (WP cd_Di_act G R lm) ∧ WP cd_Di_act G R lm 82 = stp G R lm (56, 85, 6, 5, 0, 0, []) (WP cd_Di_act G R lm) ∧ WP cd_Di_act G R lm 85 = stp G R lm (86, 88, 75, 1, 0, 0, [6]) (WP cd_Di_act G R lm) ∧ WP cd_Di_act G R lm 88 = stp G R lm (2, 89, 0, 0, 0, 0, []) (WP cd_Di_act G R lm) ∧ WP cd_Di_act G R lm 89 = stp G R lm (58, 92, 7, 0, 0, 0, []) (WP cd_Di_act G R lm) ∧ WP cd_Di_act G R lm 92 = stp G R lm (56, 95, 6, 8, 0, 0, []) (WP cd_Di_act G R lm) ∧ WP cd_Di_act G R lm 95 = stp G R lm (86, 98, 10, 3, 0, 0, [1]) (WP cd_Di_act G R lm) ∧ WP cd_Di_act G R lm 98 = stp G R lm (86, 101, 33, 1, 0, 0, [2]) (WP cd_Di_act G R lm) ∧ WP cd_Di_act G R lm 101 = stp G R lm (4, 103, 8, 0, 0, 0, []) (WP cd_Di_act G R lm) ∧ WP cd_Di_act G R lm 103 = stp G R lm (40, 114, 0, 0, 0, 0, []) (WP cd_Di_act G R lm) ∧ WP cd_Di_act G R lm 106 = stp G R lm (2, 107, 1, 0, 0, 0, []) (WP cd_Di_act G R lm) ∧ WP cd_Di_act G R lm 107 = stp G R lm (1, 109, 4, 0, 0, 0, []) (WP cd_Di_act G R lm) ∧ WP cd_Di_act G R lm 109 = stp G R lm (86, 112, 35, 1, 0, 0, [2]) (WP cd_Di_act G R lm) ∧ WP cd_Di_act G R lm 112 = stp G R lm (4, 114, 8, 0, 0, 0, []) (WP cd_Di_act G R lm) ∧ WP cd_Di_act G R lm 115 = stp G R lm (56, 118, 2, 9, 0, 0, []) (WP cd_Di_act G R lm) ∧ WP cd_Di_act G R lm 118 = stp G R lm (7, 121, 0, 0, nI 400, 0, []) (WP cd_Di_act G R lm) ∧ WP cd_Di_act G R lm 121 = stp G R lm (46, 124, 135, 0, 0, 0, []) (WP cd_Di_act G R lm) ∧ WP cd_Di_act G R lm 124 = stp G R lm (2, 125, 0, 0, 0, 0, []) (WP cd_Di_act G R lm) ∧ WP cd_Di_act G R lm 125 = stp G R lm (58, 128, 7, 3, 0, 0, []) (WP cd_Di_act G R lm) ∧ WP cd_Di_act G R lm 128 = stp G R lm (2, 129, 1, 0, 0, 0, []) (WP cd_Di_act G R lm) ∧ WP cd_Di_act G R lm 129 = stp G R lm (86, 132, 2, 1, 0, 0, [0]) (WP cd_Di_act G R lm) ∧ WP cd_Di_act G R lm 132 = stp G R lm (7, 134, 0, 0, (-5), 0, []) (WP cd_Di_act G R lm) ∧ WP cd_Di_act G R lm 134 = stp G R lm (81, 135, 0, 0, 0, 0, []) (WP cd_Di_act G R lm) ∧ WP cd_Di_act G R lm 135 = stp G R lm (1, 136, 2, 0, 0, 0, []) (WP cd_Di_act G R lm) ∧ WP cd_Di_act G R lm 136 = stp G R lm (47, 139, 147, 0, 0, 0, []) (WP cd_Di_act G R lm) ∧ WP cd_Di_act G R lm 139 = stp G R lm (2, 140, 0, 0, 0, 0, []) (WP cd_Di_act G R lm) ∧ WP cd_Di_act G R lm 140 = stp G R lm (58, 143, 7, 3, 0, 0, []) (WP cd_Di_act G R lm) ∧ WP cd_Di_act G R lm 143 = stp G R lm (1, 144, 3, 0, 0, 0, []) (WP cd_Di_act G R lm) ∧ WP cd_Di_act G R lm 144 = stp G R lm (86, 147, 3, 1, 0, 0, [0]) (WP cd_Di_act G R lm) ∧ WP cd_Di_act G R lm 147 = stp G R lm (1, 149, 8, 0, 0, 0, []) (WP cd_Di_act G R lm) ∧ WP cd_Di_act G R lm 149 = stp G R lm (81, 150, 0, 0, 0, 0, []) (WP cd_Di_act G R lm) := ⟨WP_eq hG rfl, WP_eq hG rfl, WP_eq hG rfl, WP_eq hG rfl, WP_eq hG rfl, WP_eq hG rfl, WP_eq hG rfl, WP_eq hG rfl, WP_eq hG rfl, WP_eq hG rfl, WP_eq hG rfl, WP_eq hG rfl, WP_eq hG rfl, WP_eq hG rfl, WP_eq hG rfl, WP_eq hG rfl, WP_eq hG rfl, WP_eq hG rfl, WP_eq hG rfl, WP_eq hG rfl, WP_eq hG rfl, WP_eq hG rfl, WP_eq hG rfl, WP_eq hG rfl, WP_eq hG rfl, WP_eq hG rfl, WP_eq hG rfl, WP_eq hG rfl, WP_eq hG rfl, WP_eq hG rfl, WP_eq hG rfl, WP_eq hG rfl, WP_eq hG rfl, WP_eq hG rfl, WP_eq hG rfl, WP_eq hG rfl, WP_eq hG rfl, WP_eq hG rfl, WP_eq hG rfl, WP_eq hG rfl, WP_eq hG rfl, WP_eq hG rfl, WP_eq hG rfl, WP_eq hG rfl, WP_eq hG rfl, WP_eq hG rfl, WP_eq hG rfl, WP_eq hG rfl, WP_eq hG rfl, WP_eq hG rfl, WP_eq hG rfl, WP_eq hG rfl, WP_eq hG rfl, WP_eq hG rfl, WP_eq hG rfl, WP_eq hG rfl, WP_eq hG rfl, WP_eq hG rfl, WP_eq hG rfl, WP_eq hG rfl, WP_eq hG rfl, WP_eq hG rfl, WP_eq hG rfl, WP_eq hG rfl, WP_eq hG rfl, WP_eq hG rfl, WP_eq hG rfl, WP_eq hG rfl, WP_eq hG rfl, WP_eq hG rfl, WP_eq hG rfl⟩
/-- which nets an act may be on -/
def okN (N : Nat) : Prop := N = 26 ∨ N = 221 ∨ N = 231
/-- nothing is in the way, and there is room -/
def okA (Lo : Option LWS) (p : RW) (kd : Nat) (one other costs : Int32) : Prop := aRef Lo p kd one other costs = nI 0 ∧ ¬ nI 400 < aRaw Lo p kd one other costs 6
/-- what the history is behind an act -/
def HK (h h' : MH) (p : RW) (nx n kd : Nat) (kept : Prop) : Prop := (kept → NeV h' (43 + 10 * nx) p ∧ hia h' 42 = up1 (hia h 42) nx (nI kd) ∧ hfi h' 40 = up1 (up1 (hfi h 40) 2 (nI ((nx + 1) % 17))) 3 (nI (min 16 (n + 1)))) ∧ (¬ kept → hia h' 42 = hia h 42 ∧ hfi h' 40 = hfi h 40)
theorem x_act (d N nx n kp kd : Nat) (hkp : kp ≤ 1) (hk3 : kd < 3) (hN : okN N) (hnx : nx < 17) (hn : n ≤ 16) {Lo : Option LWS} {lv : Value} {h : MH} {p : RW} (s : XS h) (hS : NeS h N) (hV : NeV h N p) (v : IV p) (l : LV h p Lo lv) (h2 : hfi h 40 2 = nI nx) (h3 : hfi h 40 3 = nI n) (one other costs : Int32) (Q : RT) (kk : ∀ h', AR N nx h h' → NeV h' N (aAct Lo p kd one other costs).2 → HK h h' p nx n kd (kp = 1 ∧ okA Lo p kd one other costs) → Q (some (.int (aAct Lo p kd one other costs).1)) h') : callD (d + 7) 120 [.ref 24, .ref N, .int (nI kp), .int (nI kd), .int one, .int other, .int costs] h Q := by
  have so := s.1
  unfold XSo at so
  have sh := s.2.2.1
  unfold XSh at sh
  unfold okN at hN
  have hN9 : N + 9 < 43 + 10 * nx ∨ 43 + 10 * nx + 9 < N := by omega
  have hQ := v.1.2.2.2
  have hq2 := hQ.2
  unfold aAct at kk
  rw [E_Di_act]
  simp (disch := omega) only [UC_Di_act_44_114 (cm _), SA, SB, SC1, SC2, SG, SV, so, true_and]
  refine x_refusal (d + 2) N kd hk3 s hS hV ⟨by omega, by omega⟩ v l one other costs _ (fun f g => ?_)
  have A1 := AR.J N nx h f g
  have s1 : XS (JH h 219 220 f g) := XS_e A1.1.2.2.2.1 s
  have S1 : NeS (JH h 219 220 f g) N := hS
  have V1 : NeV (JH h 219 220 f g) N p := NeV_J ⟨by omega, by omega⟩ hV
  have l1 : LV (JH h 219 220 f g) p Lo lv := LV_J (by omega) (by omega) l
  have e42 : hia (JH h 219 220 f g) 42 = hia h 42 := JH_n (by omega) (by omega)
  by_cases c0 : aRef Lo p kd one other costs = nI 0
  · rw [if_pos c0, aDo_eq] at kk
    rw [c0]
    obtain ⟨ww, -, -⟩ := raw_ok hk3 v c0
    have hQq := ww.2.2.2
    -- behind the change
    have T : ∀ (hb : MH) (lm : Nat × Nat) (w8 : Option Value), AR N nx h hb → XS hb → NeV hb N p → LV hb p Lo lv → hfi hb 40 = hfi h 40 → hia hb 42 = hia h 42 → (kp = 1 ∨ nI 380 < p 6 → NeV hb (43 + 10 * nx) p) → WP cd_Di_act (callD (d + 6)) Q lm 44 [] [some (.ref 24), some (.ref N), some (.int (nI kp)), some (.int (nI kd)), some (.int one), some (.int other), some (.int costs), some (.int (nI 0)), w8] hb := fun hb lm w8 Ab sb Vb lb e40 e42 Pb => by
      have Sb : NeS hb N := NeS_e Ab.1.2.2.2.1 hS
      refine x_a44 d N nx kd (nI kp) hk3 (by omega) (by omega) (by omega) hnx sb Sb Vb v lb one other costs c0 w8 Q lm (fun h' A' F1 F2 V' => ?_)
      have A2 := Ab.trans A'
      have s2 : XS h' := XS_e A'.1.2.2.2.1 sb
      have S2 : NeS h' N := NeS_e A'.1.2.2.2.1 Sb
      have PP : (kp = 1 ∨ nI 380 < p 6) → NeV h' (43 + 10 * nx) p := fun z => NeV_a (F1 _ (by omega)) (fun a h1 h2 => F2 a (by omega) (by omega) (by omega)) (Pb z)
      have f40 : hfi h' 40 = hfi h 40 := (F1 40 (by omega)).trans e40
      have f42 : hia h' 42 = hia h 42 := (F2 42 (by omega) (by omega) (by omega)).trans e42
      have big : nI 400 < aRaw Lo p kd one other costs 6 → nI 380 < p 6 := fun z => by
        by_cases c9 : nI 380 < p 6
        · exact c9
        · exfalso
          have q9 : QL p 380 := ⟨hQ.1, by rw [hQ.1, ltI (by omega) (by omega)] at c9; omega⟩
          have r9 := raw_len (by omega) hk3 v q9 c0
          have r92 := r9.2
          rw [r9.1, ltI (by omega) (by omega)] at z
          omega
      refine x_a114 (d + 4) N nx n kp kd hkp hN9 hnx hn s2 S2 V' (fun z => PP (Or.inr (big z))) (QL_mono hQ (by omega)) (by rw [f40]; exact h2) (by rw [f40]; exact h3) one other costs (nI 0) _ Q lm (fun z h'' X => ?_) (fun z z0 => ?_) (fun z z1 => ?_)
      · unfold ov at kk
        rw [if_pos z] at kk
        refine kk h'' (A2.trans X.1.A) (NeV_c (fun j h1 h2 => bk_in h1 h2) (QL_mono hQ (by omega)) X.2.2) ⟨fun q => absurd z q.2.2, fun _ => ⟨(X.1.2.2 42 (by omega)).trans f42, (X.1.2.1 40 (by omega)).trans f40⟩⟩
      · unfold ov at kk
        rw [if_neg z] at kk
        exact kk h' A2 V' ⟨fun q => by omega, fun _ => ⟨f42, f40⟩⟩
      · unfold ov at kk
        rw [if_neg z] at kk
        have AK : AR N nx h' (hkF h' nx n kd) := ⟨⟨rfl, rfl, rfl, ⟨rfl, rfl, rfl, rfl⟩, rfl, rfl⟩, fun a _ _ q => up1_n (hfi h') _ q, fun a _ _ _ _ q => up1_n (hia h') _ q⟩
        refine kk _ (A2.trans AK) ?_ ⟨fun _ => ⟨?_, ?_, ?_⟩, fun q => absurd ⟨z1, c0, z⟩ q⟩
        · exact NeV_a (up1_n (hfi h') _ (by omega)) (fun a h1 h2 => up1_n (hia h') _ (by omega)) V'
        · exact NeV_a (up1_n (hfi h') _ (by omega)) (fun a h1 h2 => up1_n (hia h') _ (by omega)) (PP (Or.inl z1))
        · show up1 (hia h') 42 (up1 (hia h' 42) nx (nI kd)) 42 = _
          rw [up1_s, f42]
        · show up1 (hfi h') 40 (up1 (up1 (hfi h' 40) 2 (nI ((nx + 1) % 17))) 3 (nI (min 16 (n + 1)))) 40 = _
          rw [up1_s, f40]
    have e9 : hfi (JH h 219 220 f g) N 9 = p 6 := V1.2.2.2.2.2.2.2.2.2.1
    have k2 : hkd (JH h 219 220 f g) N = 2 := hS.1
    have k24 : hkd (JH h 219 220 f g) 24 = 7 := so.1
    have r40 : hfr (JH h 219 220 f g) 24 3 = some 40 := so.2.2.2.1
    have k40 : hkd (JH h 219 220 f g) 40 = 0 := sh.1
    have prep : ∀ (lm : Nat × Nat) (w8 : Option Value), callD (d + 6) 1 [.ref 40, .ref N] (JH h 219 220 f g) (kont (WP cd_Di_act (callD (d + 6)) Q lm) 44 [] [some (.ref 24), some (.ref N), some (.int (nI kp)), some (.int (nI kd)), some (.int one), some (.int other), some (.int costs), some (.int (nI 0)), w8]) := fun lm w8 => by
      refine h_prep (d + 4) N nx hN9 hnx s1 S1 V1 (QL_mono hQ (by omega)) h2 _ (fun h' X => ?_)
      simp only [SV]
      have B := X.1.B (N := N) (nx := nx)
      refine T h' lm w8 (A1.trans B) (XS_e B.1.2.2.2.1 s1) (NeV_a (X.1.2.1 N (by omega)) (fun a h1 h2 => X.1.2.2 a (by omega)) V1) (B.L (by omega) (by omega) hnx l1) (X.1.2.1 40 (by omega)) ((X.1.2.2 42 (by omega)).trans e42) (fun _ => X.2.2)
    rcases (show kp = 0 ∨ kp = 1 by omega) with rfl | rfl
    · by_cases c3 : p 6 ≤ nI 380
      · simp (disch := omega) only [UC_Di_act_44_114 (cm _), SA, SB, SC1, SC2, SV, k2, e9, c3, true_implies, not_true_eq_false, not_false_eq_true, false_implies, true_and, and_true]
        exact T _ _ _ A1 s1 V1 l1 rfl e42 (fun z => by
          rcases z with z | z
          · omega
          · exact absurd z (Int32.not_lt.mpr c3))
      · simp (disch := omega) only [UC_Di_act_44_114 (cm _), SA, SB, SC1, SC2, SV, k2, k24, r40, k40, e9, c3, true_implies, not_true_eq_false, not_false_eq_true, false_implies, true_and, and_true, SG]
        exact prep _ _
    · simp (disch := omega) only [UC_Di_act_44_114 (cm _), SA, SB, SC1, SC2, SV, k2, k24, r40, k40, eqI, Nat.one_ne_zero, true_implies, not_true_eq_false, not_false_eq_true, false_implies, true_and, and_true]
      exact prep _ _
  · rw [if_neg c0] at kk
    have K := kk _ A1 V1 ⟨fun q => absurd q.2.1 c0, fun _ => ⟨e42, rfl⟩⟩
    simp (disch := omega) only [UC_Di_act_44_114 (cm _), SA, SB, SC1, SC2, SG, SV, c0, true_implies, not_true_eq_false, not_false_eq_true, false_implies, true_and, and_true]
    exact K
