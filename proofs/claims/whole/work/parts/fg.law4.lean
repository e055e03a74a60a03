/-! ===== the law: its loop, and the whole ===== -/
set_option maxRecDepth 20000 in
theorem US_law_19 {G : GT} (hG : Gmono G) (R : RT) (lm : Nat × Nat) : WP cd_law G R lm 19 = stp G R lm (2, 20, 0, 0, 0, 0, []) (WP cd_law G R lm) ∧ WP cd_law G R lm 20 = stp G R lm (70, 21, 0, 0, 0, 0, []) (WP cd_law G R lm) ∧ WP cd_law G R lm 21 = stp G R lm (7, 23, 0, 0, nI 6, 0, []) (WP cd_law G R lm) ∧ WP cd_law G R lm 23 = stp G R lm (13, 24, 0, 0, 0, 0, []) (WP cd_law G R lm) ∧ WP cd_law G R lm 24 = stp G R lm (45, 27, 1003, 0, 0, 0, []) (WP cd_law G R lm) ∧ WP cd_law G R lm 27 = stp G R lm (2, 28, 0, 0, 0, 0, []) (WP cd_law G R lm) ∧ WP cd_law G R lm 28 = stp G R lm (1, 29, 3, 0, 0, 0, []) (WP cd_law G R lm) ∧ WP cd_law G R lm 29 = stp G R lm (62, 30, 0, 0, 0, 0, []) (WP cd_law G R lm) ∧ WP cd_law G R lm 30 = stp G R lm (7, 32, 0, 0, nI 63, 0, []) (WP cd_law G R lm) ∧ WP cd_law G R lm 32 = stp G R lm (21, 33, 0, 0, 0, 0, []) (WP cd_law G R lm) ∧ WP cd_law G R lm 33 = stp G R lm (55, 997, 0, 0, 0, 0, [184, 217, 260, 293, 326, 389, 412, 425, 438, 451, 464, 477, 490, 513, 556, 569, 592, 605, 638, 651, 674, 687, 710, 743, 756, 769, 792, 826, 849, 882, 915, 938, 961, 984]) (WP cd_law G R lm) := ⟨WP_eq hG rfl, WP_eq hG rfl, WP_eq hG rfl, WP_eq hG rfl, WP_eq hG rfl, WP_eq hG rfl, WP_eq hG rfl, WP_eq hG rfl, WP_eq hG rfl, WP_eq hG rfl, WP_eq hG rfl⟩
set_option maxRecDepth 20000 in
theorem US_law_997 {G : GT} (hG : Gmono G) (R : RT) (lm : Nat × Nat) : WP cd_law G R lm 997 = stp G R lm (11, 1000, 3, 0, nI 6, 0, []) (WP cd_law G R lm) ∧ WP cd_law G R lm 1000 = stp G R lm (40, 18, 0, 0, 0, 0, []) (WP cd_law G R lm) ∧ WP cd_law G R lm 1003 = stp G R lm (7, 1004, 0, 0, nI 1, 0, []) (WP cd_law G R lm) ∧ WP cd_law G R lm 1004 = stp G R lm (81, 1005, 1, 0, 0, 0, []) (WP cd_law G R lm) := ⟨WP_eq hG rfl, WP_eq hG rfl, WP_eq hG rfl, WP_eq hG rfl⟩
theorem lw_cmp {L a : Nat} (hL : L ≤ 3072) (ha : a ≤ 3078) : (nI L - nI 6 < nI a) = (L < a + 6) := by
  rw [← iI_n, ← iI_n, ← iI_n, iI_sub, iI_lt (by omega) (by omega)]
  exact propext ⟨fun h => by omega, fun h => by omega⟩
theorem lw_sw {P : Nat → Prop} (h997 : P 997) (p0 : P 184) (p1 : P 217) (p2 : P 260) (p3 : P 293) (p4 : P 326) (p5 : P 389) (p6 : P 412) (p7 : P 425) (p8 : P 438) (p9 : P 451) (p10 : P 464) (p11 : P 477) (p12 : P 490) (p13 : P 513) (p14 : P 556) (p15 : P 569) (p16 : P 592) (p17 : P 605) (p18 : P 638) (p19 : P 651) (p20 : P 674) (p21 : P 687) (p22 : P 710) (p23 : P 743) (p24 : P 756) (p25 : P 769) (p26 : P 792) (p27 : P 826) (p28 : P 849) (p29 : P 882) (p30 : P 915) (p31 : P 938) (p32 : P 961) (p33 : P 984) : ∀ k : Nat, k < 34 → P (([184, 217, 260, 293, 326, 389, 412, 425, 438, 451, 464, 477, 490, 513, 556, 569, 592, 605, 638, 651, 674, 687, 710, 743, 756, 769, 792, 826, 849, 882, 915, 938, 961, 984] : List Nat).getD k 0) := fun k hk => by
  rcases (show k = 0 ∨ k = 1 ∨ k = 2 ∨ k = 3 ∨ k = 4 ∨ k = 5 ∨ k = 6 ∨ k = 7 ∨ k = 8 ∨ k = 9 ∨ k = 10 ∨ k = 11 ∨ k = 12 ∨ k = 13 ∨ k = 14 ∨ k = 15 ∨ k = 16 ∨ k = 17 ∨ k = 18 ∨ k = 19 ∨ k = 20 ∨ k = 21 ∨ k = 22 ∨ k = 23 ∨ k = 24 ∨ k = 25 ∨ k = 26 ∨ k = 27 ∨ k = 28 ∨ k = 29 ∨ k = 30 ∨ k = 31 ∨ k = 32 ∨ k = 33 by omega) with rfl | rfl | rfl | rfl | rfl | rfl | rfl | rfl | rfl | rfl | rfl | rfl | rfl | rfl | rfl | rfl | rfl | rfl | rfl | rfl | rfl | rfl | rfl | rfl | rfl | rfl | rfl | rfl | rfl | rfl | rfl | rfl | rfl | rfl
  · exact p0
  · exact p1
  · exact p2
  · exact p3
  · exact p4
  · exact p5
  · exact p6
  · exact p7
  · exact p8
  · exact p9
  · exact p10
  · exact p11
  · exact p12
  · exact p13
  · exact p14
  · exact p15
  · exact p16
  · exact p17
  · exact p18
  · exact p19
  · exact p20
  · exact p21
  · exact p22
  · exact p23
  · exact p24
  · exact p25
  · exact p26
  · exact p27
  · exact p28
  · exact p29
  · exact p30
  · exact p31
  · exact p32
  · exact p33
theorem lw_end {L a : Nat} {xs : Nat → Int32} (hL : L ≤ 3072) (ha : a ≤ 3078) (hn : L < a + 6) {h : MH} (i0 : I0 L xs h) : WP cd_law (callD 1000) (fun r _ => r = some (.int 1)) (600000, 7302250) 18 [] [some (.ref 0), some (.ref 24), some (.ref 273), some (.int (nI a))] h := by
  obtain ⟨-, k0, l0, x0, -, -⟩ := i0
  rw [U_law_18 (cm _)]
  simp (disch := omega) only [US_law_19 (cm _), US_law_997 (cm _), SA, SB, SC1, SC2, SG, SK, SV, k0, l0, lw_cmp hL ha, hn, Nat.reduceLeDiff, true_or, or_true, true_implies, not_true_eq_false, not_false_eq_true, false_implies, true_and, and_true] <;> exact rfl
theorem lw_loop {L : Nat} {xs : Nat → Int32} (hL : L ≤ 3072) : ∀ (m a : Nat) (h : MH), L < a + 6 * m + 6 → a ≤ 3078 → Sta L xs m h → WP cd_law (callD 1000) (fun r _ => r = some (.int 1)) (600000, 7302250) 18 [] [some (.ref 0), some (.ref 24), some (.ref 273), some (.int (nI a))] h
  | 0, a, h, hn, ha, s => lw_end hL ha (by omega) s.2.2.1
  | m + 1, a, h, hn, ha, s => by
    by_cases c : L < a + 6
    · exact lw_end hL ha c s.2.2.1
    · have hA : a + 6 ≤ L := by omega
      have K : ∀ h2, Sta L xs m h2 → WP cd_law (callD 1000) (fun r _ => r = some (.int 1)) (600000, 7302250) 997 [] [some (.ref 0), some (.ref 24), some (.ref 273), some (.int (nI a))] h2 := fun h2 s2 => by
        have ih := lw_loop hL m (a + 6) h2 (by omega) (by omega) s2
        simp (disch := omega) only [US_law_997 (cm _), SA, SB, SC1, SC2, SG, SK, SV, nI_add, true_or, or_true, true_implies, not_true_eq_false, not_false_eq_true, false_implies, true_and, and_true]
        exact ih
      have K0 : Sta L xs m h := ⟨s.1, s.2.1, s.2.2.1, by have := s.2.2.2.1; omega, by have := s.2.2.2.2; omega⟩
      obtain ⟨-, k0, l0, x0, -, -⟩ := s.2.2.1
      rw [U_law_18 (cm _)]
      simp (disch := omega) only [US_law_19 (cm _), SA, SB, SC1, SC2, SG, SK, SV, k0, l0, x0, lw_cmp hL ha, c, nI_clamp, in_eq, Nat.reduceLeDiff, true_or, or_true, true_implies, not_true_eq_false, not_false_eq_true, false_implies, true_and, and_true]
      refine ⟨fun _ => K h K0, fun k hk _ => ?_⟩
      exact lw_sw (P := fun pc => WP cd_law (callD 1000) (fun r _ => r = some (.int 1)) (600000, 7302250) pc [] [some (.ref 0), some (.ref 24), some (.ref 273), some (.int (nI a))] h) (K h K0) (lc_0 hL hA s K) (lc_1 hL hA s K) (lc_2 hL hA s K) (lc_3 hL hA s K) (lc_4 hL hA s K) (lc_5 hL hA s K) (lc_6 hL hA s K) (lc_7 hL hA s K) (lc_8 hL hA s K) (lc_9 hL hA s K) (lc_10 hL hA s K) (lc_11 hL hA s K) (lc_12 hL hA s K) (lc_13 hL hA s K) (lc_14 hL hA s K) (lc_15 hL hA s K) (lc_16 hL hA s K) (lc_17 hL hA s K) (lc_18 hL hA s K) (lc_19 hL hA s K) (lc_20 hL hA s K) (lc_21 hL hA s K) (lc_22 hL hA s K) (lc_23 hL hA s K) (lc_24 hL hA s K) (lc_25 hL hA s K) (lc_26 hL hA s K) (lc_27 hL hA s K) (lc_28 hL hA s K) (lc_29 hL hA s K) (lc_30 hL hA s K) (lc_31 hL hA s K) (lc_32 hL hA s K) (lc_33 hL hA s K) k hk
theorem pure_law {L : Nat} {xs : Nat → Int32} (hL : L ≤ 3072) : WP cd_law (callD 1000) (fun r _ => r = some (.int 1)) (600000, 7302250) 0 [] [some (.ref 0), none, none, none] (h0 L xs) := by
  refine st_law (L := L) (xs := xs) rfl rfl rfl rfl rfl rfl rfl rfl rfl _ (fun G s => ?_)
  exact lw_loop hL 512 0 G (by omega) (by omega) s
