/-! ===== the law: its cases (by program: gen_law.py) ===== -/
set_option maxRecDepth 20000 in
theorem US_law_556 {G : GT} (hG : Gmono G) (R : RT) (lm : Nat × Nat) : WP cd_law G R lm 556 = stp G R lm (2, 557, 1, 0, 0, 0, []) (WP cd_law G R lm) ∧ WP cd_law G R lm 557 = stp G R lm (86, 560, 93, 0, 0, 0, [7]) (WP cd_law G R lm) ∧ WP cd_law G R lm 560 = stp G R lm (2, 561, 2, 0, 0, 0, []) (WP cd_law G R lm) ∧ WP cd_law G R lm 561 = stp G R lm (86, 564, 216, 0, 0, 0, [8]) (WP cd_law G R lm) ∧ WP cd_law G R lm 564 = stp G R lm (41, 567, 997, 0, 0, 0, []) (WP cd_law G R lm) ∧ WP cd_law G R lm 567 = stp G R lm (7, 568, 0, 0, nI 0, 0, []) (WP cd_law G R lm) ∧ WP cd_law G R lm 568 = stp G R lm (81, 569, 1, 0, 0, 0, []) (WP cd_law G R lm) := ⟨WP_eq hG rfl, WP_eq hG rfl, WP_eq hG rfl, WP_eq hG rfl, WP_eq hG rfl, WP_eq hG rfl, WP_eq hG rfl⟩
theorem lc_14 {L a m : Nat} {xs : Nat → Int32} (hL : L ≤ 3072) (ha : a + 6 ≤ L) {h : MH} (s : Sta L xs (m + 1) h) (K : ∀ h2, Sta L xs m h2 → WP cd_law (callD 1000) (fun r _ => r = some (.int 1)) (600000, 7302250) 997 [] [some (.ref 0), some (.ref 24), some (.ref 273), some (.int (nI a))] h2) : WP cd_law (callD 1000) (fun r _ => r = some (.int 1)) (600000, 7302250) 556 [] [some (.ref 0), some (.ref 24), some (.ref 273), some (.int (nI a))] h := by
  have s0 := s
  obtain ⟨g, la, i0, r1, r2⟩ := s
  have k24 := i0.2.2.2.2.1
  have q := pI (L := L) (xs := xs) (k := 11) (by omega) op_step.L (e := rfl) (tyI_ok (l := rw_Di_step) (by decide +kernel)) g la i0
  obtain ⟨-, k0, l0, x0, -, -⟩ := i0
  simp (disch := omega) only [US_law_556 (cm _), SA, SB, SC1, SC2, SG, SK, SV, k0, l0, x0, k24, nI_add, nI_clamp, in_eq, true_or, or_true, true_implies, not_true_eq_false, not_false_eq_true, false_implies, true_and, and_true]
  refine cm _ _ _ _ _ _ (fun r h1 z => ?_) q
  obtain ⟨v, rfl, ⟨-, k0, l0, x0, -, k273⟩, q⟩ := z
  simp (disch := omega) only [US_law_556 (cm _), SA, SB, SC1, SC2, SG, SK, SV, k0, l0, x0, k273, nI_add, nI_clamp, in_eq, true_or, or_true, true_implies, not_true_eq_false, not_false_eq_true, false_implies, true_and, and_true]
  refine cm _ _ _ _ _ _ (fun r2 h2 z => ?_) q
  obtain ⟨rfl, p⟩ := z
  simp (disch := omega) only [US_law_556 (cm _), SA, SB, SC1, SC2, SG, SK, SV, eq_self, true_or, or_true, true_implies, not_true_eq_false, not_false_eq_true, false_implies, true_and, and_true]
  exact K h2 (Sta_n s0 p)
set_option maxRecDepth 20000 in
theorem US_law_569 {G : GT} (hG : Gmono G) (R : RT) (lm : Nat × Nat) : WP cd_law G R lm 569 = stp G R lm (2, 570, 1, 0, 0, 0, []) (WP cd_law G R lm) ∧ WP cd_law G R lm 570 = stp G R lm (2, 571, 0, 0, 0, 0, []) (WP cd_law G R lm) ∧ WP cd_law G R lm 571 = stp G R lm (1, 572, 3, 0, 0, 0, []) (WP cd_law G R lm) ∧ WP cd_law G R lm 572 = stp G R lm (7, 573, 0, 0, nI 1, 0, []) (WP cd_law G R lm) ∧ WP cd_law G R lm 573 = stp G R lm (12, 574, 0, 0, 0, 0, []) (WP cd_law G R lm) ∧ WP cd_law G R lm 574 = stp G R lm (62, 575, 0, 0, 0, 0, []) (WP cd_law G R lm) ∧ WP cd_law G R lm 575 = stp G R lm (86, 578, 94, 1, 0, 0, [7]) (WP cd_law G R lm) ∧ WP cd_law G R lm 578 = stp G R lm (2, 579, 2, 0, 0, 0, []) (WP cd_law G R lm) ∧ WP cd_law G R lm 579 = stp G R lm (2, 580, 0, 0, 0, 0, []) (WP cd_law G R lm) ∧ WP cd_law G R lm 580 = stp G R lm (1, 581, 3, 0, 0, 0, []) (WP cd_law G R lm) ∧ WP cd_law G R lm 581 = stp G R lm (7, 582, 0, 0, nI 1, 0, []) (WP cd_law G R lm) ∧ WP cd_law G R lm 582 = stp G R lm (12, 583, 0, 0, 0, 0, []) (WP cd_law G R lm) ∧ WP cd_law G R lm 583 = stp G R lm (62, 584, 0, 0, 0, 0, []) (WP cd_law G R lm) ∧ WP cd_law G R lm 584 = stp G R lm (86, 587, 218, 1, 0, 0, [8]) (WP cd_law G R lm) ∧ WP cd_law G R lm 587 = stp G R lm (41, 590, 997, 0, 0, 0, []) (WP cd_law G R lm) ∧ WP cd_law G R lm 590 = stp G R lm (7, 591, 0, 0, nI 0, 0, []) (WP cd_law G R lm) ∧ WP cd_law G R lm 591 = stp G R lm (81, 592, 1, 0, 0, 0, []) (WP cd_law G R lm) := ⟨WP_eq hG rfl, WP_eq hG rfl, WP_eq hG rfl, WP_eq hG rfl, WP_eq hG rfl, WP_eq hG rfl, WP_eq hG rfl, WP_eq hG rfl, WP_eq hG rfl, WP_eq hG rfl, WP_eq hG rfl, WP_eq hG rfl, WP_eq hG rfl, WP_eq hG rfl, WP_eq hG rfl, WP_eq hG rfl, WP_eq hG rfl⟩
theorem lc_15 {L a m : Nat} {xs : Nat → Int32} (hL : L ≤ 3072) (ha : a + 6 ≤ L) {h : MH} (s : Sta L xs (m + 1) h) (K : ∀ h2, Sta L xs m h2 → WP cd_law (callD 1000) (fun r _ => r = some (.int 1)) (600000, 7302250) 997 [] [some (.ref 0), some (.ref 24), some (.ref 273), some (.int (nI a))] h2) : WP cd_law (callD 1000) (fun r _ => r = some (.int 1)) (600000, 7302250) 569 [] [some (.ref 0), some (.ref 24), some (.ref 273), some (.int (nI a))] h := by
  have s0 := s
  obtain ⟨g, la, i0, r1, r2⟩ := s
  have k24 := i0.2.2.2.2.1
  have q := pI (L := L) (xs := xs) (k := 11) (by omega) (op_cut (xs (a + 1))).L (e := rfl) (tyI_ok (l := rw_Di_cut) (by decide +kernel)) g la i0
  obtain ⟨-, k0, l0, x0, -, -⟩ := i0
  simp (disch := omega) only [US_law_569 (cm _), SA, SB, SC1, SC2, SG, SK, SV, k0, l0, x0, k24, nI_add, nI_clamp, in_eq, true_or, or_true, true_implies, not_true_eq_false, not_false_eq_true, false_implies, true_and, and_true]
  refine cm _ _ _ _ _ _ (fun r h1 z => ?_) q
  obtain ⟨v, rfl, ⟨-, k0, l0, x0, -, k273⟩, q⟩ := z
  simp (disch := omega) only [US_law_569 (cm _), SA, SB, SC1, SC2, SG, SK, SV, k0, l0, x0, k273, nI_add, nI_clamp, in_eq, true_or, or_true, true_implies, not_true_eq_false, not_false_eq_true, false_implies, true_and, and_true]
  refine cm _ _ _ _ _ _ (fun r2 h2 z => ?_) q
  obtain ⟨rfl, p⟩ := z
  simp (disch := omega) only [US_law_569 (cm _), SA, SB, SC1, SC2, SG, SK, SV, eq_self, true_or, or_true, true_implies, not_true_eq_false, not_false_eq_true, false_implies, true_and, and_true]
  exact K h2 (Sta_n s0 p)
set_option maxRecDepth 20000 in
theorem US_law_592 {G : GT} (hG : Gmono G) (R : RT) (lm : Nat × Nat) : WP cd_law G R lm 592 = stp G R lm (2, 593, 1, 0, 0, 0, []) (WP cd_law G R lm) ∧ WP cd_law G R lm 593 = stp G R lm (86, 596, 95, 0, 0, 0, [7]) (WP cd_law G R lm) ∧ WP cd_law G R lm 596 = stp G R lm (2, 597, 2, 0, 0, 0, []) (WP cd_law G R lm) ∧ WP cd_law G R lm 597 = stp G R lm (86, 600, 139, 0, 0, 0, [8]) (WP cd_law G R lm) ∧ WP cd_law G R lm 600 = stp G R lm (41, 603, 997, 0, 0, 0, []) (WP cd_law G R lm) ∧ WP cd_law G R lm 603 = stp G R lm (7, 604, 0, 0, nI 0, 0, []) (WP cd_law G R lm) ∧ WP cd_law G R lm 604 = stp G R lm (81, 605, 1, 0, 0, 0, []) (WP cd_law G R lm) := ⟨WP_eq hG rfl, WP_eq hG rfl, WP_eq hG rfl, WP_eq hG rfl, WP_eq hG rfl, WP_eq hG rfl, WP_eq hG rfl⟩
theorem lc_16 {L a m : Nat} {xs : Nat → Int32} (hL : L ≤ 3072) (ha : a + 6 ≤ L) {h : MH} (s : Sta L xs (m + 1) h) (K : ∀ h2, Sta L xs m h2 → WP cd_law (callD 1000) (fun r _ => r = some (.int 1)) (600000, 7302250) 997 [] [some (.ref 0), some (.ref 24), some (.ref 273), some (.int (nI a))] h2) : WP cd_law (callD 1000) (fun r _ => r = some (.int 1)) (600000, 7302250) 592 [] [some (.ref 0), some (.ref 24), some (.ref 273), some (.int (nI a))] h := by
  have s0 := s
  obtain ⟨g, la, i0, r1, r2⟩ := s
  have k24 := i0.2.2.2.2.1
  have q := pI (L := L) (xs := xs) (k := 3) (by omega) op_undo.L (e := rfl) (tyI_ok (l := rw_Di_undo) (by decide +kernel)) g la i0
  obtain ⟨-, k0, l0, x0, -, -⟩ := i0
  simp (disch := omega) only [US_law_592 (cm _), SA, SB, SC1, SC2, SG, SK, SV, k0, l0, x0, k24, nI_add, nI_clamp, in_eq, true_or, or_true, true_implies, not_true_eq_false, not_false_eq_true, false_implies, true_and, and_true]
  refine cm _ _ _ _ _ _ (fun r h1 z => ?_) q
  obtain ⟨v, rfl, ⟨-, k0, l0, x0, -, k273⟩, q⟩ := z
  simp (disch := omega) only [US_law_592 (cm _), SA, SB, SC1, SC2, SG, SK, SV, k0, l0, x0, k273, nI_add, nI_clamp, in_eq, true_or, or_true, true_implies, not_true_eq_false, not_false_eq_true, false_implies, true_and, and_true]
  refine cm _ _ _ _ _ _ (fun r2 h2 z => ?_) q
  obtain ⟨rfl, p⟩ := z
  simp (disch := omega) only [US_law_592 (cm _), SA, SB, SC1, SC2, SG, SK, SV, eq_self, true_or, or_true, true_implies, not_true_eq_false, not_false_eq_true, false_implies, true_and, and_true]
  exact K h2 (Sta_n s0 p)
set_option maxRecDepth 20000 in
theorem US_law_605 {G : GT} (hG : Gmono G) (R : RT) (lm : Nat × Nat) : WP cd_law G R lm 605 = stp G R lm (2, 606, 1, 0, 0, 0, []) (WP cd_law G R lm) ∧ WP cd_law G R lm 606 = stp G R lm (2, 607, 0, 0, 0, 0, []) (WP cd_law G R lm) ∧ WP cd_law G R lm 607 = stp G R lm (1, 608, 3, 0, 0, 0, []) (WP cd_law G R lm) ∧ WP cd_law G R lm 608 = stp G R lm (7, 609, 0, 0, nI 1, 0, []) (WP cd_law G R lm) ∧ WP cd_law G R lm 609 = stp G R lm (12, 610, 0, 0, 0, 0, []) (WP cd_law G R lm) ∧ WP cd_law G R lm 610 = stp G R lm (62, 611, 0, 0, 0, 0, []) (WP cd_law G R lm) ∧ WP cd_law G R lm 611 = stp G R lm (2, 612, 0, 0, 0, 0, []) (WP cd_law G R lm) ∧ WP cd_law G R lm 612 = stp G R lm (1, 613, 3, 0, 0, 0, []) (WP cd_law G R lm) ∧ WP cd_law G R lm 613 = stp G R lm (7, 614, 0, 0, nI 2, 0, []) (WP cd_law G R lm) ∧ WP cd_law G R lm 614 = stp G R lm (12, 615, 0, 0, 0, 0, []) (WP cd_law G R lm) ∧ WP cd_law G R lm 615 = stp G R lm (62, 616, 0, 0, 0, 0, []) (WP cd_law G R lm) ∧ WP cd_law G R lm 616 = stp G R lm (86, 619, 96, 2, 0, 0, [7]) (WP cd_law G R lm) ∧ WP cd_law G R lm 619 = stp G R lm (2, 620, 2, 0, 0, 0, []) (WP cd_law G R lm) ∧ WP cd_law G R lm 620 = stp G R lm (2, 621, 0, 0, 0, 0, []) (WP cd_law G R lm) ∧ WP cd_law G R lm 621 = stp G R lm (1, 622, 3, 0, 0, 0, []) (WP cd_law G R lm) ∧ WP cd_law G R lm 622 = stp G R lm (7, 623, 0, 0, nI 1, 0, []) (WP cd_law G R lm) ∧ WP cd_law G R lm 623 = stp G R lm (12, 624, 0, 0, 0, 0, []) (WP cd_law G R lm) ∧ WP cd_law G R lm 624 = stp G R lm (62, 625, 0, 0, 0, 0, []) (WP cd_law G R lm) ∧ WP cd_law G R lm 625 = stp G R lm (2, 626, 0, 0, 0, 0, []) (WP cd_law G R lm) ∧ WP cd_law G R lm 626 = stp G R lm (1, 627, 3, 0, 0, 0, []) (WP cd_law G R lm) ∧ WP cd_law G R lm 627 = stp G R lm (7, 628, 0, 0, nI 2, 0, []) (WP cd_law G R lm) ∧ WP cd_law G R lm 628 = stp G R lm (12, 629, 0, 0, 0, 0, []) (WP cd_law G R lm) ∧ WP cd_law G R lm 629 = stp G R lm (62, 630, 0, 0, 0, 0, []) (WP cd_law G R lm) ∧ WP cd_law G R lm 630 = stp G R lm (86, 633, 220, 2, 0, 0, [8]) (WP cd_law G R lm) ∧ WP cd_law G R lm 633 = stp G R lm (41, 636, 997, 0, 0, 0, []) (WP cd_law G R lm) ∧ WP cd_law G R lm 636 = stp G R lm (7, 637, 0, 0, nI 0, 0, []) (WP cd_law G R lm) ∧ WP cd_law G R lm 637 = stp G R lm (81, 638, 1, 0, 0, 0, []) (WP cd_law G R lm) := ⟨WP_eq hG rfl, WP_eq hG rfl, WP_eq hG rfl, WP_eq hG rfl, WP_eq hG rfl, WP_eq hG rfl, WP_eq hG rfl, WP_eq hG rfl, WP_eq hG rfl, WP_eq hG rfl, WP_eq hG rfl, WP_eq hG rfl, WP_eq hG rfl, WP_eq hG rfl, WP_eq hG rfl, WP_eq hG rfl, WP_eq hG rfl, WP_eq hG rfl, WP_eq hG rfl, WP_eq hG rfl, WP_eq hG rfl, WP_eq hG rfl, WP_eq hG rfl, WP_eq hG rfl, WP_eq hG rfl, WP_eq hG rfl, WP_eq hG rfl⟩
theorem lc_17 {L a m : Nat} {xs : Nat → Int32} (hL : L ≤ 3072) (ha : a + 6 ≤ L) {h : MH} (s : Sta L xs (m + 1) h) (K : ∀ h2, Sta L xs m h2 → WP cd_law (callD 1000) (fun r _ => r = some (.int 1)) (600000, 7302250) 997 [] [some (.ref 0), some (.ref 24), some (.ref 273), some (.int (nI a))] h2) : WP cd_law (callD 1000) (fun r _ => r = some (.int 1)) (600000, 7302250) 605 [] [some (.ref 0), some (.ref 24), some (.ref 273), some (.int (nI a))] h := by
  have s0 := s
  obtain ⟨g, la, i0, r1, r2⟩ := s
  have k24 := i0.2.2.2.2.1
  have q := pI (L := L) (xs := xs) (k := 3) (by omega) (op_path (xs (a + 1)) (xs (a + 2))).L (e := rfl) (tyI_ok (l := rw_Di_path) (by decide +kernel)) g la i0
  obtain ⟨-, k0, l0, x0, -, -⟩ := i0
  simp (disch := omega) only [US_law_605 (cm _), SA, SB, SC1, SC2, SG, SK, SV, k0, l0, x0, k24, nI_add, nI_clamp, in_eq, true_or, or_true, true_implies, not_true_eq_false, not_false_eq_true, false_implies, true_and, and_true]
  refine cm _ _ _ _ _ _ (fun r h1 z => ?_) q
  obtain ⟨v, rfl, ⟨-, k0, l0, x0, -, k273⟩, q⟩ := z
  simp (disch := omega) only [US_law_605 (cm _), SA, SB, SC1, SC2, SG, SK, SV, k0, l0, x0, k273, nI_add, nI_clamp, in_eq, true_or, or_true, true_implies, not_true_eq_false, not_false_eq_true, false_implies, true_and, and_true]
  refine cm _ _ _ _ _ _ (fun r2 h2 z => ?_) q
  obtain ⟨rfl, p⟩ := z
  simp (disch := omega) only [US_law_605 (cm _), SA, SB, SC1, SC2, SG, SK, SV, eq_self, true_or, or_true, true_implies, not_true_eq_false, not_false_eq_true, false_implies, true_and, and_true]
  exact K h2 (Sta_n s0 p)
set_option maxRecDepth 20000 in
theorem US_law_638 {G : GT} (hG : Gmono G) (R : RT) (lm : Nat × Nat) : WP cd_law G R lm 638 = stp G R lm (2, 639, 1, 0, 0, 0, []) (WP cd_law G R lm) ∧ WP cd_law G R lm 639 = stp G R lm (86, 642, 97, 0, 0, 0, [7]) (WP cd_law G R lm) ∧ WP cd_law G R lm 642 = stp G R lm (2, 643, 2, 0, 0, 0, []) (WP cd_law G R lm) ∧ WP cd_law G R lm 643 = stp G R lm (86, 646, 221, 0, 0, 0, [8]) (WP cd_law G R lm) ∧ WP cd_law G R lm 646 = stp G R lm (41, 649, 997, 0, 0, 0, []) (WP cd_law G R lm) ∧ WP cd_law G R lm 649 = stp G R lm (7, 650, 0, 0, nI 0, 0, []) (WP cd_law G R lm) ∧ WP cd_law G R lm 650 = stp G R lm (81, 651, 1, 0, 0, 0, []) (WP cd_law G R lm) := ⟨WP_eq hG rfl, WP_eq hG rfl, WP_eq hG rfl, WP_eq hG rfl, WP_eq hG rfl, WP_eq hG rfl, WP_eq hG rfl⟩
theorem lc_18 {L a m : Nat} {xs : Nat → Int32} (hL : L ≤ 3072) (ha : a + 6 ≤ L) {h : MH} (s : Sta L xs (m + 1) h) (K : ∀ h2, Sta L xs m h2 → WP cd_law (callD 1000) (fun r _ => r = some (.int 1)) (600000, 7302250) 997 [] [some (.ref 0), some (.ref 24), some (.ref 273), some (.int (nI a))] h2) : WP cd_law (callD 1000) (fun r _ => r = some (.int 1)) (600000, 7302250) 638 [] [some (.ref 0), some (.ref 24), some (.ref 273), some (.int (nI a))] h := by
  have s0 := s
  obtain ⟨g, la, i0, r1, r2⟩ := s
  have k24 := i0.2.2.2.2.1
  have q := pI (L := L) (xs := xs) (k := 3) (by omega) op_loops.L (e := rfl) (tyI_ok (l := rw_Di_loops) (by decide +kernel)) g la i0
  obtain ⟨-, k0, l0, x0, -, -⟩ := i0
  simp (disch := omega) only [US_law_638 (cm _), SA, SB, SC1, SC2, SG, SK, SV, k0, l0, x0, k24, nI_add, nI_clamp, in_eq, true_or, or_true, true_implies, not_true_eq_false, not_false_eq_true, false_implies, true_and, and_true]
  refine cm _ _ _ _ _ _ (fun r h1 z => ?_) q
  obtain ⟨v, rfl, ⟨-, k0, l0, x0, -, k273⟩, q⟩ := z
  simp (disch := omega) only [US_law_638 (cm _), SA, SB, SC1, SC2, SG, SK, SV, k0, l0, x0, k273, nI_add, nI_clamp, in_eq, true_or, or_true, true_implies, not_true_eq_false, not_false_eq_true, false_implies, true_and, and_true]
  refine cm _ _ _ _ _ _ (fun r2 h2 z => ?_) q
  obtain ⟨rfl, p⟩ := z
  simp (disch := omega) only [US_law_638 (cm _), SA, SB, SC1, SC2, SG, SK, SV, eq_self, true_or, or_true, true_implies, not_true_eq_false, not_false_eq_true, false_implies, true_and, and_true]
  exact K h2 (Sta_n s0 p)
set_option maxRecDepth 20000 in
theorem US_law_651 {G : GT} (hG : Gmono G) (R : RT) (lm : Nat × Nat) : WP cd_law G R lm 651 = stp G R lm (2, 652, 1, 0, 0, 0, []) (WP cd_law G R lm) ∧ WP cd_law G R lm 652 = stp G R lm (2, 653, 0, 0, 0, 0, []) (WP cd_law G R lm) ∧ WP cd_law G R lm 653 = stp G R lm (1, 654, 3, 0, 0, 0, []) (WP cd_law G R lm) ∧ WP cd_law G R lm 654 = stp G R lm (7, 655, 0, 0, nI 1, 0, []) (WP cd_law G R lm) ∧ WP cd_law G R lm 655 = stp G R lm (12, 656, 0, 0, 0, 0, []) (WP cd_law G R lm) ∧ WP cd_law G R lm 656 = stp G R lm (62, 657, 0, 0, 0, 0, []) (WP cd_law G R lm) ∧ WP cd_law G R lm 657 = stp G R lm (86, 660, 98, 1, 0, 0, [7]) (WP cd_law G R lm) ∧ WP cd_law G R lm 660 = stp G R lm (2, 661, 2, 0, 0, 0, []) (WP cd_law G R lm) ∧ WP cd_law G R lm 661 = stp G R lm (2, 662, 0, 0, 0, 0, []) (WP cd_law G R lm) ∧ WP cd_law G R lm 662 = stp G R lm (1, 663, 3, 0, 0, 0, []) (WP cd_law G R lm) ∧ WP cd_law G R lm 663 = stp G R lm (7, 664, 0, 0, nI 1, 0, []) (WP cd_law G R lm) ∧ WP cd_law G R lm 664 = stp G R lm (12, 665, 0, 0, 0, 0, []) (WP cd_law G R lm) ∧ WP cd_law G R lm 665 = stp G R lm (62, 666, 0, 0, 0, 0, []) (WP cd_law G R lm) ∧ WP cd_law G R lm 666 = stp G R lm (86, 669, 222, 1, 0, 0, [8]) (WP cd_law G R lm) ∧ WP cd_law G R lm 669 = stp G R lm (41, 672, 997, 0, 0, 0, []) (WP cd_law G R lm) ∧ WP cd_law G R lm 672 = stp G R lm (7, 673, 0, 0, nI 0, 0, []) (WP cd_law G R lm) ∧ WP cd_law G R lm 673 = stp G R lm (81, 674, 1, 0, 0, 0, []) (WP cd_law G R lm) := ⟨WP_eq hG rfl, WP_eq hG rfl, WP_eq hG rfl, WP_eq hG rfl, WP_eq hG rfl, WP_eq hG rfl, WP_eq hG rfl, WP_eq hG rfl, WP_eq hG rfl, WP_eq hG rfl, WP_eq hG rfl, WP_eq hG rfl, WP_eq hG rfl, WP_eq hG rfl, WP_eq hG rfl, WP_eq hG rfl, WP_eq hG rfl⟩
theorem lc_19 {L a m : Nat} {xs : Nat → Int32} (hL : L ≤ 3072) (ha : a + 6 ≤ L) {h : MH} (s : Sta L xs (m + 1) h) (K : ∀ h2, Sta L xs m h2 → WP cd_law (callD 1000) (fun r _ => r = some (.int 1)) (600000, 7302250) 997 [] [some (.ref 0), some (.ref 24), some (.ref 273), some (.int (nI a))] h2) : WP cd_law (callD 1000) (fun r _ => r = some (.int 1)) (600000, 7302250) 651 [] [some (.ref 0), some (.ref 24), some (.ref 273), some (.int (nI a))] h := by
  have s0 := s
  obtain ⟨g, la, i0, r1, r2⟩ := s
  have k24 := i0.2.2.2.2.1
  have q := pI (L := L) (xs := xs) (k := 3) (by omega) (op_least (xs (a + 1))).L (e := rfl) (tyI_ok (l := rw_Di_least) (by decide +kernel)) g la i0
  obtain ⟨-, k0, l0, x0, -, -⟩ := i0
  simp (disch := omega) only [US_law_651 (cm _), SA, SB, SC1, SC2, SG, SK, SV, k0, l0, x0, k24, nI_add, nI_clamp, in_eq, true_or, or_true, true_implies, not_true_eq_false, not_false_eq_true, false_implies, true_and, and_true]
  refine cm _ _ _ _ _ _ (fun r h1 z => ?_) q
  obtain ⟨v, rfl, ⟨-, k0, l0, x0, -, k273⟩, q⟩ := z
  simp (disch := omega) only [US_law_651 (cm _), SA, SB, SC1, SC2, SG, SK, SV, k0, l0, x0, k273, nI_add, nI_clamp, in_eq, true_or, or_true, true_implies, not_true_eq_false, not_false_eq_true, false_implies, true_and, and_true]
  refine cm _ _ _ _ _ _ (fun r2 h2 z => ?_) q
  obtain ⟨rfl, p⟩ := z
  simp (disch := omega) only [US_law_651 (cm _), SA, SB, SC1, SC2, SG, SK, SV, eq_self, true_or, or_true, true_implies, not_true_eq_false, not_false_eq_true, false_implies, true_and, and_true]
  exact K h2 (Sta_n s0 p)
set_option maxRecDepth 20000 in
theorem US_law_674 {G : GT} (hG : Gmono G) (R : RT) (lm : Nat × Nat) : WP cd_law G R lm 674 = stp G R lm (2, 675, 1, 0, 0, 0, []) (WP cd_law G R lm) ∧ WP cd_law G R lm 675 = stp G R lm (86, 678, 99, 0, 0, 0, [7]) (WP cd_law G R lm) ∧ WP cd_law G R lm 678 = stp G R lm (2, 679, 2, 0, 0, 0, []) (WP cd_law G R lm) ∧ WP cd_law G R lm 679 = stp G R lm (86, 682, 224, 0, 0, 0, [8]) (WP cd_law G R lm) ∧ WP cd_law G R lm 682 = stp G R lm (41, 685, 997, 0, 0, 0, []) (WP cd_law G R lm) ∧ WP cd_law G R lm 685 = stp G R lm (7, 686, 0, 0, nI 0, 0, []) (WP cd_law G R lm) ∧ WP cd_law G R lm 686 = stp G R lm (81, 687, 1, 0, 0, 0, []) (WP cd_law G R lm) := ⟨WP_eq hG rfl, WP_eq hG rfl, WP_eq hG rfl, WP_eq hG rfl, WP_eq hG rfl, WP_eq hG rfl, WP_eq hG rfl⟩
theorem lc_20 {L a m : Nat} {xs : Nat → Int32} (hL : L ≤ 3072) (ha : a + 6 ≤ L) {h : MH} (s : Sta L xs (m + 1) h) (K : ∀ h2, Sta L xs m h2 → WP cd_law (callD 1000) (fun r _ => r = some (.int 1)) (600000, 7302250) 997 [] [some (.ref 0), some (.ref 24), some (.ref 273), some (.int (nI a))] h2) : WP cd_law (callD 1000) (fun r _ => r = some (.int 1)) (600000, 7302250) 674 [] [some (.ref 0), some (.ref 24), some (.ref 273), some (.int (nI a))] h := by
  have s0 := s
  obtain ⟨g, la, i0, r1, r2⟩ := s
  have k24 := i0.2.2.2.2.1
  have q := pI (L := L) (xs := xs) (k := 11) (by omega) op_quiet.L (e := rfl) (tyI_ok (l := rw_Di_quiet) (by decide +kernel)) g la i0
  obtain ⟨-, k0, l0, x0, -, -⟩ := i0
  simp (disch := omega) only [US_law_674 (cm _), SA, SB, SC1, SC2, SG, SK, SV, k0, l0, x0, k24, nI_add, nI_clamp, in_eq, true_or, or_true, true_implies, not_true_eq_false, not_false_eq_true, false_implies, true_and, and_true]
  refine cm _ _ _ _ _ _ (fun r h1 z => ?_) q
  obtain ⟨v, rfl, ⟨-, k0, l0, x0, -, k273⟩, q⟩ := z
  simp (disch := omega) only [US_law_674 (cm _), SA, SB, SC1, SC2, SG, SK, SV, k0, l0, x0, k273, nI_add, nI_clamp, in_eq, true_or, or_true, true_implies, not_true_eq_false, not_false_eq_true, false_implies, true_and, and_true]
  refine cm _ _ _ _ _ _ (fun r2 h2 z => ?_) q
  obtain ⟨rfl, p⟩ := z
  simp (disch := omega) only [US_law_674 (cm _), SA, SB, SC1, SC2, SG, SK, SV, eq_self, true_or, or_true, true_implies, not_true_eq_false, not_false_eq_true, false_implies, true_and, and_true]
  exact K h2 (Sta_n s0 p)
set_option maxRecDepth 20000 in
theorem US_law_687 {G : GT} (hG : Gmono G) (R : RT) (lm : Nat × Nat) : WP cd_law G R lm 687 = stp G R lm (2, 688, 1, 0, 0, 0, []) (WP cd_law G R lm) ∧ WP cd_law G R lm 688 = stp G R lm (2, 689, 0, 0, 0, 0, []) (WP cd_law G R lm) ∧ WP cd_law G R lm 689 = stp G R lm (1, 690, 3, 0, 0, 0, []) (WP cd_law G R lm) ∧ WP cd_law G R lm 690 = stp G R lm (7, 691, 0, 0, nI 1, 0, []) (WP cd_law G R lm) ∧ WP cd_law G R lm 691 = stp G R lm (12, 692, 0, 0, 0, 0, []) (WP cd_law G R lm) ∧ WP cd_law G R lm 692 = stp G R lm (62, 693, 0, 0, 0, 0, []) (WP cd_law G R lm) ∧ WP cd_law G R lm 693 = stp G R lm (86, 696, 100, 1, 0, 0, [7]) (WP cd_law G R lm) ∧ WP cd_law G R lm 696 = stp G R lm (2, 697, 2, 0, 0, 0, []) (WP cd_law G R lm) ∧ WP cd_law G R lm 697 = stp G R lm (2, 698, 0, 0, 0, 0, []) (WP cd_law G R lm) ∧ WP cd_law G R lm 698 = stp G R lm (1, 699, 3, 0, 0, 0, []) (WP cd_law G R lm) ∧ WP cd_law G R lm 699 = stp G R lm (7, 700, 0, 0, nI 1, 0, []) (WP cd_law G R lm) ∧ WP cd_law G R lm 700 = stp G R lm (12, 701, 0, 0, 0, 0, []) (WP cd_law G R lm) ∧ WP cd_law G R lm 701 = stp G R lm (62, 702, 0, 0, 0, 0, []) (WP cd_law G R lm) ∧ WP cd_law G R lm 702 = stp G R lm (86, 705, 225, 1, 0, 0, [8]) (WP cd_law G R lm) ∧ WP cd_law G R lm 705 = stp G R lm (41, 708, 997, 0, 0, 0, []) (WP cd_law G R lm) ∧ WP cd_law G R lm 708 = stp G R lm (7, 709, 0, 0, nI 0, 0, []) (WP cd_law G R lm) ∧ WP cd_law G R lm 709 = stp G R lm (81, 710, 1, 0, 0, 0, []) (WP cd_law G R lm) := ⟨WP_eq hG rfl, WP_eq hG rfl, WP_eq hG rfl, WP_eq hG rfl, WP_eq hG rfl, WP_eq hG rfl, WP_eq hG rfl, WP_eq hG rfl, WP_eq hG rfl, WP_eq hG rfl, WP_eq hG rfl, WP_eq hG rfl, WP_eq hG rfl, WP_eq hG rfl, WP_eq hG rfl, WP_eq hG rfl, WP_eq hG rfl⟩
theorem lc_21 {L a m : Nat} {xs : Nat → Int32} (hL : L ≤ 3072) (ha : a + 6 ≤ L) {h : MH} (s : Sta L xs (m + 1) h) (K : ∀ h2, Sta L xs m h2 → WP cd_law (callD 1000) (fun r _ => r = some (.int 1)) (600000, 7302250) 997 [] [some (.ref 0), some (.ref 24), some (.ref 273), some (.int (nI a))] h2) : WP cd_law (callD 1000) (fun r _ => r = some (.int 1)) (600000, 7302250) 687 [] [some (.ref 0), some (.ref 24), some (.ref 273), some (.int (nI a))] h := by
  have s0 := s
  obtain ⟨g, la, i0, r1, r2⟩ := s
  have k24 := i0.2.2.2.2.1
  have q := pI (L := L) (xs := xs) (k := 11) (by omega) (op_then (xs (a + 1))).L (e := rfl) (tyI_ok (l := rw_Di_then) (by decide +kernel)) g la i0
  obtain ⟨-, k0, l0, x0, -, -⟩ := i0
  simp (disch := omega) only [US_law_687 (cm _), SA, SB, SC1, SC2, SG, SK, SV, k0, l0, x0, k24, nI_add, nI_clamp, in_eq, true_or, or_true, true_implies, not_true_eq_false, not_false_eq_true, false_implies, true_and, and_true]
  refine cm _ _ _ _ _ _ (fun r h1 z => ?_) q
  obtain ⟨v, rfl, ⟨-, k0, l0, x0, -, k273⟩, q⟩ := z
  simp (disch := omega) only [US_law_687 (cm _), SA, SB, SC1, SC2, SG, SK, SV, k0, l0, x0, k273, nI_add, nI_clamp, in_eq, true_or, or_true, true_implies, not_true_eq_false, not_false_eq_true, false_implies, true_and, and_true]
  refine cm _ _ _ _ _ _ (fun r2 h2 z => ?_) q
  obtain ⟨rfl, p⟩ := z
  simp (disch := omega) only [US_law_687 (cm _), SA, SB, SC1, SC2, SG, SK, SV, eq_self, true_or, or_true, true_implies, not_true_eq_false, not_false_eq_true, false_implies, true_and, and_true]
  exact K h2 (Sta_n s0 p)
set_option maxRecDepth 20000 in
theorem US_law_710 {G : GT} (hG : Gmono G) (R : RT) (lm : Nat × Nat) : WP cd_law G R lm 710 = stp G R lm (2, 711, 1, 0, 0, 0, []) (WP cd_law G R lm) ∧ WP cd_law G R lm 711 = stp G R lm (2, 712, 0, 0, 0, 0, []) (WP cd_law G R lm) ∧ WP cd_law G R lm 712 = stp G R lm (1, 713, 3, 0, 0, 0, []) (WP cd_law G R lm) ∧ WP cd_law G R lm 713 = stp G R lm (7, 714, 0, 0, nI 1, 0, []) (WP cd_law G R lm) ∧ WP cd_law G R lm 714 = stp G R lm (12, 715, 0, 0, 0, 0, []) (WP cd_law G R lm) ∧ WP cd_law G R lm 715 = stp G R lm (62, 716, 0, 0, 0, 0, []) (WP cd_law G R lm) ∧ WP cd_law G R lm 716 = stp G R lm (2, 717, 0, 0, 0, 0, []) (WP cd_law G R lm) ∧ WP cd_law G R lm 717 = stp G R lm (1, 718, 3, 0, 0, 0, []) (WP cd_law G R lm) ∧ WP cd_law G R lm 718 = stp G R lm (7, 719, 0, 0, nI 2, 0, []) (WP cd_law G R lm) ∧ WP cd_law G R lm 719 = stp G R lm (12, 720, 0, 0, 0, 0, []) (WP cd_law G R lm) ∧ WP cd_law G R lm 720 = stp G R lm (62, 721, 0, 0, 0, 0, []) (WP cd_law G R lm) ∧ WP cd_law G R lm 721 = stp G R lm (86, 724, 101, 2, 0, 0, [7]) (WP cd_law G R lm) ∧ WP cd_law G R lm 724 = stp G R lm (2, 725, 2, 0, 0, 0, []) (WP cd_law G R lm) ∧ WP cd_law G R lm 725 = stp G R lm (2, 726, 0, 0, 0, 0, []) (WP cd_law G R lm) ∧ WP cd_law G R lm 726 = stp G R lm (1, 727, 3, 0, 0, 0, []) (WP cd_law G R lm) ∧ WP cd_law G R lm 727 = stp G R lm (7, 728, 0, 0, nI 1, 0, []) (WP cd_law G R lm) ∧ WP cd_law G R lm 728 = stp G R lm (12, 729, 0, 0, 0, 0, []) (WP cd_law G R lm) ∧ WP cd_law G R lm 729 = stp G R lm (62, 730, 0, 0, 0, 0, []) (WP cd_law G R lm) ∧ WP cd_law G R lm 730 = stp G R lm (2, 731, 0, 0, 0, 0, []) (WP cd_law G R lm) ∧ WP cd_law G R lm 731 = stp G R lm (1, 732, 3, 0, 0, 0, []) (WP cd_law G R lm) ∧ WP cd_law G R lm 732 = stp G R lm (7, 733, 0, 0, nI 2, 0, []) (WP cd_law G R lm) ∧ WP cd_law G R lm 733 = stp G R lm (12, 734, 0, 0, 0, 0, []) (WP cd_law G R lm) ∧ WP cd_law G R lm 734 = stp G R lm (62, 735, 0, 0, 0, 0, []) (WP cd_law G R lm) ∧ WP cd_law G R lm 735 = stp G R lm (86, 738, 228, 2, 0, 0, [8]) (WP cd_law G R lm) ∧ WP cd_law G R lm 738 = stp G R lm (41, 741, 997, 0, 0, 0, []) (WP cd_law G R lm) ∧ WP cd_law G R lm 741 = stp G R lm (7, 742, 0, 0, nI 0, 0, []) (WP cd_law G R lm) ∧ WP cd_law G R lm 742 = stp G R lm (81, 743, 1, 0, 0, 0, []) (WP cd_law G R lm) := ⟨WP_eq hG rfl, WP_eq hG rfl, WP_eq hG rfl, WP_eq hG rfl, WP_eq hG rfl, WP_eq hG rfl, WP_eq hG rfl, WP_eq hG rfl, WP_eq hG rfl, WP_eq hG rfl, WP_eq hG rfl, WP_eq hG rfl, WP_eq hG rfl, WP_eq hG rfl, WP_eq hG rfl, WP_eq hG rfl, WP_eq hG rfl, WP_eq hG rfl, WP_eq hG rfl, WP_eq hG rfl, WP_eq hG rfl, WP_eq hG rfl, WP_eq hG rfl, WP_eq hG rfl, WP_eq hG rfl, WP_eq hG rfl, WP_eq hG rfl⟩
theorem lc_22 {L a m : Nat} {xs : Nat → Int32} (hL : L ≤ 3072) (ha : a + 6 ≤ L) {h : MH} (s : Sta L xs (m + 1) h) (K : ∀ h2, Sta L xs m h2 → WP cd_law (callD 1000) (fun r _ => r = some (.int 1)) (600000, 7302250) 997 [] [some (.ref 0), some (.ref 24), some (.ref 273), some (.int (nI a))] h2) : WP cd_law (callD 1000) (fun r _ => r = some (.int 1)) (600000, 7302250) 710 [] [some (.ref 0), some (.ref 24), some (.ref 273), some (.int (nI a))] h := by
  have s0 := s
  obtain ⟨g, la, i0, r1, r2⟩ := s
  have k24 := i0.2.2.2.2.1
  have q := pI (L := L) (xs := xs) (k := 2) (by omega) (op_seen (xs (a + 1)) (xs (a + 2))).L (e := rfl) (tyI_ok (l := rw_Di_seen) (by decide +kernel)) g la i0
  obtain ⟨-, k0, l0, x0, -, -⟩ := i0
  simp (disch := omega) only [US_law_710 (cm _), SA, SB, SC1, SC2, SG, SK, SV, k0, l0, x0, k24, nI_add, nI_clamp, in_eq, true_or, or_true, true_implies, not_true_eq_false, not_false_eq_true, false_implies, true_and, and_true]
  refine cm _ _ _ _ _ _ (fun r h1 z => ?_) q
  obtain ⟨v, rfl, ⟨-, k0, l0, x0, -, k273⟩, q⟩ := z
  simp (disch := omega) only [US_law_710 (cm _), SA, SB, SC1, SC2, SG, SK, SV, k0, l0, x0, k273, nI_add, nI_clamp, in_eq, true_or, or_true, true_implies, not_true_eq_false, not_false_eq_true, false_implies, true_and, and_true]
  refine cm _ _ _ _ _ _ (fun r2 h2 z => ?_) q
  obtain ⟨rfl, p⟩ := z
  simp (disch := omega) only [US_law_710 (cm _), SA, SB, SC1, SC2, SG, SK, SV, eq_self, true_or, or_true, true_implies, not_true_eq_false, not_false_eq_true, false_implies, true_and, and_true]
  exact K h2 (Sta_n s0 p)
set_option maxRecDepth 20000 in
theorem US_law_743 {G : GT} (hG : Gmono G) (R : RT) (lm : Nat × Nat) : WP cd_law G R lm 743 = stp G R lm (2, 744, 1, 0, 0, 0, []) (WP cd_law G R lm) ∧ WP cd_law G R lm 744 = stp G R lm (86, 747, 102, 0, 0, 0, [7]) (WP cd_law G R lm) ∧ WP cd_law G R lm 747 = stp G R lm (2, 748, 2, 0, 0, 0, []) (WP cd_law G R lm) ∧ WP cd_law G R lm 748 = stp G R lm (86, 751, 229, 0, 0, 0, [8]) (WP cd_law G R lm) ∧ WP cd_law G R lm 751 = stp G R lm (41, 754, 997, 0, 0, 0, []) (WP cd_law G R lm) ∧ WP cd_law G R lm 754 = stp G R lm (7, 755, 0, 0, nI 0, 0, []) (WP cd_law G R lm) ∧ WP cd_law G R lm 755 = stp G R lm (81, 756, 1, 0, 0, 0, []) (WP cd_law G R lm) := ⟨WP_eq hG rfl, WP_eq hG rfl, WP_eq hG rfl, WP_eq hG rfl, WP_eq hG rfl, WP_eq hG rfl, WP_eq hG rfl⟩
theorem lc_23 {L a m : Nat} {xs : Nat → Int32} (hL : L ≤ 3072) (ha : a + 6 ≤ L) {h : MH} (s : Sta L xs (m + 1) h) (K : ∀ h2, Sta L xs m h2 → WP cd_law (callD 1000) (fun r _ => r = some (.int 1)) (600000, 7302250) 997 [] [some (.ref 0), some (.ref 24), some (.ref 273), some (.int (nI a))] h2) : WP cd_law (callD 1000) (fun r _ => r = some (.int 1)) (600000, 7302250) 743 [] [some (.ref 0), some (.ref 24), some (.ref 273), some (.int (nI a))] h := by
  have s0 := s
  obtain ⟨g, la, i0, r1, r2⟩ := s
  have k24 := i0.2.2.2.2.1
  have q := pI (L := L) (xs := xs) (k := 1) (by omega) op_forget.L (e := rfl) (tyI_ok (l := rw_Di_forget) (by decide +kernel)) g la i0
  obtain ⟨-, k0, l0, x0, -, -⟩ := i0
  simp (disch := omega) only [US_law_743 (cm _), SA, SB, SC1, SC2, SG, SK, SV, k0, l0, x0, k24, nI_add, nI_clamp, in_eq, true_or, or_true, true_implies, not_true_eq_false, not_false_eq_true, false_implies, true_and, and_true]
  refine cm _ _ _ _ _ _ (fun r h1 z => ?_) q
  obtain ⟨v, rfl, ⟨-, k0, l0, x0, -, k273⟩, q⟩ := z
  simp (disch := omega) only [US_law_743 (cm _), SA, SB, SC1, SC2, SG, SK, SV, k0, l0, x0, k273, nI_add, nI_clamp, in_eq, true_or, or_true, true_implies, not_true_eq_false, not_false_eq_true, false_implies, true_and, and_true]
  refine cm _ _ _ _ _ _ (fun r2 h2 z => ?_) q
  obtain ⟨rfl, p⟩ := z
  simp (disch := omega) only [US_law_743 (cm _), SA, SB, SC1, SC2, SG, SK, SV, eq_self, true_or, or_true, true_implies, not_true_eq_false, not_false_eq_true, false_implies, true_and, and_true]
  exact K h2 (Sta_n s0 p)
set_option maxRecDepth 20000 in
theorem US_law_756 {G : GT} (hG : Gmono G) (R : RT) (lm : Nat × Nat) : WP cd_law G R lm 756 = stp G R lm (2, 757, 1, 0, 0, 0, []) (WP cd_law G R lm) ∧ WP cd_law G R lm 757 = stp G R lm (86, 760, 103, 0, 0, 0, [7]) (WP cd_law G R lm) ∧ WP cd_law G R lm 760 = stp G R lm (2, 761, 2, 0, 0, 0, []) (WP cd_law G R lm) ∧ WP cd_law G R lm 761 = stp G R lm (86, 764, 231, 0, 0, 0, [8]) (WP cd_law G R lm) ∧ WP cd_law G R lm 764 = stp G R lm (41, 767, 997, 0, 0, 0, []) (WP cd_law G R lm) ∧ WP cd_law G R lm 767 = stp G R lm (7, 768, 0, 0, nI 0, 0, []) (WP cd_law G R lm) ∧ WP cd_law G R lm 768 = stp G R lm (81, 769, 1, 0, 0, 0, []) (WP cd_law G R lm) := ⟨WP_eq hG rfl, WP_eq hG rfl, WP_eq hG rfl, WP_eq hG rfl, WP_eq hG rfl, WP_eq hG rfl, WP_eq hG rfl⟩
theorem lc_24 {L a m : Nat} {xs : Nat → Int32} (hL : L ≤ 3072) (ha : a + 6 ≤ L) {h : MH} (s : Sta L xs (m + 1) h) (K : ∀ h2, Sta L xs m h2 → WP cd_law (callD 1000) (fun r _ => r = some (.int 1)) (600000, 7302250) 997 [] [some (.ref 0), some (.ref 24), some (.ref 273), some (.int (nI a))] h2) : WP cd_law (callD 1000) (fun r _ => r = some (.int 1)) (600000, 7302250) 756 [] [some (.ref 0), some (.ref 24), some (.ref 273), some (.int (nI a))] h := by
  have s0 := s
  obtain ⟨g, la, i0, r1, r2⟩ := s
  have k24 := i0.2.2.2.2.1
  have q := pI (L := L) (xs := xs) (k := 5) (by omega) op_canBe.L (e := rfl) (tyI_ok (l := rw_Di_canBe) (by decide +kernel)) g la i0
  obtain ⟨-, k0, l0, x0, -, -⟩ := i0
  simp (disch := omega) only [US_law_756 (cm _), SA, SB, SC1, SC2, SG, SK, SV, k0, l0, x0, k24, nI_add, nI_clamp, in_eq, true_or, or_true, true_implies, not_true_eq_false, not_false_eq_true, false_implies, true_and, and_true]
  refine cm _ _ _ _ _ _ (fun r h1 z => ?_) q
  obtain ⟨v, rfl, ⟨-, k0, l0, x0, -, k273⟩, q⟩ := z
  simp (disch := omega) only [US_law_756 (cm _), SA, SB, SC1, SC2, SG, SK, SV, k0, l0, x0, k273, nI_add, nI_clamp, in_eq, true_or, or_true, true_implies, not_true_eq_false, not_false_eq_true, false_implies, true_and, and_true]
  refine cm _ _ _ _ _ _ (fun r2 h2 z => ?_) q
  obtain ⟨rfl, p⟩ := z
  simp (disch := omega) only [US_law_756 (cm _), SA, SB, SC1, SC2, SG, SK, SV, eq_self, true_or, or_true, true_implies, not_true_eq_false, not_false_eq_true, false_implies, true_and, and_true]
  exact K h2 (Sta_n s0 p)
set_option maxRecDepth 20000 in
theorem US_law_769 {G : GT} (hG : Gmono G) (R : RT) (lm : Nat × Nat) : WP cd_law G R lm 769 = stp G R lm (2, 770, 1, 0, 0, 0, []) (WP cd_law G R lm) ∧ WP cd_law G R lm 770 = stp G R lm (2, 771, 0, 0, 0, 0, []) (WP cd_law G R lm) ∧ WP cd_law G R lm 771 = stp G R lm (1, 772, 3, 0, 0, 0, []) (WP cd_law G R lm) ∧ WP cd_law G R lm 772 = stp G R lm (7, 773, 0, 0, nI 1, 0, []) (WP cd_law G R lm) ∧ WP cd_law G R lm 773 = stp G R lm (12, 774, 0, 0, 0, 0, []) (WP cd_law G R lm) ∧ WP cd_law G R lm 774 = stp G R lm (62, 775, 0, 0, 0, 0, []) (WP cd_law G R lm) ∧ WP cd_law G R lm 775 = stp G R lm (86, 778, 104, 1, 0, 0, [7]) (WP cd_law G R lm) ∧ WP cd_law G R lm 778 = stp G R lm (2, 779, 2, 0, 0, 0, []) (WP cd_law G R lm) ∧ WP cd_law G R lm 779 = stp G R lm (2, 780, 0, 0, 0, 0, []) (WP cd_law G R lm) ∧ WP cd_law G R lm 780 = stp G R lm (1, 781, 3, 0, 0, 0, []) (WP cd_law G R lm) ∧ WP cd_law G R lm 781 = stp G R lm (7, 782, 0, 0, nI 1, 0, []) (WP cd_law G R lm) ∧ WP cd_law G R lm 782 = stp G R lm (12, 783, 0, 0, 0, 0, []) (WP cd_law G R lm) ∧ WP cd_law G R lm 783 = stp G R lm (62, 784, 0, 0, 0, 0, []) (WP cd_law G R lm) ∧ WP cd_law G R lm 784 = stp G R lm (86, 787, 233, 1, 0, 0, [8]) (WP cd_law G R lm) ∧ WP cd_law G R lm 787 = stp G R lm (41, 790, 997, 0, 0, 0, []) (WP cd_law G R lm) ∧ WP cd_law G R lm 790 = stp G R lm (7, 791, 0, 0, nI 0, 0, []) (WP cd_law G R lm) ∧ WP cd_law G R lm 791 = stp G R lm (81, 792, 1, 0, 0, 0, []) (WP cd_law G R lm) := ⟨WP_eq hG rfl, WP_eq hG rfl, WP_eq hG rfl, WP_eq hG rfl, WP_eq hG rfl, WP_eq hG rfl, WP_eq hG rfl, WP_eq hG rfl, WP_eq hG rfl, WP_eq hG rfl, WP_eq hG rfl, WP_eq hG rfl, WP_eq hG rfl, WP_eq hG rfl, WP_eq hG rfl, WP_eq hG rfl, WP_eq hG rfl⟩
theorem lc_25 {L a m : Nat} {xs : Nat → Int32} (hL : L ≤ 3072) (ha : a + 6 ≤ L) {h : MH} (s : Sta L xs (m + 1) h) (K : ∀ h2, Sta L xs m h2 → WP cd_law (callD 1000) (fun r _ => r = some (.int 1)) (600000, 7302250) 997 [] [some (.ref 0), some (.ref 24), some (.ref 273), some (.int (nI a))] h2) : WP cd_law (callD 1000) (fun r _ => r = some (.int 1)) (600000, 7302250) 769 [] [some (.ref 0), some (.ref 24), some (.ref 273), some (.int (nI a))] h := by
  have s0 := s
  obtain ⟨g, la, i0, r1, r2⟩ := s
  have k24 := i0.2.2.2.2.1
  have q := pI (L := L) (xs := xs) (k := 5) (by omega) (op_ask (xs (a + 1))).L (e := rfl) (tyI_ok (l := rw_Di_ask) (by decide +kernel)) g la i0
  obtain ⟨-, k0, l0, x0, -, -⟩ := i0
  simp (disch := omega) only [US_law_769 (cm _), SA, SB, SC1, SC2, SG, SK, SV, k0, l0, x0, k24, nI_add, nI_clamp, in_eq, true_or, or_true, true_implies, not_true_eq_false, not_false_eq_true, false_implies, true_and, and_true]
  refine cm _ _ _ _ _ _ (fun r h1 z => ?_) q
  obtain ⟨v, rfl, ⟨-, k0, l0, x0, -, k273⟩, q⟩ := z
  simp (disch := omega) only [US_law_769 (cm _), SA, SB, SC1, SC2, SG, SK, SV, k0, l0, x0, k273, nI_add, nI_clamp, in_eq, true_or, or_true, true_implies, not_true_eq_false, not_false_eq_true, false_implies, true_and, and_true]
  refine cm _ _ _ _ _ _ (fun r2 h2 z => ?_) q
  obtain ⟨rfl, p⟩ := z
  simp (disch := omega) only [US_law_769 (cm _), SA, SB, SC1, SC2, SG, SK, SV, eq_self, true_or, or_true, true_implies, not_true_eq_false, not_false_eq_true, false_implies, true_and, and_true]
  exact K h2 (Sta_n s0 p)
set_option maxRecDepth 20000 in
theorem US_law_792 {G : GT} (hG : Gmono G) (R : RT) (lm : Nat × Nat) : WP cd_law G R lm 792 = stp G R lm (2, 793, 1, 0, 0, 0, []) (WP cd_law G R lm) ∧ WP cd_law G R lm 793 = stp G R lm (2, 794, 0, 0, 0, 0, []) (WP cd_law G R lm) ∧ WP cd_law G R lm 794 = stp G R lm (1, 795, 3, 0, 0, 0, []) (WP cd_law G R lm) ∧ WP cd_law G R lm 795 = stp G R lm (7, 796, 0, 0, nI 1, 0, []) (WP cd_law G R lm) ∧ WP cd_law G R lm 796 = stp G R lm (12, 797, 0, 0, 0, 0, []) (WP cd_law G R lm) ∧ WP cd_law G R lm 797 = stp G R lm (62, 798, 0, 0, 0, 0, []) (WP cd_law G R lm) ∧ WP cd_law G R lm 798 = stp G R lm (2, 799, 0, 0, 0, 0, []) (WP cd_law G R lm) ∧ WP cd_law G R lm 799 = stp G R lm (1, 800, 3, 0, 0, 0, []) (WP cd_law G R lm) ∧ WP cd_law G R lm 800 = stp G R lm (7, 801, 0, 0, nI 2, 0, []) (WP cd_law G R lm) ∧ WP cd_law G R lm 801 = stp G R lm (12, 802, 0, 0, 0, 0, []) (WP cd_law G R lm) ∧ WP cd_law G R lm 802 = stp G R lm (62, 803, 0, 0, 0, 0, []) (WP cd_law G R lm) ∧ WP cd_law G R lm 803 = stp G R lm (86, 806, 105, 2, 0, 0, [7]) (WP cd_law G R lm) ∧ WP cd_law G R lm 806 = stp G R lm (2, 807, 2, 0, 0, 0, []) (WP cd_law G R lm) ∧ WP cd_law G R lm 807 = stp G R lm (2, 808, 0, 0, 0, 0, []) (WP cd_law G R lm) ∧ WP cd_law G R lm 808 = stp G R lm (1, 809, 3, 0, 0, 0, []) (WP cd_law G R lm) ∧ WP cd_law G R lm 809 = stp G R lm (7, 810, 0, 0, nI 1, 0, []) (WP cd_law G R lm) ∧ WP cd_law G R lm 810 = stp G R lm (12, 811, 0, 0, 0, 0, []) (WP cd_law G R lm) ∧ WP cd_law G R lm 811 = stp G R lm (62, 812, 0, 0, 0, 0, []) (WP cd_law G R lm) ∧ WP cd_law G R lm 812 = stp G R lm (2, 813, 0, 0, 0, 0, []) (WP cd_law G R lm) ∧ WP cd_law G R lm 813 = stp G R lm (1, 814, 3, 0, 0, 0, []) (WP cd_law G R lm) ∧ WP cd_law G R lm 814 = stp G R lm (7, 815, 0, 0, nI 2, 0, []) (WP cd_law G R lm) ∧ WP cd_law G R lm 815 = stp G R lm (12, 816, 0, 0, 0, 0, []) (WP cd_law G R lm) ∧ WP cd_law G R lm 816 = stp G R lm (62, 817, 0, 0, 0, 0, []) (WP cd_law G R lm) ∧ WP cd_law G R lm 817 = stp G R lm (86, 820, 234, 2, 0, 0, [8]) (WP cd_law G R lm) ∧ WP cd_law G R lm 820 = stp G R lm (35, 821, 0, 0, 0, 0, []) (WP cd_law G R lm) ∧ WP cd_law G R lm 821 = stp G R lm (47, 824, 997, 0, 0, 0, []) (WP cd_law G R lm) ∧ WP cd_law G R lm 824 = stp G R lm (7, 825, 0, 0, nI 0, 0, []) (WP cd_law G R lm) ∧ WP cd_law G R lm 825 = stp G R lm (81, 826, 1, 0, 0, 0, []) (WP cd_law G R lm) := ⟨WP_eq hG rfl, WP_eq hG rfl, WP_eq hG rfl, WP_eq hG rfl, WP_eq hG rfl, WP_eq hG rfl, WP_eq hG rfl, WP_eq hG rfl, WP_eq hG rfl, WP_eq hG rfl, WP_eq hG rfl, WP_eq hG rfl, WP_eq hG rfl, WP_eq hG rfl, WP_eq hG rfl, WP_eq hG rfl, WP_eq hG rfl, WP_eq hG rfl, WP_eq hG rfl, WP_eq hG rfl, WP_eq hG rfl, WP_eq hG rfl, WP_eq hG rfl, WP_eq hG rfl, WP_eq hG rfl, WP_eq hG rfl, WP_eq hG rfl, WP_eq hG rfl⟩
theorem lc_26 {L a m : Nat} {xs : Nat → Int32} (hL : L ≤ 3072) (ha : a + 6 ≤ L) {h : MH} (s : Sta L xs (m + 1) h) (K : ∀ h2, Sta L xs m h2 → WP cd_law (callD 1000) (fun r _ => r = some (.int 1)) (600000, 7302250) 997 [] [some (.ref 0), some (.ref 24), some (.ref 273), some (.int (nI a))] h2) : WP cd_law (callD 1000) (fun r _ => r = some (.int 1)) (600000, 7302250) 792 [] [some (.ref 0), some (.ref 24), some (.ref 273), some (.int (nI a))] h := by
  have s0 := s
  obtain ⟨g, la, i0, r1, r2⟩ := s
  have k24 := i0.2.2.2.2.1
  have q := pJ (L := L) (xs := xs) (k := 3) (by omega) (op_few (xs (a + 1)) (xs (a + 2))).L (e := rfl) (tyJ_ok (l := rw_Di_few) (by decide +kernel)) g la i0
  obtain ⟨-, k0, l0, x0, -, -⟩ := i0
  simp (disch := omega) only [US_law_792 (cm _), SA, SB, SC1, SC2, SG, SK, SV, k0, l0, x0, k24, nI_add, nI_clamp, in_eq, true_or, or_true, true_implies, not_true_eq_false, not_false_eq_true, false_implies, true_and, and_true]
  refine cm _ _ _ _ _ _ (fun r h1 z => ?_) q
  obtain ⟨v, rfl, ⟨-, k0, l0, x0, -, k273⟩, q⟩ := z
  simp (disch := omega) only [US_law_792 (cm _), SA, SB, SC1, SC2, SG, SK, SV, k0, l0, x0, k273, nI_add, nI_clamp, in_eq, true_or, or_true, true_implies, not_true_eq_false, not_false_eq_true, false_implies, true_and, and_true]
  refine cm _ _ _ _ _ _ (fun r2 h2 z => ?_) q
  obtain ⟨rfl, p⟩ := z
  simp (disch := omega) only [US_law_792 (cm _), SA, SB, SC1, SC2, SG, SK, SV, ↓SL, LC, eq_self, true_or, or_true, true_implies, not_true_eq_false, not_false_eq_true, false_implies, true_and, and_true]
  exact K h2 (Sta_n s0 p)
set_option maxRecDepth 20000 in
theorem US_law_826 {G : GT} (hG : Gmono G) (R : RT) (lm : Nat × Nat) : WP cd_law G R lm 826 = stp G R lm (2, 827, 1, 0, 0, 0, []) (WP cd_law G R lm) ∧ WP cd_law G R lm 827 = stp G R lm (2, 828, 0, 0, 0, 0, []) (WP cd_law G R lm) ∧ WP cd_law G R lm 828 = stp G R lm (1, 829, 3, 0, 0, 0, []) (WP cd_law G R lm) ∧ WP cd_law G R lm 829 = stp G R lm (7, 830, 0, 0, nI 1, 0, []) (WP cd_law G R lm) ∧ WP cd_law G R lm 830 = stp G R lm (12, 831, 0, 0, 0, 0, []) (WP cd_law G R lm) ∧ WP cd_law G R lm 831 = stp G R lm (62, 832, 0, 0, 0, 0, []) (WP cd_law G R lm) ∧ WP cd_law G R lm 832 = stp G R lm (86, 835, 106, 1, 0, 0, [7]) (WP cd_law G R lm) ∧ WP cd_law G R lm 835 = stp G R lm (2, 836, 2, 0, 0, 0, []) (WP cd_law G R lm) ∧ WP cd_law G R lm 836 = stp G R lm (2, 837, 0, 0, 0, 0, []) (WP cd_law G R lm) ∧ WP cd_law G R lm 837 = stp G R lm (1, 838, 3, 0, 0, 0, []) (WP cd_law G R lm) ∧ WP cd_law G R lm 838 = stp G R lm (7, 839, 0, 0, nI 1, 0, []) (WP cd_law G R lm) ∧ WP cd_law G R lm 839 = stp G R lm (12, 840, 0, 0, 0, 0, []) (WP cd_law G R lm) ∧ WP cd_law G R lm 840 = stp G R lm (62, 841, 0, 0, 0, 0, []) (WP cd_law G R lm) ∧ WP cd_law G R lm 841 = stp G R lm (86, 844, 226, 1, 0, 0, [8]) (WP cd_law G R lm) ∧ WP cd_law G R lm 844 = stp G R lm (41, 847, 997, 0, 0, 0, []) (WP cd_law G R lm) ∧ WP cd_law G R lm 847 = stp G R lm (7, 848, 0, 0, nI 0, 0, []) (WP cd_law G R lm) ∧ WP cd_law G R lm 848 = stp G R lm (81, 849, 1, 0, 0, 0, []) (WP cd_law G R lm) := ⟨WP_eq hG rfl, WP_eq hG rfl, WP_eq hG rfl, WP_eq hG rfl, WP_eq hG rfl, WP_eq hG rfl, WP_eq hG rfl, WP_eq hG rfl, WP_eq hG rfl, WP_eq hG rfl, WP_eq hG rfl, WP_eq hG rfl, WP_eq hG rfl, WP_eq hG rfl, WP_eq hG rfl, WP_eq hG rfl, WP_eq hG rfl⟩
theorem lc_27 {L a m : Nat} {xs : Nat → Int32} (hL : L ≤ 3072) (ha : a + 6 ≤ L) {h : MH} (s : Sta L xs (m + 1) h) (K : ∀ h2, Sta L xs m h2 → WP cd_law (callD 1000) (fun r _ => r = some (.int 1)) (600000, 7302250) 997 [] [some (.ref 0), some (.ref 24), some (.ref 273), some (.int (nI a))] h2) : WP cd_law (callD 1000) (fun r _ => r = some (.int 1)) (600000, 7302250) 826 [] [some (.ref 0), some (.ref 24), some (.ref 273), some (.int (nI a))] h := by
  have s0 := s
  obtain ⟨g, la, i0, r1, r2⟩ := s
  have k24 := i0.2.2.2.2.1
  have q := pI (L := L) (xs := xs) (k := 11) (by omega) (op_compare (xs (a + 1))).L (e := rfl) (tyI_ok (l := rw_Di_compare) (by decide +kernel)) g la i0
  obtain ⟨-, k0, l0, x0, -, -⟩ := i0
  simp (disch := omega) only [US_law_826 (cm _), SA, SB, SC1, SC2, SG, SK, SV, k0, l0, x0, k24, nI_add, nI_clamp, in_eq, true_or, or_true, true_implies, not_true_eq_false, not_false_eq_true, false_implies, true_and, and_true]
  refine cm _ _ _ _ _ _ (fun r h1 z => ?_) q
  obtain ⟨v, rfl, ⟨-, k0, l0, x0, -, k273⟩, q⟩ := z
  simp (disch := omega) only [US_law_826 (cm _), SA, SB, SC1, SC2, SG, SK, SV, k0, l0, x0, k273, nI_add, nI_clamp, in_eq, true_or, or_true, true_implies, not_true_eq_false, not_false_eq_true, false_implies, true_and, and_true]
  refine cm _ _ _ _ _ _ (fun r2 h2 z => ?_) q
  obtain ⟨rfl, p⟩ := z
  simp (disch := omega) only [US_law_826 (cm _), SA, SB, SC1, SC2, SG, SK, SV, eq_self, true_or, or_true, true_implies, not_true_eq_false, not_false_eq_true, false_implies, true_and, and_true]
  exact K h2 (Sta_n s0 p)
set_option maxRecDepth 20000 in
theorem US_law_849 {G : GT} (hG : Gmono G) (R : RT) (lm : Nat × Nat) : WP cd_law G R lm 849 = stp G R lm (2, 850, 1, 0, 0, 0, []) (WP cd_law G R lm) ∧ WP cd_law G R lm 850 = stp G R lm (2, 851, 0, 0, 0, 0, []) (WP cd_law G R lm) ∧ WP cd_law G R lm 851 = stp G R lm (1, 852, 3, 0, 0, 0, []) (WP cd_law G R lm) ∧ WP cd_law G R lm 852 = stp G R lm (7, 853, 0, 0, nI 1, 0, []) (WP cd_law G R lm) ∧ WP cd_law G R lm 853 = stp G R lm (12, 854, 0, 0, 0, 0, []) (WP cd_law G R lm) ∧ WP cd_law G R lm 854 = stp G R lm (62, 855, 0, 0, 0, 0, []) (WP cd_law G R lm) ∧ WP cd_law G R lm 855 = stp G R lm (2, 856, 0, 0, 0, 0, []) (WP cd_law G R lm) ∧ WP cd_law G R lm 856 = stp G R lm (1, 857, 3, 0, 0, 0, []) (WP cd_law G R lm) ∧ WP cd_law G R lm 857 = stp G R lm (7, 858, 0, 0, nI 2, 0, []) (WP cd_law G R lm) ∧ WP cd_law G R lm 858 = stp G R lm (12, 859, 0, 0, 0, 0, []) (WP cd_law G R lm) ∧ WP cd_law G R lm 859 = stp G R lm (62, 860, 0, 0, 0, 0, []) (WP cd_law G R lm) ∧ WP cd_law G R lm 860 = stp G R lm (86, 863, 107, 2, 0, 0, [7]) (WP cd_law G R lm) ∧ WP cd_law G R lm 863 = stp G R lm (2, 864, 2, 0, 0, 0, []) (WP cd_law G R lm) ∧ WP cd_law G R lm 864 = stp G R lm (2, 865, 0, 0, 0, 0, []) (WP cd_law G R lm) ∧ WP cd_law G R lm 865 = stp G R lm (1, 866, 3, 0, 0, 0, []) (WP cd_law G R lm) ∧ WP cd_law G R lm 866 = stp G R lm (7, 867, 0, 0, nI 1, 0, []) (WP cd_law G R lm) ∧ WP cd_law G R lm 867 = stp G R lm (12, 868, 0, 0, 0, 0, []) (WP cd_law G R lm) ∧ WP cd_law G R lm 868 = stp G R lm (62, 869, 0, 0, 0, 0, []) (WP cd_law G R lm) ∧ WP cd_law G R lm 869 = stp G R lm (2, 870, 0, 0, 0, 0, []) (WP cd_law G R lm) ∧ WP cd_law G R lm 870 = stp G R lm (1, 871, 3, 0, 0, 0, []) (WP cd_law G R lm) ∧ WP cd_law G R lm 871 = stp G R lm (7, 872, 0, 0, nI 2, 0, []) (WP cd_law G R lm) ∧ WP cd_law G R lm 872 = stp G R lm (12, 873, 0, 0, 0, 0, []) (WP cd_law G R lm) ∧ WP cd_law G R lm 873 = stp G R lm (62, 874, 0, 0, 0, 0, []) (WP cd_law G R lm) ∧ WP cd_law G R lm 874 = stp G R lm (86, 877, 245, 2, 0, 0, [8]) (WP cd_law G R lm) ∧ WP cd_law G R lm 877 = stp G R lm (41, 880, 997, 0, 0, 0, []) (WP cd_law G R lm) ∧ WP cd_law G R lm 880 = stp G R lm (7, 881, 0, 0, nI 0, 0, []) (WP cd_law G R lm) ∧ WP cd_law G R lm 881 = stp G R lm (81, 882, 1, 0, 0, 0, []) (WP cd_law G R lm) := ⟨WP_eq hG rfl, WP_eq hG rfl, WP_eq hG rfl, WP_eq hG rfl, WP_eq hG rfl, WP_eq hG rfl, WP_eq hG rfl, WP_eq hG rfl, WP_eq hG rfl, WP_eq hG rfl, WP_eq hG rfl, WP_eq hG rfl, WP_eq hG rfl, WP_eq hG rfl, WP_eq hG rfl, WP_eq hG rfl, WP_eq hG rfl, WP_eq hG rfl, WP_eq hG rfl, WP_eq hG rfl, WP_eq hG rfl, WP_eq hG rfl, WP_eq hG rfl, WP_eq hG rfl, WP_eq hG rfl, WP_eq hG rfl, WP_eq hG rfl⟩
theorem lc_28 {L a m : Nat} {xs : Nat → Int32} (hL : L ≤ 3072) (ha : a + 6 ≤ L) {h : MH} (s : Sta L xs (m + 1) h) (K : ∀ h2, Sta L xs m h2 → WP cd_law (callD 1000) (fun r _ => r = some (.int 1)) (600000, 7302250) 997 [] [some (.ref 0), some (.ref 24), some (.ref 273), some (.int (nI a))] h2) : WP cd_law (callD 1000) (fun r _ => r = some (.int 1)) (600000, 7302250) 849 [] [some (.ref 0), some (.ref 24), some (.ref 273), some (.int (nI a))] h := by
  have s0 := s
  obtain ⟨g, la, i0, r1, r2⟩ := s
  have k24 := i0.2.2.2.2.1
  have q := pI (L := L) (xs := xs) (k := 11) (by omega) (op_days (xs (a + 1)) (xs (a + 2))).L (e := rfl) (tyI_ok (l := rw_Di_days) (by decide +kernel)) g la i0
  obtain ⟨-, k0, l0, x0, -, -⟩ := i0
  simp (disch := omega) only [US_law_849 (cm _), SA, SB, SC1, SC2, SG, SK, SV, k0, l0, x0, k24, nI_add, nI_clamp, in_eq, true_or, or_true, true_implies, not_true_eq_false, not_false_eq_true, false_implies, true_and, and_true]
  refine cm _ _ _ _ _ _ (fun r h1 z => ?_) q
  obtain ⟨v, rfl, ⟨-, k0, l0, x0, -, k273⟩, q⟩ := z
  simp (disch := omega) only [US_law_849 (cm _), SA, SB, SC1, SC2, SG, SK, SV, k0, l0, x0, k273, nI_add, nI_clamp, in_eq, true_or, or_true, true_implies, not_true_eq_false, not_false_eq_true, false_implies, true_and, and_true]
  refine cm _ _ _ _ _ _ (fun r2 h2 z => ?_) q
  obtain ⟨rfl, p⟩ := z
  simp (disch := omega) only [US_law_849 (cm _), SA, SB, SC1, SC2, SG, SK, SV, eq_self, true_or, or_true, true_implies, not_true_eq_false, not_false_eq_true, false_implies, true_and, and_true]
  exact K h2 (Sta_n s0 p)
set_option maxRecDepth 20000 in
theorem US_law_882 {G : GT} (hG : Gmono G) (R : RT) (lm : Nat × Nat) : WP cd_law G R lm 882 = stp G R lm (2, 883, 1, 0, 0, 0, []) (WP cd_law G R lm) ∧ WP cd_law G R lm 883 = stp G R lm (2, 884, 0, 0, 0, 0, []) (WP cd_law G R lm) ∧ WP cd_law G R lm 884 = stp G R lm (1, 885, 3, 0, 0, 0, []) (WP cd_law G R lm) ∧ WP cd_law G R lm 885 = stp G R lm (7, 886, 0, 0, nI 1, 0, []) (WP cd_law G R lm) ∧ WP cd_law G R lm 886 = stp G R lm (12, 887, 0, 0, 0, 0, []) (WP cd_law G R lm) ∧ WP cd_law G R lm 887 = stp G R lm (62, 888, 0, 0, 0, 0, []) (WP cd_law G R lm) ∧ WP cd_law G R lm 888 = stp G R lm (2, 889, 0, 0, 0, 0, []) (WP cd_law G R lm) ∧ WP cd_law G R lm 889 = stp G R lm (1, 890, 3, 0, 0, 0, []) (WP cd_law G R lm) ∧ WP cd_law G R lm 890 = stp G R lm (7, 891, 0, 0, nI 2, 0, []) (WP cd_law G R lm) ∧ WP cd_law G R lm 891 = stp G R lm (12, 892, 0, 0, 0, 0, []) (WP cd_law G R lm) ∧ WP cd_law G R lm 892 = stp G R lm (62, 893, 0, 0, 0, 0, []) (WP cd_law G R lm) ∧ WP cd_law G R lm 893 = stp G R lm (86, 896, 108, 2, 0, 0, [7]) (WP cd_law G R lm) ∧ WP cd_law G R lm 896 = stp G R lm (2, 897, 2, 0, 0, 0, []) (WP cd_law G R lm) ∧ WP cd_law G R lm 897 = stp G R lm (2, 898, 0, 0, 0, 0, []) (WP cd_law G R lm) ∧ WP cd_law G R lm 898 = stp G R lm (1, 899, 3, 0, 0, 0, []) (WP cd_law G R lm) ∧ WP cd_law G R lm 899 = stp G R lm (7, 900, 0, 0, nI 1, 0, []) (WP cd_law G R lm) ∧ WP cd_law G R lm 900 = stp G R lm (12, 901, 0, 0, 0, 0, []) (WP cd_law G R lm) ∧ WP cd_law G R lm 901 = stp G R lm (62, 902, 0, 0, 0, 0, []) (WP cd_law G R lm) ∧ WP cd_law G R lm 902 = stp G R lm (2, 903, 0, 0, 0, 0, []) (WP cd_law G R lm) ∧ WP cd_law G R lm 903 = stp G R lm (1, 904, 3, 0, 0, 0, []) (WP cd_law G R lm) ∧ WP cd_law G R lm 904 = stp G R lm (7, 905, 0, 0, nI 2, 0, []) (WP cd_law G R lm) ∧ WP cd_law G R lm 905 = stp G R lm (12, 906, 0, 0, 0, 0, []) (WP cd_law G R lm) ∧ WP cd_law G R lm 906 = stp G R lm (62, 907, 0, 0, 0, 0, []) (WP cd_law G R lm) ∧ WP cd_law G R lm 907 = stp G R lm (86, 910, 246, 2, 0, 0, [8]) (WP cd_law G R lm) ∧ WP cd_law G R lm 910 = stp G R lm (41, 913, 997, 0, 0, 0, []) (WP cd_law G R lm) ∧ WP cd_law G R lm 913 = stp G R lm (7, 914, 0, 0, nI 0, 0, []) (WP cd_law G R lm) ∧ WP cd_law G R lm 914 = stp G R lm (81, 915, 1, 0, 0, 0, []) (WP cd_law G R lm) := ⟨WP_eq hG rfl, WP_eq hG rfl, WP_eq hG rfl, WP_eq hG rfl, WP_eq hG rfl, WP_eq hG rfl, WP_eq hG rfl, WP_eq hG rfl, WP_eq hG rfl, WP_eq hG rfl, WP_eq hG rfl, WP_eq hG rfl, WP_eq hG rfl, WP_eq hG rfl, WP_eq hG rfl, WP_eq hG rfl, WP_eq hG rfl, WP_eq hG rfl, WP_eq hG rfl, WP_eq hG rfl, WP_eq hG rfl, WP_eq hG rfl, WP_eq hG rfl, WP_eq hG rfl, WP_eq hG rfl, WP_eq hG rfl, WP_eq hG rfl⟩
theorem lc_29 {L a m : Nat} {xs : Nat → Int32} (hL : L ≤ 3072) (ha : a + 6 ≤ L) {h : MH} (s : Sta L xs (m + 1) h) (K : ∀ h2, Sta L xs m h2 → WP cd_law (callD 1000) (fun r _ => r = some (.int 1)) (600000, 7302250) 997 [] [some (.ref 0), some (.ref 24), some (.ref 273), some (.int (nI a))] h2) : WP cd_law (callD 1000) (fun r _ => r = some (.int 1)) (600000, 7302250) 882 [] [some (.ref 0), some (.ref 24), some (.ref 273), some (.int (nI a))] h := by
  have s0 := s
  obtain ⟨g, la, i0, r1, r2⟩ := s
  have k24 := i0.2.2.2.2.1
  have q := pI (L := L) (xs := xs) (k := 3) (by omega) (op_drawn (xs (a + 1)) (xs (a + 2))).L (e := rfl) (tyI_ok (l := rw_Di_drawn) (by decide +kernel)) g la i0
  obtain ⟨-, k0, l0, x0, -, -⟩ := i0
  simp (disch := omega) only [US_law_882 (cm _), SA, SB, SC1, SC2, SG, SK, SV, k0, l0, x0, k24, nI_add, nI_clamp, in_eq, true_or, or_true, true_implies, not_true_eq_false, not_false_eq_true, false_implies, true_and, and_true]
  refine cm _ _ _ _ _ _ (fun r h1 z => ?_) q
  obtain ⟨v, rfl, ⟨-, k0, l0, x0, -, k273⟩, q⟩ := z
  simp (disch := omega) only [US_law_882 (cm _), SA, SB, SC1, SC2, SG, SK, SV, k0, l0, x0, k273, nI_add, nI_clamp, in_eq, true_or, or_true, true_implies, not_true_eq_false, not_false_eq_true, false_implies, true_and, and_true]
  refine cm _ _ _ _ _ _ (fun r2 h2 z => ?_) q
  obtain ⟨rfl, p⟩ := z
  simp (disch := omega) only [US_law_882 (cm _), SA, SB, SC1, SC2, SG, SK, SV, eq_self, true_or, or_true, true_implies, not_true_eq_false, not_false_eq_true, false_implies, true_and, and_true]
  exact K h2 (Sta_n s0 p)
set_option maxRecDepth 20000 in
theorem US_law_915 {G : GT} (hG : Gmono G) (R : RT) (lm : Nat × Nat) : WP cd_law G R lm 915 = stp G R lm (2, 916, 1, 0, 0, 0, []) (WP cd_law G R lm) ∧ WP cd_law G R lm 916 = stp G R lm (2, 917, 0, 0, 0, 0, []) (WP cd_law G R lm) ∧ WP cd_law G R lm 917 = stp G R lm (1, 918, 3, 0, 0, 0, []) (WP cd_law G R lm) ∧ WP cd_law G R lm 918 = stp G R lm (7, 919, 0, 0, nI 1, 0, []) (WP cd_law G R lm) ∧ WP cd_law G R lm 919 = stp G R lm (12, 920, 0, 0, 0, 0, []) (WP cd_law G R lm) ∧ WP cd_law G R lm 920 = stp G R lm (62, 921, 0, 0, 0, 0, []) (WP cd_law G R lm) ∧ WP cd_law G R lm 921 = stp G R lm (86, 924, 109, 1, 0, 0, [7]) (WP cd_law G R lm) ∧ WP cd_law G R lm 924 = stp G R lm (2, 925, 2, 0, 0, 0, []) (WP cd_law G R lm) ∧ WP cd_law G R lm 925 = stp G R lm (2, 926, 0, 0, 0, 0, []) (WP cd_law G R lm) ∧ WP cd_law G R lm 926 = stp G R lm (1, 927, 3, 0, 0, 0, []) (WP cd_law G R lm) ∧ WP cd_law G R lm 927 = stp G R lm (7, 928, 0, 0, nI 1, 0, []) (WP cd_law G R lm) ∧ WP cd_law G R lm 928 = stp G R lm (12, 929, 0, 0, 0, 0, []) (WP cd_law G R lm) ∧ WP cd_law G R lm 929 = stp G R lm (62, 930, 0, 0, 0, 0, []) (WP cd_law G R lm) ∧ WP cd_law G R lm 930 = stp G R lm (86, 933, 140, 1, 0, 0, [8]) (WP cd_law G R lm) ∧ WP cd_law G R lm 933 = stp G R lm (41, 936, 997, 0, 0, 0, []) (WP cd_law G R lm) ∧ WP cd_law G R lm 936 = stp G R lm (7, 937, 0, 0, nI 0, 0, []) (WP cd_law G R lm) ∧ WP cd_law G R lm 937 = stp G R lm (81, 938, 1, 0, 0, 0, []) (WP cd_law G R lm) := ⟨WP_eq hG rfl, WP_eq hG rfl, WP_eq hG rfl, WP_eq hG rfl, WP_eq hG rfl, WP_eq hG rfl, WP_eq hG rfl, WP_eq hG rfl, WP_eq hG rfl, WP_eq hG rfl, WP_eq hG rfl, WP_eq hG rfl, WP_eq hG rfl, WP_eq hG rfl, WP_eq hG rfl, WP_eq hG rfl, WP_eq hG rfl⟩
theorem lc_30 {L a m : Nat} {xs : Nat → Int32} (hL : L ≤ 3072) (ha : a + 6 ≤ L) {h : MH} (s : Sta L xs (m + 1) h) (K : ∀ h2, Sta L xs m h2 → WP cd_law (callD 1000) (fun r _ => r = some (.int 1)) (600000, 7302250) 997 [] [some (.ref 0), some (.ref 24), some (.ref 273), some (.int (nI a))] h2) : WP cd_law (callD 1000) (fun r _ => r = some (.int 1)) (600000, 7302250) 915 [] [some (.ref 0), some (.ref 24), some (.ref 273), some (.int (nI a))] h := by
  have s0 := s
  obtain ⟨g, la, i0, r1, r2⟩ := s
  have k24 := i0.2.2.2.2.1
  have q := pI (L := L) (xs := xs) (k := 3) (by omega) (op_image (xs (a + 1))) (e := rfl) (tyI_ok (l := rw_Di_image) (by decide +kernel)) g la i0
  obtain ⟨-, k0, l0, x0, -, -⟩ := i0
  simp (disch := omega) only [US_law_915 (cm _), SA, SB, SC1, SC2, SG, SK, SV, k0, l0, x0, k24, nI_add, nI_clamp, in_eq, true_or, or_true, true_implies, not_true_eq_false, not_false_eq_true, false_implies, true_and, and_true]
  refine cm _ _ _ _ _ _ (fun r h1 z => ?_) q
  obtain ⟨v, rfl, ⟨-, k0, l0, x0, -, k273⟩, q⟩ := z
  simp (disch := omega) only [US_law_915 (cm _), SA, SB, SC1, SC2, SG, SK, SV, k0, l0, x0, k273, nI_add, nI_clamp, in_eq, true_or, or_true, true_implies, not_true_eq_false, not_false_eq_true, false_implies, true_and, and_true]
  refine cm _ _ _ _ _ _ (fun r2 h2 z => ?_) q
  obtain ⟨rfl, p⟩ := z
  simp (disch := omega) only [US_law_915 (cm _), SA, SB, SC1, SC2, SG, SK, SV, eq_self, true_or, or_true, true_implies, not_true_eq_false, not_false_eq_true, false_implies, true_and, and_true]
  exact K h2 (Sta_n s0 p)
set_option maxRecDepth 20000 in
theorem US_law_938 {G : GT} (hG : Gmono G) (R : RT) (lm : Nat × Nat) : WP cd_law G R lm 938 = stp G R lm (2, 939, 1, 0, 0, 0, []) (WP cd_law G R lm) ∧ WP cd_law G R lm 939 = stp G R lm (2, 940, 0, 0, 0, 0, []) (WP cd_law G R lm) ∧ WP cd_law G R lm 940 = stp G R lm (1, 941, 3, 0, 0, 0, []) (WP cd_law G R lm) ∧ WP cd_law G R lm 941 = stp G R lm (7, 942, 0, 0, nI 1, 0, []) (WP cd_law G R lm) ∧ WP cd_law G R lm 942 = stp G R lm (12, 943, 0, 0, 0, 0, []) (WP cd_law G R lm) ∧ WP cd_law G R lm 943 = stp G R lm (62, 944, 0, 0, 0, 0, []) (WP cd_law G R lm) ∧ WP cd_law G R lm 944 = stp G R lm (86, 947, 110, 1, 0, 0, [7]) (WP cd_law G R lm) ∧ WP cd_law G R lm 947 = stp G R lm (2, 948, 2, 0, 0, 0, []) (WP cd_law G R lm) ∧ WP cd_law G R lm 948 = stp G R lm (2, 949, 0, 0, 0, 0, []) (WP cd_law G R lm) ∧ WP cd_law G R lm 949 = stp G R lm (1, 950, 3, 0, 0, 0, []) (WP cd_law G R lm) ∧ WP cd_law G R lm 950 = stp G R lm (7, 951, 0, 0, nI 1, 0, []) (WP cd_law G R lm) ∧ WP cd_law G R lm 951 = stp G R lm (12, 952, 0, 0, 0, 0, []) (WP cd_law G R lm) ∧ WP cd_law G R lm 952 = stp G R lm (62, 953, 0, 0, 0, 0, []) (WP cd_law G R lm) ∧ WP cd_law G R lm 953 = stp G R lm (86, 956, 141, 1, 0, 0, [8]) (WP cd_law G R lm) ∧ WP cd_law G R lm 956 = stp G R lm (41, 959, 997, 0, 0, 0, []) (WP cd_law G R lm) ∧ WP cd_law G R lm 959 = stp G R lm (7, 960, 0, 0, nI 0, 0, []) (WP cd_law G R lm) ∧ WP cd_law G R lm 960 = stp G R lm (81, 961, 1, 0, 0, 0, []) (WP cd_law G R lm) := ⟨WP_eq hG rfl, WP_eq hG rfl, WP_eq hG rfl, WP_eq hG rfl, WP_eq hG rfl, WP_eq hG rfl, WP_eq hG rfl, WP_eq hG rfl, WP_eq hG rfl, WP_eq hG rfl, WP_eq hG rfl, WP_eq hG rfl, WP_eq hG rfl, WP_eq hG rfl, WP_eq hG rfl, WP_eq hG rfl, WP_eq hG rfl⟩
theorem lc_31 {L a m : Nat} {xs : Nat → Int32} (hL : L ≤ 3072) (ha : a + 6 ≤ L) {h : MH} (s : Sta L xs (m + 1) h) (K : ∀ h2, Sta L xs m h2 → WP cd_law (callD 1000) (fun r _ => r = some (.int 1)) (600000, 7302250) 997 [] [some (.ref 0), some (.ref 24), some (.ref 273), some (.int (nI a))] h2) : WP cd_law (callD 1000) (fun r _ => r = some (.int 1)) (600000, 7302250) 938 [] [some (.ref 0), some (.ref 24), some (.ref 273), some (.int (nI a))] h := by
  have s0 := s
  obtain ⟨g, la, i0, r1, r2⟩ := s
  have k24 := i0.2.2.2.2.1
  have q := pI (L := L) (xs := xs) (k := 3) (by omega) (op_back (xs (a + 1))) (e := rfl) (tyI_ok (l := rw_Di_back) (by decide +kernel)) g la i0
  obtain ⟨-, k0, l0, x0, -, -⟩ := i0
  simp (disch := omega) only [US_law_938 (cm _), SA, SB, SC1, SC2, SG, SK, SV, k0, l0, x0, k24, nI_add, nI_clamp, in_eq, true_or, or_true, true_implies, not_true_eq_false, not_false_eq_true, false_implies, true_and, and_true]
  refine cm _ _ _ _ _ _ (fun r h1 z => ?_) q
  obtain ⟨v, rfl, ⟨-, k0, l0, x0, -, k273⟩, q⟩ := z
  simp (disch := omega) only [US_law_938 (cm _), SA, SB, SC1, SC2, SG, SK, SV, k0, l0, x0, k273, nI_add, nI_clamp, in_eq, true_or, or_true, true_implies, not_true_eq_false, not_false_eq_true, false_implies, true_and, and_true]
  refine cm _ _ _ _ _ _ (fun r2 h2 z => ?_) q
  obtain ⟨rfl, p⟩ := z
  simp (disch := omega) only [US_law_938 (cm _), SA, SB, SC1, SC2, SG, SK, SV, eq_self, true_or, or_true, true_implies, not_true_eq_false, not_false_eq_true, false_implies, true_and, and_true]
  exact K h2 (Sta_n s0 p)
set_option maxRecDepth 20000 in
theorem US_law_961 {G : GT} (hG : Gmono G) (R : RT) (lm : Nat × Nat) : WP cd_law G R lm 961 = stp G R lm (2, 962, 1, 0, 0, 0, []) (WP cd_law G R lm) ∧ WP cd_law G R lm 962 = stp G R lm (2, 963, 0, 0, 0, 0, []) (WP cd_law G R lm) ∧ WP cd_law G R lm 963 = stp G R lm (1, 964, 3, 0, 0, 0, []) (WP cd_law G R lm) ∧ WP cd_law G R lm 964 = stp G R lm (7, 965, 0, 0, nI 1, 0, []) (WP cd_law G R lm) ∧ WP cd_law G R lm 965 = stp G R lm (12, 966, 0, 0, 0, 0, []) (WP cd_law G R lm) ∧ WP cd_law G R lm 966 = stp G R lm (62, 967, 0, 0, 0, 0, []) (WP cd_law G R lm) ∧ WP cd_law G R lm 967 = stp G R lm (86, 970, 111, 1, 0, 0, [7]) (WP cd_law G R lm) ∧ WP cd_law G R lm 970 = stp G R lm (2, 971, 2, 0, 0, 0, []) (WP cd_law G R lm) ∧ WP cd_law G R lm 971 = stp G R lm (2, 972, 0, 0, 0, 0, []) (WP cd_law G R lm) ∧ WP cd_law G R lm 972 = stp G R lm (1, 973, 3, 0, 0, 0, []) (WP cd_law G R lm) ∧ WP cd_law G R lm 973 = stp G R lm (7, 974, 0, 0, nI 1, 0, []) (WP cd_law G R lm) ∧ WP cd_law G R lm 974 = stp G R lm (12, 975, 0, 0, 0, 0, []) (WP cd_law G R lm) ∧ WP cd_law G R lm 975 = stp G R lm (62, 976, 0, 0, 0, 0, []) (WP cd_law G R lm) ∧ WP cd_law G R lm 976 = stp G R lm (86, 979, 249, 1, 0, 0, [8]) (WP cd_law G R lm) ∧ WP cd_law G R lm 979 = stp G R lm (41, 982, 997, 0, 0, 0, []) (WP cd_law G R lm) ∧ WP cd_law G R lm 982 = stp G R lm (7, 983, 0, 0, nI 0, 0, []) (WP cd_law G R lm) ∧ WP cd_law G R lm 983 = stp G R lm (81, 984, 1, 0, 0, 0, []) (WP cd_law G R lm) := ⟨WP_eq hG rfl, WP_eq hG rfl, WP_eq hG rfl, WP_eq hG rfl, WP_eq hG rfl, WP_eq hG rfl, WP_eq hG rfl, WP_eq hG rfl, WP_eq hG rfl, WP_eq hG rfl, WP_eq hG rfl, WP_eq hG rfl, WP_eq hG rfl, WP_eq hG rfl, WP_eq hG rfl, WP_eq hG rfl, WP_eq hG rfl⟩
theorem lc_32 {L a m : Nat} {xs : Nat → Int32} (hL : L ≤ 3072) (ha : a + 6 ≤ L) {h : MH} (s : Sta L xs (m + 1) h) (K : ∀ h2, Sta L xs m h2 → WP cd_law (callD 1000) (fun r _ => r = some (.int 1)) (600000, 7302250) 997 [] [some (.ref 0), some (.ref 24), some (.ref 273), some (.int (nI a))] h2) : WP cd_law (callD 1000) (fun r _ => r = some (.int 1)) (600000, 7302250) 961 [] [some (.ref 0), some (.ref 24), some (.ref 273), some (.int (nI a))] h := by
  have s0 := s
  obtain ⟨g, la, i0, r1, r2⟩ := s
  have k24 := i0.2.2.2.2.1
  have q := pI (L := L) (xs := xs) (k := 4) (by omega) (op_count (xs (a + 1))).L (e := rfl) (tyI_ok (l := rw_Di_count) (by decide +kernel)) g la i0
  obtain ⟨-, k0, l0, x0, -, -⟩ := i0
  simp (disch := omega) only [US_law_961 (cm _), SA, SB, SC1, SC2, SG, SK, SV, k0, l0, x0, k24, nI_add, nI_clamp, in_eq, true_or, or_true, true_implies, not_true_eq_false, not_false_eq_true, false_implies, true_and, and_true]
  refine cm _ _ _ _ _ _ (fun r h1 z => ?_) q
  obtain ⟨v, rfl, ⟨-, k0, l0, x0, -, k273⟩, q⟩ := z
  simp (disch := omega) only [US_law_961 (cm _), SA, SB, SC1, SC2, SG, SK, SV, k0, l0, x0, k273, nI_add, nI_clamp, in_eq, true_or, or_true, true_implies, not_true_eq_false, not_false_eq_true, false_implies, true_and, and_true]
  refine cm _ _ _ _ _ _ (fun r2 h2 z => ?_) q
  obtain ⟨rfl, p⟩ := z
  simp (disch := omega) only [US_law_961 (cm _), SA, SB, SC1, SC2, SG, SK, SV, eq_self, true_or, or_true, true_implies, not_true_eq_false, not_false_eq_true, false_implies, true_and, and_true]
  exact K h2 (Sta_n s0 p)
set_option maxRecDepth 20000 in
theorem US_law_984 {G : GT} (hG : Gmono G) (R : RT) (lm : Nat × Nat) : WP cd_law G R lm 984 = stp G R lm (2, 985, 1, 0, 0, 0, []) (WP cd_law G R lm) ∧ WP cd_law G R lm 985 = stp G R lm (86, 988, 112, 0, 0, 0, [7]) (WP cd_law G R lm) ∧ WP cd_law G R lm 988 = stp G R lm (2, 989, 2, 0, 0, 0, []) (WP cd_law G R lm) ∧ WP cd_law G R lm 989 = stp G R lm (86, 992, 250, 0, 0, 0, [8]) (WP cd_law G R lm) ∧ WP cd_law G R lm 992 = stp G R lm (41, 995, 997, 0, 0, 0, []) (WP cd_law G R lm) ∧ WP cd_law G R lm 995 = stp G R lm (7, 996, 0, 0, nI 0, 0, []) (WP cd_law G R lm) ∧ WP cd_law G R lm 996 = stp G R lm (81, 997, 1, 0, 0, 0, []) (WP cd_law G R lm) := ⟨WP_eq hG rfl, WP_eq hG rfl, WP_eq hG rfl, WP_eq hG rfl, WP_eq hG rfl, WP_eq hG rfl, WP_eq hG rfl⟩
theorem lc_33 {L a m : Nat} {xs : Nat → Int32} (hL : L ≤ 3072) (ha : a + 6 ≤ L) {h : MH} (s : Sta L xs (m + 1) h) (K : ∀ h2, Sta L xs m h2 → WP cd_law (callD 1000) (fun r _ => r = some (.int 1)) (600000, 7302250) 997 [] [some (.ref 0), some (.ref 24), some (.ref 273), some (.int (nI a))] h2) : WP cd_law (callD 1000) (fun r _ => r = some (.int 1)) (600000, 7302250) 984 [] [some (.ref 0), some (.ref 24), some (.ref 273), some (.int (nI a))] h := by
  have s0 := s
  obtain ⟨g, la, i0, r1, r2⟩ := s
  have k24 := i0.2.2.2.2.1
  have q := pI (L := L) (xs := xs) (k := 1) (by omega) op_status.L (e := rfl) (tyI_ok (l := rw_Di_status) (by decide +kernel)) g la i0
  obtain ⟨-, k0, l0, x0, -, -⟩ := i0
  simp (disch := omega) only [US_law_984 (cm _), SA, SB, SC1, SC2, SG, SK, SV, k0, l0, x0, k24, nI_add, nI_clamp, in_eq, true_or, or_true, true_implies, not_true_eq_false, not_false_eq_true, false_implies, true_and, and_true]
  refine cm _ _ _ _ _ _ (fun r h1 z => ?_) q
  obtain ⟨v, rfl, ⟨-, k0, l0, x0, -, k273⟩, q⟩ := z
  simp (disch := omega) only [US_law_984 (cm _), SA, SB, SC1, SC2, SG, SK, SV, k0, l0, x0, k273, nI_add, nI_clamp, in_eq, true_or, or_true, true_implies, not_true_eq_false, not_false_eq_true, false_implies, true_and, and_true]
  refine cm _ _ _ _ _ _ (fun r2 h2 z => ?_) q
  obtain ⟨rfl, p⟩ := z
  simp (disch := omega) only [US_law_984 (cm _), SA, SB, SC1, SC2, SG, SK, SV, eq_self, true_or, or_true, true_implies, not_true_eq_false, not_false_eq_true, false_implies, true_and, and_true]
  exact K h2 (Sta_n s0 p)
