/-! ===== a net is made: what its arrays hold ===== -/
def NnF (H9 F : MH) (q : Nat) : Prop := NF q H9 F ∧ hfi F = hfi H9 ∧ (∀ k, k ≤ 9 → k ≠ 0 → k ≠ 2 → k ≠ 4 → k ≠ 5 → k ≠ 6 → hia F (q + k) = hia H9 (q + k)) ∧ (∀ j, j < 49 → hia F (q + 2) j = nI 9999) ∧ (∀ r, r < 7 → hia F (q + 4) r = if r = 0 then nI 0 else nI 9999) ∧ (∀ r, r < 7 → hia F (q + 5) r = if r = 0 then nI 0 else nI 9999) ∧ ∀ r, r < 7 → hia F (q + 6) r = -1
theorem x_nn2 (d q : Nat) (h24 : 24 ≤ q) {H9 : MH} (S9 : NeS H9 q) (R : RT) (lm : Nat × Nat) (K : ∀ F, NnF H9 F q → R none F) : WP cd_Ne_init (callD (d + 1)) R lm 77 [] [some (.ref q)] H9 := by
  obtain ⟨sh, -⟩ := S9.all
  simp (disch := omega) only [US_Ne_init_77 (cm _), SA, SB, SC1, SC2, SG, SK, SV, sh, true_or, or_true, true_implies, not_true_eq_false, not_false_eq_true, false_implies, true_and, and_true]
  refine x_fillI d (q + 2) 49 (nI 9999) (by omega) (by omega) S9.2.2.1.2.1 S9.2.2.1.2.2 _ (fun f1 hf1 => ?_)
  have N1 := NF.i (n := q) (a := q + 2) H9 f1 (by omega) (by omega)
  have p1 : hfi (sIA H9 (q + 2) f1) = hfi H9 := fi_ia _ _ _
  have v1 := hia_s H9 (q + 2) f1
  have o1 : ∀ b, ¬ b = q + 2 → hia (sIA H9 (q + 2) f1) b = hia H9 b := fun b e => hia_n _ _ e
  generalize sIA H9 (q + 2) f1 = G1 at *
  have S11 := N1.S S9
  have sh1 := S11.all.1
  simp (disch := omega) only [US_Ne_init_77 (cm _), SA, SB, SC1, SC2, SG, SK, SV, sh1, true_or, or_true, true_implies, not_true_eq_false, not_false_eq_true, false_implies, true_and, and_true]
  refine x_fillI d (q + 4) 7 (nI 9999) (by omega) (by omega) S11.2.2.2.2.1.2.1 S11.2.2.2.2.1.2.2 _ (fun f2 hf2 => ?_)
  have N2 := NF.i (n := q) (a := q + 4) G1 f2 (by omega) (by omega)
  have p2 : hfi (sIA G1 (q + 4) f2) = hfi G1 := fi_ia _ _ _
  have v2 := hia_s G1 (q + 4) f2
  have o2 : ∀ b, ¬ b = q + 4 → hia (sIA G1 (q + 4) f2) b = hia G1 b := fun b e => hia_n _ _ e
  generalize sIA G1 (q + 4) f2 = G2 at *
  have S12 := N2.S S11
  have sh2 := S12.all.1
  simp (disch := omega) only [US_Ne_init_77 (cm _), SA, SB, SC1, SC2, SG, SK, SV, sh2, true_or, or_true, true_implies, not_true_eq_false, not_false_eq_true, false_implies, true_and, and_true]
  refine x_fillI d (q + 5) 7 (nI 9999) (by omega) (by omega) S12.2.2.2.2.2.1.2.1 S12.2.2.2.2.2.1.2.2 _ (fun f3 hf3 => ?_)
  have N3 := NF.i (n := q) (a := q + 5) G2 f3 (by omega) (by omega)
  have p3 : hfi (sIA G2 (q + 5) f3) = hfi G2 := fi_ia _ _ _
  have v3 := hia_s G2 (q + 5) f3
  have o3 : ∀ b, ¬ b = q + 5 → hia (sIA G2 (q + 5) f3) b = hia G2 b := fun b e => hia_n _ _ e
  generalize sIA G2 (q + 5) f3 = G3 at *
  have S13 := N3.S S12
  have sh3 := S13.all.1
  simp (disch := omega) only [US_Ne_init_77 (cm _), SA, SB, SC1, SC2, SG, SK, SV, sh3, true_or, or_true, true_implies, not_true_eq_false, not_false_eq_true, false_implies, true_and, and_true]
  refine x_fillI d (q + 6) 7 (-1) (by omega) (by omega) S13.2.2.2.2.2.2.1.2.1 S13.2.2.2.2.2.2.1.2.2 _ (fun f4 hf4 => ?_)
  have N4 := NF.i (n := q) (a := q + 6) G3 f4 (by omega) (by omega)
  have p4 : hfi (sIA G3 (q + 6) f4) = hfi G3 := fi_ia _ _ _
  have v4 := hia_s G3 (q + 6) f4
  have o4 : ∀ b, ¬ b = q + 6 → hia (sIA G3 (q + 6) f4) b = hia G3 b := fun b e => hia_n _ _ e
  generalize sIA G3 (q + 6) f4 = G4 at *
  have S14 := N4.S S13
  have sh4 := S14.all.1
  have d4 : hia G4 (q + 4) = f2 := by rw [o4 _ (by omega), o3 _ (by omega)]; exact v2
  have d5 : hia G4 (q + 5) = f3 := by rw [o4 _ (by omega)]; exact v3
  have N5 := NF.i (n := q) (a := q + 4) G4 (up1 (hia G4 (q + 4)) 0 (nI 0)) (by omega) (by omega)
  have p5 : hfi (sIA G4 (q + 4) (up1 (hia G4 (q + 4)) 0 (nI 0))) = hfi G4 := fi_ia _ _ _
  have v5 := hia_s G4 (q + 4) (up1 (hia G4 (q + 4)) 0 (nI 0))
  have o5 : ∀ b, ¬ b = q + 4 → hia (sIA G4 (q + 4) (up1 (hia G4 (q + 4)) 0 (nI 0))) b = hia G4 b := fun b e => hia_n _ _ e
  generalize hg5 : sIA G4 (q + 4) (up1 (hia G4 (q + 4)) 0 (nI 0)) = G5 at *
  have S15 := N5.S S14
  have sh5 := S15.all.1
  have N6 := NF.i (n := q) (a := q + 5) G5 (up1 (hia G5 (q + 5)) 0 (nI 0)) (by omega) (by omega)
  have p6 : hfi (sIA G5 (q + 5) (up1 (hia G5 (q + 5)) 0 (nI 0))) = hfi G5 := fi_ia _ _ _
  have v6 := hia_s G5 (q + 5) (up1 (hia G5 (q + 5)) 0 (nI 0))
  have o6 : ∀ b, ¬ b = q + 5 → hia (sIA G5 (q + 5) (up1 (hia G5 (q + 5)) 0 (nI 0))) b = hia G5 b := fun b e => hia_n _ _ e
  generalize hg6 : sIA G5 (q + 5) (up1 (hia G5 (q + 5)) 0 (nI 0)) = G6 at *
  have S16 := N6.S S15
  have NN := ((((N1.trans N2).trans N3).trans N4).trans N5).trans N6
  simp (disch := omega) only [US_Ne_init_77 (cm _), SA, SB, SC1, SC2, SG, SK, SV, sh4, hg5, sh5, hg6, nI_clamp, in_eq, Nat.reduceLeDiff, true_or, or_true, true_implies, not_true_eq_false, not_false_eq_true, false_implies, true_and, and_true]
  refine ⟨by omega, by omega, ?_⟩
  refine K G6 ⟨NN, by rw [p6, p5, p4, p3, p2, p1], fun k h1 h0 h2 h3 h4 h5 => by rw [o6 _ (by omega), o5 _ (by omega), o4 _ (by omega), o3 _ (by omega), o2 _ (by omega), o1 _ (by omega)], fun j hj => ?_, fun r hr => ?_, fun r hr => ?_, fun r hr => ?_⟩
  · rw [o6 _ (by omega), o5 _ (by omega), o4 _ (by omega), o3 _ (by omega), o2 _ (by omega), v1, hf1, if_pos hj]
  · rw [o6 _ (by omega), v5, d4]
    by_cases c : r = 0
    · rw [if_pos c, c, up1_s]
    · rw [if_neg c, up1_n _ _ c, hf2, if_pos hr]
  · rw [v6, o5 _ (by omega), d5]
    by_cases c : r = 0
    · rw [if_pos c, c, up1_s]
    · rw [if_neg c, up1_n _ _ c, hf3, if_pos hr]
  · rw [o6 _ (by omega), o5 _ (by omega), v4, hf4, if_pos hr]
