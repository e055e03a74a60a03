/-! ===== the program's object: its images ===== -/
def DiW (g H : MH) (i A : Nat) : Prop := (hsz H = hsz g + 14 ∧ hcc H = hcc g + 14 ∧ hcu H = hcu g + 600) ∧ (∀ x, x < hsz g → x ≠ 39 → Kp g H x) ∧ (∀ x, x < hsz g → hfr H x = hfr g x) ∧ (hkd H 39 = hkd g 39 ∧ hln H 39 = hln g 39 ∧ hra H 39 = up1 (hra g 39) i (some A)) ∧ WoS H A ∧ NeS H (A + 1) ∧ hra H (A + 11) = fun _ => none
theorem di_w (d i A : Nat) (hi : i < 2) (hA : A = 245 ∨ A = 259) {g : MH} (R : RT) (lm : Nat × Nat) (k7 : hkd g 24 = 7) (f1 : hfr g 24 1 = some 39) (k39 : hkd g 39 = 25) (l39 : hln g 39 = 2) (z : hsz g = A) (hc : hcc g + 14 ≤ lm.1) (hu : hcu g + 600 ≤ lm.2) (K : ∀ H, DiW g H i A → WP cd_Di_init (callD (d + 4)) R lm 115 [] [some (.ref 24), some (.int (nI (i + 1)))] H) : WP cd_Di_init (callD (d + 4)) R lm 115 [] [some (.ref 24), some (.int (nI i))] g := by
  have F1 := Frc_g g 6 9
  have nq : ¬ 24 = hsz g := by omega
  have nq2 : ¬ 39 = hsz g := by omega
  have y1 : hcc g + 1 ≤ lm.1 := by omega
  have y2 : hcu g + 9 ≤ lm.2 := by omega
  have y3 : hcc g + 1 + 13 ≤ lm.1 := by omega
  have y4 : hcu g + 9 + 591 ≤ lm.2 := by omega
  rw [U_Di_init_115 (cm _)]
  simp (disch := omega) only [US_Di_init_116 (cm _), SA, SB, SC1, SC2, SG, SK, SV, k7, f1, y1, y2, y3, y4, leI, show ¬ 2 ≤ i by omega, up1_s, up1_n, true_or, or_true, true_implies, not_true_eq_false, not_false_eq_true, false_implies, true_and, and_true]
  generalize hnew g 6 9 = h1 at *
  obtain ⟨⟨z1, c1, u1⟩, b1, e1, -, e3, e4, -⟩ := F1
  rw [z] at e1 e3 e4 z1 b1 ⊢
  refine x_newWorld (d + 1) A e1 (by omega) (by omega) e3 _ (fun F I S1 S2 S3 S4 S5 => ?_)
  clear S3 S4
  obtain ⟨⟨i1, i2, i3⟩, i4⟩ := I
  have KK : ∀ x, x < A → Kp g F x ∧ hfr F x = hfr g x := fun x hx => ⟨(b1 x hx).1.trans (i4 x (by omega) (by omega)).1, (i4 x (by omega) (by omega)).2.trans (b1 x hx).2⟩
  have k392 : hkd F 39 = 25 := by rw [(KK 39 (by omega)).1.1]; exact k39
  have l392 : hln F 39 = 2 := by rw [(KK 39 (by omega)).1.2.1]; exact l39
  have kA : hkd F A = 6 := S1.1
  have q2 : rkd 25 = 6 := rfl
  obtain ⟨r1, r2, r3, r4, r5⟩ := ra_g F 39 (up1 (hra F 39) i (some A))
  simp (disch := omega) only [US_Di_init_116 (cm _), SA, SB, SC1, SC2, SG, SK, SV, k392, l392, kA, q2, nI_clamp, in_eq, nI_add, Nat.reduceLeDiff, true_or, or_true, true_implies, not_true_eq_false, not_false_eq_true, false_implies, true_and, and_true]
  generalize sRA F 39 (up1 (hra F 39) i (some A)) = H at *
  refine K H ⟨⟨by rw [r1.1]; omega, by rw [r1.2.1]; omega, by rw [r1.2.2.1]; omega⟩, fun x hx ne => ?_, fun x hx => ?_, ⟨by rw [r1.2.2.2.1, (KK 39 (by omega)).1.1], by rw [r1.2.2.2.2.1, (KK 39 (by omega)).1.2.1], by rw [r4, (KK 39 (by omega)).1.2.2.2.2.2]⟩, ?_, ?_, ?_⟩
  · rw [z] at hx
    exact (KK x hx).1.trans ⟨by rw [r1.2.2.2.1], by rw [r1.2.2.2.2.1], by rw [r2], by rw [r3], by rw [r1.2.2.2.2.2.2], r5 x ne⟩
  · rw [z] at hx
    rw [r1.2.2.2.2.2.1, (KK x hx).2]
  · unfold WoS at *
    rw [r1.2.2.2.1, r1.2.2.2.2.1, r1.2.2.2.2.2.1]
    exact S1
  · exact NeS_k (fun x _ _ => ⟨by rw [r1.2.2.2.1], by rw [r1.2.2.2.2.1]⟩) (by rw [r1.2.2.2.2.2.1]) S2
  · rw [r5 (A + 11) (by omega)]; exact S5
theorem di_e (d : Nat) {g : MH} (R : RT) (lm : Nat × Nat) (K : R none g) : WP cd_Di_init (callD (d + 4)) R lm 115 [] [some (.ref 24), some (.int (nI 2))] g := by
  rw [U_Di_init_115 (cm _)]
  simp (disch := omega) only [US_Di_init_116 (cm _), SA, SB, SC1, SC2, SG, SK, SV, leI, Nat.le_refl, true_or, or_true, true_implies, not_true_eq_false, not_false_eq_true, false_implies, true_and, and_true]
  exact K
theorem di_12 (d : Nat) {g : MH} (R : RT) (lm : Nat × Nat) (k7 : hkd g 24 = 7) (K : ∀ H, ((hsz H = hsz g ∧ hcc H = hcc g ∧ hcu H = hcu g ∧ SHE g H) ∧ hja H = hja g) → hia H = hia g → hfi H 24 = up1 (hfi g 24) 15 (-1) → (∀ a, a ≠ 24 → hfi H a = hfi g a) → WP cd_Di_init (callD (d + 4)) R lm 115 [] [some (.ref 24), some (.int (nI 0))] H) : WP cd_Di_init (callD (d + 4)) R lm 108 [] [some (.ref 24), none] g := by
  obtain ⟨-, i2, -, i4, i5⟩ := fi_g g 24 (up1 (hfi g 24) 15 (-1))
  have is := she_fi g 24 (up1 (hfi g 24) 15 (-1))
  have Y := K _ is i2 i4 i5
  simp (disch := omega) only [US_Di_init_108 (cm _), SA, SB, SC1, SC2, SG, SK, SV, k7, true_or, or_true, true_implies, not_true_eq_false, not_false_eq_true, false_implies, true_and, and_true]
  exact Y
