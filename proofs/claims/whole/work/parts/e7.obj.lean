/-! ===== the program's object is made ===== -/
set_option maxRecDepth 20000 in
theorem US_Di_init_0 {G : GT} (hG : Gmono G) (R : RT) (lm : Nat × Nat) : WP cd_Di_init G R lm 0 = stp G R lm (2, 1, 0, 0, 0, 0, []) (WP cd_Di_init G R lm) ∧ WP cd_Di_init G R lm 1 = stp G R lm (77, 4, 0, 0, 0, 0, []) (WP cd_Di_init G R lm) ∧ WP cd_Di_init G R lm 4 = stp G R lm (2, 5, 0, 0, 0, 0, []) (WP cd_Di_init G R lm) ∧ WP cd_Di_init G R lm 5 = stp G R lm (75, 8, 6, 9, 0, 0, []) (WP cd_Di_init G R lm) ∧ WP cd_Di_init G R lm 8 = stp G R lm (37, 9, 0, 0, 0, 0, []) (WP cd_Di_init G R lm) ∧ WP cd_Di_init G R lm 9 = stp G R lm (90, 12, 73, 0, 0, 0, [6, 13, 591]) (WP cd_Di_init G R lm) ∧ WP cd_Di_init G R lm 12 = stp G R lm (61, 15, 7, 0, 0, 0, []) (WP cd_Di_init G R lm) := ⟨WP_eq hG rfl, WP_eq hG rfl, WP_eq hG rfl, WP_eq hG rfl, WP_eq hG rfl, WP_eq hG rfl, WP_eq hG rfl⟩
set_option maxRecDepth 20000 in
theorem US_Di_init_15 {G : GT} (hG : Gmono G) (R : RT) (lm : Nat × Nat) : WP cd_Di_init G R lm 15 = stp G R lm (2, 16, 0, 0, 0, 0, []) (WP cd_Di_init G R lm) ∧ WP cd_Di_init G R lm 16 = stp G R lm (7, 17, 0, 0, nI 2, 0, []) (WP cd_Di_init G R lm) ∧ WP cd_Di_init G R lm 17 = stp G R lm (74, 20, 25, 0, 0, 0, []) (WP cd_Di_init G R lm) ∧ WP cd_Di_init G R lm 20 = stp G R lm (61, 23, 7, 1, 0, 0, []) (WP cd_Di_init G R lm) := ⟨WP_eq hG rfl, WP_eq hG rfl, WP_eq hG rfl, WP_eq hG rfl⟩
set_option maxRecDepth 20000 in
theorem US_Di_init_23 {G : GT} (hG : Gmono G) (R : RT) (lm : Nat × Nat) : WP cd_Di_init G R lm 23 = stp G R lm (2, 24, 0, 0, 0, 0, []) (WP cd_Di_init G R lm) ∧ WP cd_Di_init G R lm 24 = stp G R lm (75, 27, 0, 4, 0, 0, []) (WP cd_Di_init G R lm) ∧ WP cd_Di_init G R lm 27 = stp G R lm (37, 28, 0, 0, 0, 0, []) (WP cd_Di_init G R lm) ∧ WP cd_Di_init G R lm 28 = stp G R lm (90, 31, 0, 0, 0, 0, [0, 172, 9775]) (WP cd_Di_init G R lm) ∧ WP cd_Di_init G R lm 31 = stp G R lm (61, 34, 7, 3, 0, 0, []) (WP cd_Di_init G R lm) := ⟨WP_eq hG rfl, WP_eq hG rfl, WP_eq hG rfl, WP_eq hG rfl, WP_eq hG rfl⟩
set_option maxRecDepth 20000 in
theorem US_Di_init_34 {G : GT} (hG : Gmono G) (R : RT) (lm : Nat × Nat) : WP cd_Di_init G R lm 34 = stp G R lm (2, 35, 0, 0, 0, 0, []) (WP cd_Di_init G R lm) ∧ WP cd_Di_init G R lm 35 = stp G R lm (75, 38, 4, 7, 0, 0, []) (WP cd_Di_init G R lm) ∧ WP cd_Di_init G R lm 38 = stp G R lm (37, 39, 0, 0, 0, 0, []) (WP cd_Di_init G R lm) ∧ WP cd_Di_init G R lm 39 = stp G R lm (90, 42, 45, 0, 0, 0, [4, 4, 926]) (WP cd_Di_init G R lm) ∧ WP cd_Di_init G R lm 42 = stp G R lm (61, 45, 7, 4, 0, 0, []) (WP cd_Di_init G R lm) := ⟨WP_eq hG rfl, WP_eq hG rfl, WP_eq hG rfl, WP_eq hG rfl, WP_eq hG rfl⟩
set_option maxRecDepth 20000 in
theorem US_Di_init_45 {G : GT} (hG : Gmono G) (R : RT) (lm : Nat × Nat) : WP cd_Di_init G R lm 45 = stp G R lm (2, 46, 0, 0, 0, 0, []) (WP cd_Di_init G R lm) ∧ WP cd_Di_init G R lm 46 = stp G R lm (75, 49, 1, 2, 0, 0, []) (WP cd_Di_init G R lm) ∧ WP cd_Di_init G R lm 49 = stp G R lm (37, 50, 0, 0, 0, 0, []) (WP cd_Di_init G R lm) ∧ WP cd_Di_init G R lm 50 = stp G R lm (90, 53, 6, 0, 0, 0, [1, 2, 87]) (WP cd_Di_init G R lm) ∧ WP cd_Di_init G R lm 53 = stp G R lm (61, 56, 7, 5, 0, 0, []) (WP cd_Di_init G R lm) := ⟨WP_eq hG rfl, WP_eq hG rfl, WP_eq hG rfl, WP_eq hG rfl, WP_eq hG rfl⟩
set_option maxRecDepth 20000 in
theorem US_Di_init_56 {G : GT} (hG : Gmono G) (R : RT) (lm : Nat × Nat) : WP cd_Di_init G R lm 56 = stp G R lm (2, 57, 0, 0, 0, 0, []) (WP cd_Di_init G R lm) ∧ WP cd_Di_init G R lm 57 = stp G R lm (75, 60, 2, 13, 0, 0, []) (WP cd_Di_init G R lm) ∧ WP cd_Di_init G R lm 60 = stp G R lm (37, 61, 0, 0, 0, 0, []) (WP cd_Di_init G R lm) ∧ WP cd_Di_init G R lm 61 = stp G R lm (90, 64, 16, 0, 0, 0, [2, 9, 560]) (WP cd_Di_init G R lm) ∧ WP cd_Di_init G R lm 64 = stp G R lm (61, 67, 7, 6, 0, 0, []) (WP cd_Di_init G R lm) := ⟨WP_eq hG rfl, WP_eq hG rfl, WP_eq hG rfl, WP_eq hG rfl, WP_eq hG rfl⟩
set_option maxRecDepth 20000 in
theorem US_Di_init_67 {G : GT} (hG : Gmono G) (R : RT) (lm : Nat × Nat) : WP cd_Di_init G R lm 67 = stp G R lm (2, 68, 0, 0, 0, 0, []) (WP cd_Di_init G R lm) ∧ WP cd_Di_init G R lm 68 = stp G R lm (75, 71, 2, 13, 0, 0, []) (WP cd_Di_init G R lm) ∧ WP cd_Di_init G R lm 71 = stp G R lm (37, 72, 0, 0, 0, 0, []) (WP cd_Di_init G R lm) ∧ WP cd_Di_init G R lm 72 = stp G R lm (90, 75, 16, 0, 0, 0, [2, 9, 560]) (WP cd_Di_init G R lm) ∧ WP cd_Di_init G R lm 75 = stp G R lm (61, 78, 7, 7, 0, 0, []) (WP cd_Di_init G R lm) := ⟨WP_eq hG rfl, WP_eq hG rfl, WP_eq hG rfl, WP_eq hG rfl, WP_eq hG rfl⟩
set_option maxRecDepth 20000 in
theorem US_Di_init_78 {G : GT} (hG : Gmono G) (R : RT) (lm : Nat × Nat) : WP cd_Di_init G R lm 78 = stp G R lm (2, 79, 0, 0, 0, 0, []) (WP cd_Di_init G R lm) ∧ WP cd_Di_init G R lm 79 = stp G R lm (7, 81, 0, 0, nI 7, 0, []) (WP cd_Di_init G R lm) ∧ WP cd_Di_init G R lm 81 = stp G R lm (71, 83, 0, 0, 0, 0, []) (WP cd_Di_init G R lm) ∧ WP cd_Di_init G R lm 83 = stp G R lm (61, 86, 7, 9, 0, 0, []) (WP cd_Di_init G R lm) := ⟨WP_eq hG rfl, WP_eq hG rfl, WP_eq hG rfl, WP_eq hG rfl⟩
set_option maxRecDepth 20000 in
theorem US_Di_init_86 {G : GT} (hG : Gmono G) (R : RT) (lm : Nat × Nat) : WP cd_Di_init G R lm 86 = stp G R lm (2, 87, 0, 0, 0, 0, []) (WP cd_Di_init G R lm) ∧ WP cd_Di_init G R lm 87 = stp G R lm (7, 89, 0, 0, nI 20, 0, []) (WP cd_Di_init G R lm) ∧ WP cd_Di_init G R lm 89 = stp G R lm (72, 91, 0, 0, 0, 0, []) (WP cd_Di_init G R lm) ∧ WP cd_Di_init G R lm 91 = stp G R lm (61, 94, 7, 10, 0, 0, []) (WP cd_Di_init G R lm) := ⟨WP_eq hG rfl, WP_eq hG rfl, WP_eq hG rfl, WP_eq hG rfl⟩
set_option maxRecDepth 20000 in
theorem US_Di_init_94 {G : GT} (hG : Gmono G) (R : RT) (lm : Nat × Nat) : WP cd_Di_init G R lm 94 = stp G R lm (2, 95, 0, 0, 0, 0, []) (WP cd_Di_init G R lm) ∧ WP cd_Di_init G R lm 95 = stp G R lm (7, 96, 0, 0, nI 3, 0, []) (WP cd_Di_init G R lm) ∧ WP cd_Di_init G R lm 96 = stp G R lm (71, 98, 0, 0, 0, 0, []) (WP cd_Di_init G R lm) ∧ WP cd_Di_init G R lm 98 = stp G R lm (61, 101, 7, 11, 0, 0, []) (WP cd_Di_init G R lm) := ⟨WP_eq hG rfl, WP_eq hG rfl, WP_eq hG rfl, WP_eq hG rfl⟩
set_option maxRecDepth 20000 in
theorem US_Di_init_101 {G : GT} (hG : Gmono G) (R : RT) (lm : Nat × Nat) : WP cd_Di_init G R lm 101 = stp G R lm (2, 102, 0, 0, 0, 0, []) (WP cd_Di_init G R lm) ∧ WP cd_Di_init G R lm 102 = stp G R lm (7, 103, 0, 0, nI 5, 0, []) (WP cd_Di_init G R lm) ∧ WP cd_Di_init G R lm 103 = stp G R lm (71, 105, 0, 0, 0, 0, []) (WP cd_Di_init G R lm) ∧ WP cd_Di_init G R lm 105 = stp G R lm (61, 108, 7, 12, 0, 0, []) (WP cd_Di_init G R lm) := ⟨WP_eq hG rfl, WP_eq hG rfl, WP_eq hG rfl, WP_eq hG rfl⟩
set_option maxRecDepth 20000 in
theorem US_Di_init_108 {G : GT} (hG : Gmono G) (R : RT) (lm : Nat × Nat) : WP cd_Di_init G R lm 108 = stp G R lm (2, 109, 0, 0, 0, 0, []) (WP cd_Di_init G R lm) ∧ WP cd_Di_init G R lm 109 = stp G R lm (7, 110, 0, 0, (-1), 0, []) (WP cd_Di_init G R lm) ∧ WP cd_Di_init G R lm 110 = stp G R lm (59, 113, 7, 15, 0, 0, []) (WP cd_Di_init G R lm) ∧ WP cd_Di_init G R lm 113 = stp G R lm (7, 114, 0, 0, nI 0, 0, []) (WP cd_Di_init G R lm) ∧ WP cd_Di_init G R lm 114 = stp G R lm (4, 115, 1, 0, 0, 0, []) (WP cd_Di_init G R lm) := ⟨WP_eq hG rfl, WP_eq hG rfl, WP_eq hG rfl, WP_eq hG rfl, WP_eq hG rfl⟩
set_option maxRecDepth 20000 in
theorem US_Di_init_116 {G : GT} (hG : Gmono G) (R : RT) (lm : Nat × Nat) : WP cd_Di_init G R lm 116 = stp G R lm (7, 117, 0, 0, nI 2, 0, []) (WP cd_Di_init G R lm) ∧ WP cd_Di_init G R lm 117 = stp G R lm (44, 120, 139, 0, 0, 0, []) (WP cd_Di_init G R lm) ∧ WP cd_Di_init G R lm 120 = stp G R lm (2, 121, 0, 0, 0, 0, []) (WP cd_Di_init G R lm) ∧ WP cd_Di_init G R lm 121 = stp G R lm (58, 124, 7, 1, 0, 0, []) (WP cd_Di_init G R lm) ∧ WP cd_Di_init G R lm 124 = stp G R lm (1, 125, 1, 0, 0, 0, []) (WP cd_Di_init G R lm) ∧ WP cd_Di_init G R lm 125 = stp G R lm (75, 128, 6, 9, 0, 0, []) (WP cd_Di_init G R lm) ∧ WP cd_Di_init G R lm 128 = stp G R lm (37, 129, 0, 0, 0, 0, []) (WP cd_Di_init G R lm) ∧ WP cd_Di_init G R lm 129 = stp G R lm (90, 132, 73, 0, 0, 0, [6, 13, 591]) (WP cd_Di_init G R lm) ∧ WP cd_Di_init G R lm 132 = stp G R lm (69, 133, 0, 0, 0, 0, []) (WP cd_Di_init G R lm) ∧ WP cd_Di_init G R lm 133 = stp G R lm (11, 136, 1, 0, nI 1, 0, []) (WP cd_Di_init G R lm) ∧ WP cd_Di_init G R lm 136 = stp G R lm (40, 115, 0, 0, 0, 0, []) (WP cd_Di_init G R lm) ∧ WP cd_Di_init G R lm 139 = stp G R lm (84, 140, 0, 0, 0, 0, []) (WP cd_Di_init G R lm) := ⟨WP_eq hG rfl, WP_eq hG rfl, WP_eq hG rfl, WP_eq hG rfl, WP_eq hG rfl, WP_eq hG rfl, WP_eq hG rfl, WP_eq hG rfl, WP_eq hG rfl, WP_eq hG rfl, WP_eq hG rfl, WP_eq hG rfl⟩
def Ist (h H : MH) (f N U : Nat) : Prop := (hsz H = hsz h + N ∧ hcc H = hcc h + N ∧ hcu H = hcu h + U) ∧ (∀ x, x < hsz h → Kp h H x) ∧ (∀ x, x < hsz h → x ≠ 24 → hfr H x = hfr h x) ∧ hfr H 24 = up1 (hfr h 24) f (some (hsz h))
theorem Ist_of {h h1 F H : MH} {kd n N U f : Nat} (a : Frc h h1 kd n) (i : Inq h1 F (hsz h) N U) (r : FRs F H 24) (r3 : hfr H 24 = up1 (hfr F 24) f (some (hsz h))) (h24 : 24 < hsz h) : Ist h H f (N + 1) (n + U) := by
  obtain ⟨⟨a1, a2, a3⟩, a4, -⟩ := a
  obtain ⟨⟨i1, i2, i3⟩, i4⟩ := i
  obtain ⟨⟨r1, r2, r3'⟩, r4, r5⟩ := r
  have K : ∀ x, x < hsz h → Kp h F x ∧ hfr F x = hfr h x := fun x hx => ⟨(a4 x hx).1.trans (i4 x (by omega) (by omega)).1, (i4 x (by omega) (by omega)).2.trans (a4 x hx).2⟩
  exact ⟨⟨by omega, by omega, by omega⟩, fun x hx => (K x hx).1.trans (r4 x), fun x hx ne => (r5 x ne).trans (K x hx).2, by rw [r3, (K 24 h24).2]⟩
theorem AS1.I {h H : MH} {f kd n : Nat} (a : AS1 h H 24 f kd n) : Ist h H f 1 n := ⟨a.1, a.2.1, a.2.2.1, a.2.2.2.1⟩
/-- old cells kept, but for the object and the images' places -/
def Ifr (a b : MH) : Prop := hsz a ≤ hsz b ∧ ∀ x, x < hsz a → x ≠ 24 → x ≠ 39 → Kp a b x ∧ hfr b x = hfr a x
theorem Ifr.trans {a b c : MH} (x : Ifr a b) (y : Ifr b c) : Ifr a c := ⟨by have := x.1; have := y.1; omega, fun p q r s => ⟨(x.2 p q r s).1.trans (y.2 p (by have := x.1; omega) r s).1, (y.2 p (by have := x.1; omega) r s).2.trans (x.2 p q r s).2⟩⟩
theorem Ist.F {h H : MH} {f N U : Nat} (i : Ist h H f N U) : Ifr h H := ⟨by have := i.1.1; omega, fun x a b _ => ⟨i.2.1 x a, i.2.2.1 x a b⟩⟩
theorem FRs.F {h H : MH} (r : FRs h H 24) : Ifr h H := ⟨by have := r.1.1; omega, fun x _ b _ => ⟨r.2.1 x, r.2.2 x b⟩⟩
theorem di_1 (d : Nat) {g : MH} (R : RT) (lm : Nat × Nat) (k7 : hkd g 24 = 7) (z : hsz g = 25) (hc : hcc g + 14 ≤ lm.1) (hu : hcu g + 600 ≤ lm.2) (K : ∀ H F, Ist g H 0 14 600 → FRs F H 24 → WoS F 25 → NeS F 26 → NeV F 26 ini → hfi F 25 = up1 (up1 (fun _ => 0) 5 (-1)) 7 (nI 1) → hra F 36 = (fun _ => none) → WP cd_Di_init (callD (d + 4)) R lm 15 [] [some (.ref 24), none] H) : WP cd_Di_init (callD (d + 4)) R lm 0 [] [some (.ref 24), none] g := by
  have F1 := Frc_g g 6 9
  have nq : ¬ 24 = hsz g := by omega
  have y1 : hcc g + 1 ≤ lm.1 := by omega
  have y2 : hcu g + 9 ≤ lm.2 := by omega
  have y3 : hcc g + 1 + 13 ≤ lm.1 := by omega
  have y4 : hcu g + 9 + 591 ≤ lm.2 := by omega
  simp (disch := omega) only [US_Di_init_0 (cm _), SA, SB, SC1, SC2, SG, SK, SV, k7, y1, y2, y3, y4, up1_s, up1_n, true_or, or_true, true_implies, not_true_eq_false, not_false_eq_true, false_implies, true_and, and_true]
  generalize hnew g 6 9 = h1 at *
  have F2 := F1
  obtain ⟨⟨z1, c1, u1⟩, b1, e1, -, e3, e4, -⟩ := F1
  rw [z] at e1 e3 e4 z1 ⊢
  refine x_newWorld (d + 1) 25 e1 (by omega) (by omega) e3 _ (fun F I S1 S2 S3 S4 S5 => ?_)
  have k72 : hkd F 24 = 7 := by
    rw [(I.2 24 (by omega) (by omega)).1.1, (b1 24 (by omega)).1.1]
    exact k7
  obtain ⟨R3, r3⟩ := FRs_g F 24 (up1 (hfr F 24) 0 (some 25))
  simp (disch := omega) only [US_Di_init_0 (cm _), SA, SB, SC1, SC2, SG, SK, SV, k72, true_or, or_true, true_implies, not_true_eq_false, not_false_eq_true, false_implies, true_and, and_true]
  generalize sFR F 24 (up1 (hfr F 24) 0 (some 25)) = H at *
  exact K H F (Ist_of F2 (by rw [z]; exact I) R3 (by rw [z]; exact r3) (by omega)) R3 S1 S2 S3 S4 S5
set_option maxRecDepth 40000 in
theorem di_3 (d : Nat) {g : MH} (R : RT) (lm : Nat × Nat) (k7 : hkd g 24 = 7) (z : hsz g = 40) (hc : hcc g + 173 ≤ lm.1) (hu : hcu g + 9779 ≤ lm.2) (K : ∀ H F, Ist g H 3 (172 + 1) (4 + 9775) → FRs F H 24 → XSh F → (∀ i, i < 17 → NeS F (43 + 10 * i) ∧ hra F 41 i = some (43 + 10 * i)) → hfi F 40 = (fun _ => 0) → WP cd_Di_init (callD (d + 4)) R lm 34 [] [some (.ref 24), none] H) : WP cd_Di_init (callD (d + 4)) R lm 23 [] [some (.ref 24), none] g := by
  have F1 := Frc_g g 0 4
  have nq : ¬ 24 = hsz g := by omega
  have y1 : hcc g + 1 ≤ lm.1 := by omega
  have y2 : hcu g + 4 ≤ lm.2 := by omega
  have y3 : hcc g + 1 + 172 ≤ lm.1 := by omega
  have y4 : hcu g + 4 + 9775 ≤ lm.2 := by omega
  simp (disch := omega) only [US_Di_init_23 (cm _), SA, SB, SC1, SC2, SG, SK, SV, k7, y1, y2, y3, y4, up1_s, up1_n, true_or, or_true, true_implies, not_true_eq_false, not_false_eq_true, false_implies, true_and, and_true]
  generalize hnew g 0 4 = h1 at *
  have F2 := F1
  obtain ⟨⟨z1, c1, u1⟩, b1, e1, -, e3, e4, -⟩ := F1
  rw [z] at e1 e3 e4 z1 ⊢
  refine x_newHist (d + 1) e1 z1 e3 _ (fun F I S1 S2 S3 => ?_)
  have k72 : hkd F 24 = 7 := by
    rw [(I.2 24 (by omega) (by omega)).1.1, (b1 24 (by omega)).1.1]
    exact k7
  obtain ⟨R3, r3⟩ := FRs_g F 24 (up1 (hfr F 24) 3 (some 40))
  simp (disch := omega) only [US_Di_init_23 (cm _), SA, SB, SC1, SC2, SG, SK, SV, k72, true_or, or_true, true_implies, not_true_eq_false, not_false_eq_true, false_implies, true_and, and_true]
  generalize sFR F 24 (up1 (hfr F 24) 3 (some 40)) = H at *
  exact K H F (Ist_of F2 (by rw [z]; exact I) R3 (by rw [z]; exact r3) (by omega)) R3 S1 S2 S3
theorem di_4 (d : Nat) {g : MH} (R : RT) (lm : Nat × Nat) (k7 : hkd g 24 = 7) (z : hsz g = 213) (hc : hcc g + 5 ≤ lm.1) (hu : hcu g + 933 ≤ lm.2) (K : ∀ H F, Ist g H 4 5 933 → FRs F H 24 → XSr F → hfi F 213 = up1 (fun _ => 0) 6 (-1) → hfi F 214 = (fun _ => 0) → WP cd_Di_init (callD (d + 4)) R lm 45 [] [some (.ref 24), none] H) : WP cd_Di_init (callD (d + 4)) R lm 34 [] [some (.ref 24), none] g := by
  have F1 := Frc_g g 4 7
  have nq : ¬ 24 = hsz g := by omega
  have y1 : hcc g + 1 ≤ lm.1 := by omega
  have y2 : hcu g + 7 ≤ lm.2 := by omega
  have y3 : hcc g + 1 + 4 ≤ lm.1 := by omega
  have y4 : hcu g + 7 + 926 ≤ lm.2 := by omega
  simp (disch := omega) only [US_Di_init_34 (cm _), SA, SB, SC1, SC2, SG, SK, SV, k7, y1, y2, y3, y4, up1_s, up1_n, true_or, or_true, true_implies, not_true_eq_false, not_false_eq_true, false_implies, true_and, and_true]
  generalize hnew g 4 7 = h1 at *
  have F2 := F1
  obtain ⟨⟨z1, c1, u1⟩, b1, e1, -, e3, e4, -⟩ := F1
  rw [z] at e1 e3 e4 z1 ⊢
  refine x_newReader (d + 2) e1 z1 e3 _ (fun F I S1 S2 S3 => ?_)
  have k72 : hkd F 24 = 7 := by
    rw [(I.2 24 (by omega) (by omega)).1.1, (b1 24 (by omega)).1.1]
    exact k7
  obtain ⟨R3, r3⟩ := FRs_g F 24 (up1 (hfr F 24) 4 (some 213))
  simp (disch := omega) only [US_Di_init_34 (cm _), SA, SB, SC1, SC2, SG, SK, SV, k72, true_or, or_true, true_implies, not_true_eq_false, not_false_eq_true, false_implies, true_and, and_true]
  generalize sFR F 24 (up1 (hfr F 24) 4 (some 213)) = H at *
  exact K H F (Ist_of F2 (by rw [z]; exact I) R3 (by rw [z]; exact r3) (by omega)) R3 S1 S2 S3
theorem di_5 (d : Nat) {g : MH} (R : RT) (lm : Nat × Nat) (k7 : hkd g 24 = 7) (z : hsz g = 218) (hc : hcc g + 3 ≤ lm.1) (hu : hcu g + 89 ≤ lm.2) (K : ∀ H F, Ist g H 5 3 89 → FRs F H 24 → JS F 218 219 220 → WP cd_Di_init (callD (d + 4)) R lm 56 [] [some (.ref 24), none] H) : WP cd_Di_init (callD (d + 4)) R lm 45 [] [some (.ref 24), none] g := by
  have F1 := Frc_g g 1 2
  have nq : ¬ 24 = hsz g := by omega
  have y1 : hcc g + 1 ≤ lm.1 := by omega
  have y2 : hcu g + 2 ≤ lm.2 := by omega
  have y3 : hcc g + 1 + 2 ≤ lm.1 := by omega
  have y4 : hcu g + 2 + 87 ≤ lm.2 := by omega
  simp (disch := omega) only [US_Di_init_45 (cm _), SA, SB, SC1, SC2, SG, SK, SV, k7, y1, y2, y3, y4, up1_s, up1_n, true_or, or_true, true_implies, not_true_eq_false, not_false_eq_true, false_implies, true_and, and_true]
  generalize hnew g 1 2 = h1 at *
  have F2 := F1
  obtain ⟨⟨z1, c1, u1⟩, b1, e1, -, e3, e4, -⟩ := F1
  rw [z] at e1 e3 e4 z1 ⊢
  refine x_newJudge (d + 3) e1 z1 _ (fun F I S1 => ?_)
  have k72 : hkd F 24 = 7 := by
    rw [(I.2 24 (by omega) (by omega)).1.1, (b1 24 (by omega)).1.1]
    exact k7
  obtain ⟨R3, r3⟩ := FRs_g F 24 (up1 (hfr F 24) 5 (some 218))
  simp (disch := omega) only [US_Di_init_45 (cm _), SA, SB, SC1, SC2, SG, SK, SV, k72, true_or, or_true, true_implies, not_true_eq_false, not_false_eq_true, false_implies, true_and, and_true]
  generalize sFR F 24 (up1 (hfr F 24) 5 (some 218)) = H at *
  exact K H F (Ist_of F2 (by rw [z]; exact I) R3 (by rw [z]; exact r3) (by omega)) R3 S1
theorem di_6 (d : Nat) {g : MH} (R : RT) (lm : Nat × Nat) (k7 : hkd g 24 = 7) (z : hsz g = 221) (hc : hcc g + 10 ≤ lm.1) (hu : hcu g + 573 ≤ lm.2) (K : ∀ H F, Ist g H 6 10 573 → FRs F H 24 → NeS F 221 → WP cd_Di_init (callD (d + 4)) R lm 67 [] [some (.ref 24), none] H) : WP cd_Di_init (callD (d + 4)) R lm 56 [] [some (.ref 24), none] g := by
  have F1 := Frc_g g 2 13
  have nq : ¬ 24 = hsz g := by omega
  have y1 : hcc g + 1 ≤ lm.1 := by omega
  have y2 : hcu g + 13 ≤ lm.2 := by omega
  have y3 : hcc g + 1 + 9 ≤ lm.1 := by omega
  have y4 : hcu g + 13 + 560 ≤ lm.2 := by omega
  simp (disch := omega) only [US_Di_init_56 (cm _), SA, SB, SC1, SC2, SG, SK, SV, k7, y1, y2, y3, y4, up1_s, up1_n, true_or, or_true, true_implies, not_true_eq_false, not_false_eq_true, false_implies, true_and, and_true]
  generalize hnew g 2 13 = h1 at *
  have F2 := F1
  obtain ⟨⟨z1, c1, u1⟩, b1, e1, -, e3, e4, -⟩ := F1
  rw [z] at e1 e3 e4 z1 ⊢
  refine x_newNet (d + 2) 221 e1 (by omega) (by omega) e3 _ (fun F I S1 S2 => ?_)
  have k72 : hkd F 24 = 7 := by
    rw [(I.2 24 (by omega) (by omega)).1.1, (b1 24 (by omega)).1.1]
    exact k7
  obtain ⟨R3, r3⟩ := FRs_g F 24 (up1 (hfr F 24) 6 (some 221))
  simp (disch := omega) only [US_Di_init_56 (cm _), SA, SB, SC1, SC2, SG, SK, SV, k72, true_or, or_true, true_implies, not_true_eq_false, not_false_eq_true, false_implies, true_and, and_true]
  generalize sFR F 24 (up1 (hfr F 24) 6 (some 221)) = H at *
  exact K H F (Ist_of F2 (by rw [z]; exact I) R3 (by rw [z]; exact r3) (by omega)) R3 S1
theorem di_7 (d : Nat) {g : MH} (R : RT) (lm : Nat × Nat) (k7 : hkd g 24 = 7) (z : hsz g = 231) (hc : hcc g + 10 ≤ lm.1) (hu : hcu g + 573 ≤ lm.2) (K : ∀ H F, Ist g H 7 10 573 → FRs F H 24 → NeS F 231 → WP cd_Di_init (callD (d + 4)) R lm 78 [] [some (.ref 24), none] H) : WP cd_Di_init (callD (d + 4)) R lm 67 [] [some (.ref 24), none] g := by
  have F1 := Frc_g g 2 13
  have nq : ¬ 24 = hsz g := by omega
  have y1 : hcc g + 1 ≤ lm.1 := by omega
  have y2 : hcu g + 13 ≤ lm.2 := by omega
  have y3 : hcc g + 1 + 9 ≤ lm.1 := by omega
  have y4 : hcu g + 13 + 560 ≤ lm.2 := by omega
  simp (disch := omega) only [US_Di_init_67 (cm _), SA, SB, SC1, SC2, SG, SK, SV, k7, y1, y2, y3, y4, up1_s, up1_n, true_or, or_true, true_implies, not_true_eq_false, not_false_eq_true, false_implies, true_and, and_true]
  generalize hnew g 2 13 = h1 at *
  have F2 := F1
  obtain ⟨⟨z1, c1, u1⟩, b1, e1, -, e3, e4, -⟩ := F1
  rw [z] at e1 e3 e4 z1 ⊢
  refine x_newNet (d + 2) 231 e1 (by omega) (by omega) e3 _ (fun F I S1 S2 => ?_)
  have k72 : hkd F 24 = 7 := by
    rw [(I.2 24 (by omega) (by omega)).1.1, (b1 24 (by omega)).1.1]
    exact k7
  obtain ⟨R3, r3⟩ := FRs_g F 24 (up1 (hfr F 24) 7 (some 231))
  simp (disch := omega) only [US_Di_init_67 (cm _), SA, SB, SC1, SC2, SG, SK, SV, k72, true_or, or_true, true_implies, not_true_eq_false, not_false_eq_true, false_implies, true_and, and_true]
  generalize sFR F 24 (up1 (hfr F 24) 7 (some 231)) = H at *
  exact K H F (Ist_of F2 (by rw [z]; exact I) R3 (by rw [z]; exact r3) (by omega)) R3 S1
theorem di_2 (d : Nat) {g : MH} (R : RT) (lm : Nat × Nat) (k7 : hkd g 24 = 7) (z : hsz g = 39) (hc : hcc g + 1 ≤ lm.1) (hu : hcu g + 2 ≤ lm.2) (K : ∀ H, Ist g H 1 1 2 → hkd H 39 = 25 → hln H 39 = 2 → hia H 39 = (fun _ => 0) → WP cd_Di_init (callD (d + 4)) R lm 23 [] [some (.ref 24), none] H) : WP cd_Di_init (callD (d + 4)) R lm 15 [] [some (.ref 24), none] g := by
  have nq : ¬ 24 = hsz g := by omega
  have S := AS_g g 24 1 25 2 (by omega)
  simp (disch := omega) only [US_Di_init_15 (cm _), SA, SB, SC1, SC2, SG, SK, SV, k7, hc, hu, ltI, nI_clamp, nq, Nat.not_lt_zero, up1_n, Nat.reduceLeDiff, true_or, or_true, true_implies, not_true_eq_false, not_false_eq_true, false_implies, true_and, and_true]
  generalize sFR (hnew g 25 2) 24 (up1 (hfr g 24) 1 (some (hsz g))) = H at *
  have I := S.I
  obtain ⟨-, -, -, -, s1, s2, s3, -⟩ := S
  rw [z] at s1 s2 s3
  exact K H I s1 s2 s3
theorem di_8 (d : Nat) {g : MH} (R : RT) (lm : Nat × Nat) (k7 : hkd g 24 = 7) (z : hsz g = 241) (hc : hcc g + 1 ≤ lm.1) (hu : hcu g + 7 ≤ lm.2) (K : ∀ H, Ist g H 9 1 7 → hkd H 241 = 20 → hln H 241 = 7 → hia H 241 = (fun _ => 0) → WP cd_Di_init (callD (d + 4)) R lm 86 [] [some (.ref 24), none] H) : WP cd_Di_init (callD (d + 4)) R lm 78 [] [some (.ref 24), none] g := by
  have nq : ¬ 24 = hsz g := by omega
  have S := AS_g g 24 9 20 7 (by omega)
  simp (disch := omega) only [US_Di_init_78 (cm _), SA, SB, SC1, SC2, SG, SK, SV, k7, hc, hu, ltI, nI_clamp, nq, Nat.not_lt_zero, up1_n, Nat.reduceLeDiff, true_or, or_true, true_implies, not_true_eq_false, not_false_eq_true, false_implies, true_and, and_true]
  generalize sFR (hnew g 20 7) 24 (up1 (hfr g 24) 9 (some (hsz g))) = H at *
  have I := S.I
  obtain ⟨-, -, -, -, s1, s2, s3, -⟩ := S
  rw [z] at s1 s2 s3
  exact K H I s1 s2 s3
theorem di_9 (d : Nat) {g : MH} (R : RT) (lm : Nat × Nat) (k7 : hkd g 24 = 7) (z : hsz g = 242) (hc : hcc g + 1 ≤ lm.1) (hu : hcu g + 20 ≤ lm.2) (K : ∀ H, Ist g H 10 1 20 → hkd H 242 = 21 → hln H 242 = 20 → hia H 242 = (fun _ => 0) → WP cd_Di_init (callD (d + 4)) R lm 94 [] [some (.ref 24), none] H) : WP cd_Di_init (callD (d + 4)) R lm 86 [] [some (.ref 24), none] g := by
  have nq : ¬ 24 = hsz g := by omega
  have S := AS_g g 24 10 21 20 (by omega)
  simp (disch := omega) only [US_Di_init_86 (cm _), SA, SB, SC1, SC2, SG, SK, SV, k7, hc, hu, ltI, nI_clamp, nq, Nat.not_lt_zero, up1_n, Nat.reduceLeDiff, true_or, or_true, true_implies, not_true_eq_false, not_false_eq_true, false_implies, true_and, and_true]
  generalize sFR (hnew g 21 20) 24 (up1 (hfr g 24) 10 (some (hsz g))) = H at *
  have I := S.I
  obtain ⟨-, -, -, -, s1, s2, s3, -⟩ := S
  rw [z] at s1 s2 s3
  exact K H I s1 s2 s3
theorem di_10 (d : Nat) {g : MH} (R : RT) (lm : Nat × Nat) (k7 : hkd g 24 = 7) (z : hsz g = 243) (hc : hcc g + 1 ≤ lm.1) (hu : hcu g + 3 ≤ lm.2) (K : ∀ H, Ist g H 11 1 3 → hkd H 243 = 20 → hln H 243 = 3 → hia H 243 = (fun _ => 0) → WP cd_Di_init (callD (d + 4)) R lm 101 [] [some (.ref 24), none] H) : WP cd_Di_init (callD (d + 4)) R lm 94 [] [some (.ref 24), none] g := by
  have nq : ¬ 24 = hsz g := by omega
  have S := AS_g g 24 11 20 3 (by omega)
  simp (disch := omega) only [US_Di_init_94 (cm _), SA, SB, SC1, SC2, SG, SK, SV, k7, hc, hu, ltI, nI_clamp, nq, Nat.not_lt_zero, up1_n, Nat.reduceLeDiff, true_or, or_true, true_implies, not_true_eq_false, not_false_eq_true, false_implies, true_and, and_true]
  generalize sFR (hnew g 20 3) 24 (up1 (hfr g 24) 11 (some (hsz g))) = H at *
  have I := S.I
  obtain ⟨-, -, -, -, s1, s2, s3, -⟩ := S
  rw [z] at s1 s2 s3
  exact K H I s1 s2 s3
theorem di_11 (d : Nat) {g : MH} (R : RT) (lm : Nat × Nat) (k7 : hkd g 24 = 7) (z : hsz g = 244) (hc : hcc g + 1 ≤ lm.1) (hu : hcu g + 5 ≤ lm.2) (K : ∀ H, Ist g H 12 1 5 → hkd H 244 = 20 → hln H 244 = 5 → hia H 244 = (fun _ => 0) → WP cd_Di_init (callD (d + 4)) R lm 108 [] [some (.ref 24), none] H) : WP cd_Di_init (callD (d + 4)) R lm 101 [] [some (.ref 24), none] g := by
  have nq : ¬ 24 = hsz g := by omega
  have S := AS_g g 24 12 20 5 (by omega)
  simp (disch := omega) only [US_Di_init_101 (cm _), SA, SB, SC1, SC2, SG, SK, SV, k7, hc, hu, ltI, nI_clamp, nq, Nat.not_lt_zero, up1_n, Nat.reduceLeDiff, true_or, or_true, true_implies, not_true_eq_false, not_false_eq_true, false_implies, true_and, and_true]
  generalize sFR (hnew g 20 5) 24 (up1 (hfr g 24) 12 (some (hsz g))) = H at *
  have I := S.I
  obtain ⟨-, -, -, -, s1, s2, s3, -⟩ := S
  rw [z] at s1 s2 s3
  exact K H I s1 s2 s3
