/-! ===== the program reads a text ===== -/
set_option maxRecDepth 20000 in
theorem UC_Re_reads_58 {G : GT} (hG : Gmono G) (R : RT) (lm : Nat × Nat) : WP cd_Re_reads G R lm 0 = stp G R lm (2, 1, 0, 0, 0, 0, []) (WP cd_Re_reads G R lm) ∧ WP cd_Re_reads G R lm 1 = stp G R lm (1, 2, 1, 0, 0, 0, []) (WP cd_Re_reads G R lm) ∧ WP cd_Re_reads G R lm 2 = stp G R lm (85, 5, 4, 5, 0, 0, []) (WP cd_Re_reads G R lm) ∧ WP cd_Re_reads G R lm 5 = stp G R lm (2, 6, 0, 0, 0, 0, []) (WP cd_Re_reads G R lm) ∧ WP cd_Re_reads G R lm 6 = stp G R lm (7, 7, 0, 0, nI 0, 0, []) (WP cd_Re_reads G R lm) ∧ WP cd_Re_reads G R lm 7 = stp G R lm (59, 10, 4, 3, 0, 0, []) (WP cd_Re_reads G R lm) ∧ WP cd_Re_reads G R lm 10 = stp G R lm (2, 11, 0, 0, 0, 0, []) (WP cd_Re_reads G R lm) ∧ WP cd_Re_reads G R lm 11 = stp G R lm (7, 12, 0, 0, nI 0, 0, []) (WP cd_Re_reads G R lm) ∧ WP cd_Re_reads G R lm 12 = stp G R lm (59, 15, 4, 4, 0, 0, []) (WP cd_Re_reads G R lm) ∧ WP cd_Re_reads G R lm 15 = stp G R lm (2, 16, 0, 0, 0, 0, []) (WP cd_Re_reads G R lm) ∧ WP cd_Re_reads G R lm 16 = stp G R lm (7, 17, 0, 0, (-1), 0, []) (WP cd_Re_reads G R lm) ∧ WP cd_Re_reads G R lm 17 = stp G R lm (59, 20, 4, 6, 0, 0, []) (WP cd_Re_reads G R lm) ∧ WP cd_Re_reads G R lm 20 = stp G R lm (2, 21, 0, 0, 0, 0, []) (WP cd_Re_reads G R lm) ∧ WP cd_Re_reads G R lm 21 = stp G R lm (58, 24, 4, 0, 0, 0, []) (WP cd_Re_reads G R lm) ∧ WP cd_Re_reads G R lm 24 = stp G R lm (86, 27, 66, 0, 0, 0, [5]) (WP cd_Re_reads G R lm) ∧ WP cd_Re_reads G R lm 27 = stp G R lm (7, 28, 0, 0, nI 0, 0, []) (WP cd_Re_reads G R lm) ∧ WP cd_Re_reads G R lm 28 = stp G R lm (4, 29, 2, 0, 0, 0, []) (WP cd_Re_reads G R lm) ∧ WP cd_Re_reads G R lm 30 = stp G R lm (7, 32, 0, 0, nI 12, 0, []) (WP cd_Re_reads G R lm) ∧ WP cd_Re_reads G R lm 32 = stp G R lm (44, 35, 112, 0, 0, 0, []) (WP cd_Re_reads G R lm) ∧ WP cd_Re_reads G R lm 35 = stp G R lm (2, 36, 0, 0, 0, 0, []) (WP cd_Re_reads G R lm) ∧ WP cd_Re_reads G R lm 36 = stp G R lm (1, 37, 2, 0, 0, 0, []) (WP cd_Re_reads G R lm) ∧ WP cd_Re_reads G R lm 37 = stp G R lm (7, 39, 0, 0, nI 6, 0, []) (WP cd_Re_reads G R lm) ∧ WP cd_Re_reads G R lm 39 = stp G R lm (14, 40, 0, 0, 0, 0, []) (WP cd_Re_reads G R lm) ∧ WP cd_Re_reads G R lm 40 = stp G R lm (86, 43, 51, 1, 0, 0, [4]) (WP cd_Re_reads G R lm) ∧ WP cd_Re_reads G R lm 43 = stp G R lm (48, 46, 48, 0, 0, 0, []) (WP cd_Re_reads G R lm) ∧ WP cd_Re_reads G R lm 46 = stp G R lm (9, 47, 0, 0, 0, 0, []) (WP cd_Re_reads G R lm) ∧ WP cd_Re_reads G R lm 47 = stp G R lm (83, 48, 0, 0, 0, 0, []) (WP cd_Re_reads G R lm) ∧ WP cd_Re_reads G R lm 48 = stp G R lm (2, 49, 0, 0, 0, 0, []) (WP cd_Re_reads G R lm) ∧ WP cd_Re_reads G R lm 49 = stp G R lm (58, 52, 4, 0, 0, 0, []) (WP cd_Re_reads G R lm) ∧ WP cd_Re_reads G R lm 52 = stp G R lm (56, 55, 5, 4, 0, 0, []) (WP cd_Re_reads G R lm) ∧ WP cd_Re_reads G R lm 55 = stp G R lm (48, 58, 95, 0, 0, 0, []) (WP cd_Re_reads G R lm) ∧ WP cd_Re_reads G R lm 59 = stp G R lm (7, 60, 0, 0, nI 1, 0, []) (WP cd_Re_reads G R lm) ∧ WP cd_Re_reads G R lm 60 = stp G R lm (12, 61, 0, 0, 0, 0, []) (WP cd_Re_reads G R lm) ∧ WP cd_Re_reads G R lm 61 = stp G R lm (7, 63, 0, 0, nI 6, 0, []) (WP cd_Re_reads G R lm) ∧ WP cd_Re_reads G R lm 63 = stp G R lm (14, 64, 0, 0, 0, 0, []) (WP cd_Re_reads G R lm) ∧ WP cd_Re_reads G R lm 64 = stp G R lm (4, 65, 3, 0, 0, 0, []) (WP cd_Re_reads G R lm) ∧ WP cd_Re_reads G R lm 65 = stp G R lm (75, 68, 3, 3, 0, 0, []) (WP cd_Re_reads G R lm) ∧ WP cd_Re_reads G R lm 68 = stp G R lm (37, 69, 0, 0, 0, 0, []) (WP cd_Re_reads G R lm) ∧ WP cd_Re_reads G R lm 69 = stp G R lm (2, 70, 0, 0, 0, 0, []) (WP cd_Re_reads G R lm) ∧ WP cd_Re_reads G R lm 70 = stp G R lm (58, 73, 4, 1, 0, 0, []) (WP cd_Re_reads G R lm) ∧ WP cd_Re_reads G R lm 73 = stp G R lm (2, 74, 0, 0, 0, 0, []) (WP cd_Re_reads G R lm) ∧ WP cd_Re_reads G R lm 74 = stp G R lm (56, 77, 4, 3, 0, 0, []) (WP cd_Re_reads G R lm) ∧ WP cd_Re_reads G R lm 77 = stp G R lm (89, 80, 256, 2, 0, 0, [1, 448]) (WP cd_Re_reads G R lm) ∧ WP cd_Re_reads G R lm 80 = stp G R lm (2, 81, 0, 0, 0, 0, []) (WP cd_Re_reads G R lm) ∧ WP cd_Re_reads G R lm 81 = stp G R lm (58, 84, 4, 2, 0, 0, []) (WP cd_Re_reads G R lm) ∧ WP cd_Re_reads G R lm 84 = stp G R lm (1, 85, 3, 0, 0, 0, []) (WP cd_Re_reads G R lm) ∧ WP cd_Re_reads G R lm 85 = stp G R lm (89, 88, 256, 2, 0, 0, [1, 448]) (WP cd_Re_reads G R lm) ∧ WP cd_Re_reads G R lm 88 = stp G R lm (1, 89, 2, 0, 0, 0, []) (WP cd_Re_reads G R lm) ∧ WP cd_Re_reads G R lm 89 = stp G R lm (7, 90, 0, 0, nI 1, 0, []) (WP cd_Re_reads G R lm) ∧ WP cd_Re_reads G R lm 90 = stp G R lm (12, 91, 0, 0, 0, 0, []) (WP cd_Re_reads G R lm) ∧ WP cd_Re_reads G R lm 91 = stp G R lm (86, 94, 40, 3, 0, 0, [3]) (WP cd_Re_reads G R lm) ∧ WP cd_Re_reads G R lm 94 = stp G R lm (83, 95, 0, 0, 0, 0, []) (WP cd_Re_reads G R lm) ∧ WP cd_Re_reads G R lm 95 = stp G R lm (2, 96, 0, 0, 0, 0, []) (WP cd_Re_reads G R lm) ∧ WP cd_Re_reads G R lm 96 = stp G R lm (7, 98, 0, 0, nI 59, 0, []) (WP cd_Re_reads G R lm) ∧ WP cd_Re_reads G R lm 98 = stp G R lm (86, 101, 48, 1, 0, 0, [4]) (WP cd_Re_reads G R lm) ∧ WP cd_Re_reads G R lm 101 = stp G R lm (48, 104, 106, 0, 0, 0, []) (WP cd_Re_reads G R lm) ∧ WP cd_Re_reads G R lm 104 = stp G R lm (9, 105, 0, 0, 0, 0, []) (WP cd_Re_reads G R lm) ∧ WP cd_Re_reads G R lm 105 = stp G R lm (83, 106, 0, 0, 0, 0, []) (WP cd_Re_reads G R lm) ∧ WP cd_Re_reads G R lm 106 = stp G R lm (11, 109, 2, 0, nI 1, 0, []) (WP cd_Re_reads G R lm) ∧ WP cd_Re_reads G R lm 109 = stp G R lm (40, 29, 0, 0, 0, 0, []) (WP cd_Re_reads G R lm) ∧ WP cd_Re_reads G R lm 112 = stp G R lm (2, 113, 0, 0, 0, 0, []) (WP cd_Re_reads G R lm) ∧ WP cd_Re_reads G R lm 113 = stp G R lm (86, 116, 47, 0, 0, 0, [4]) (WP cd_Re_reads G R lm) ∧ WP cd_Re_reads G R lm 116 = stp G R lm (39, 117, 0, 0, 0, 0, []) (WP cd_Re_reads G R lm) ∧ WP cd_Re_reads G R lm 117 = stp G R lm (9, 118, 0, 0, 0, 0, []) (WP cd_Re_reads G R lm) ∧ WP cd_Re_reads G R lm 118 = stp G R lm (83, 119, 0, 0, 0, 0, []) (WP cd_Re_reads G R lm) := ⟨WP_eq hG rfl, WP_eq hG rfl, WP_eq hG rfl, WP_eq hG rfl, WP_eq hG rfl, WP_eq hG rfl, WP_eq hG rfl, WP_eq hG rfl, WP_eq hG rfl, WP_eq hG rfl, WP_eq hG rfl, WP_eq hG rfl, WP_eq hG rfl, WP_eq hG rfl, WP_eq hG rfl, WP_eq hG rfl, WP_eq hG rfl, WP_eq hG rfl, WP_eq hG rfl, WP_eq hG rfl, WP_eq hG rfl, WP_eq hG rfl, WP_eq hG rfl, WP_eq hG rfl, WP_eq hG rfl, WP_eq hG rfl, WP_eq hG rfl, WP_eq hG rfl, WP_eq hG rfl, WP_eq hG rfl, WP_eq hG rfl, WP_eq hG rfl, WP_eq hG rfl, WP_eq hG rfl, WP_eq hG rfl, WP_eq hG rfl, WP_eq hG rfl, WP_eq hG rfl, WP_eq hG rfl, WP_eq hG rfl, WP_eq hG rfl, WP_eq hG rfl, WP_eq hG rfl, WP_eq hG rfl, WP_eq hG rfl, WP_eq hG rfl, WP_eq hG rfl, WP_eq hG rfl, WP_eq hG rfl, WP_eq hG rfl, WP_eq hG rfl, WP_eq hG rfl, WP_eq hG rfl, WP_eq hG rfl, WP_eq hG rfl, WP_eq hG rfl, WP_eq hG rfl, WP_eq hG rfl, WP_eq hG rfl, WP_eq hG rfl, WP_eq hG rfl, WP_eq hG rfl, WP_eq hG rfl, WP_eq hG rfl, WP_eq hG rfl⟩
def ALR (h h' : MH) : Prop := hsz h' = hsz h + 3 ∧ (∀ x, x < hsz h → (hkd h' x = hkd h x ∧ hln h' x = hln h x ∧ hfr h' x = hfr h x ∧ hra h' x = hra h x ∧ hfj h' x = hfj h x ∧ hja h' x = hja h x) ∧ (x ≠ 213 → x ≠ 214 → hfi h' x = hfi h x) ∧ (x ≠ 216 → x ≠ 217 → hia h' x = hia h x)) ∧ hfi h' 214 1 = hfi h 214 1 ∧ hfi h' 213 6 = hfi h 213 6
theorem RG.AL {a b c : MH} (x : RG a b) (e6 : hfi b 213 6 = hfi a 213 6) (y : ALR b c) : ALR a c := by
  obtain ⟨⟨x1, x2, x3, x4, x5, x6⟩, x7, x8, x9, x10⟩ := x
  obtain ⟨y1, y2, y3, y4⟩ := y
  obtain ⟨s1, s2, s3, s4⟩ := x4
  refine ⟨by rw [y1, x1], fun p hp => ?_, y3.trans x9, y4.trans e6⟩
  obtain ⟨⟨z1, z2, z3, z4, z5, z6⟩, z7, z8⟩ := y2 p (by omega)
  exact ⟨⟨by rw [z1, s1], by rw [z2, s2], by rw [z3, s3], by rw [z4, s4], by rw [z5, x5], by rw [z6, x6]⟩, fun u v => (z7 u v).trans (x7 p u v), fun u v => (z8 u v).trans (x10 p u v)⟩
/-- a program in its cells -/
def PXg (h : MH) (a om : Nat) (cs : List CLA) : Prop := ∃ N, PXs h a (a + 1) (a + 2) N cs.length ∧ ∀ j x, cs[j]? = some x → XCc (hia h (a + 2)) (hia h (a + 1)) N om (j * 6) x
theorem x_alloc (d i cl : Nat) {T : TP} {om q k : Nat} (hi : i < 12) {h : MH} (r : RS h T om q k cl) (hc : cl ≤ 448) (hz : 300 ≤ hsz h) (cs : List CLA) (hcs : cs.length = i + 1) (X : ∀ j x, cs[j]? = some x → XCc (hia h 217) (hia h 216) cl om (j * 6) x) (w1 w3 : Option Value) (Q : RT) (K : ∀ h', ALR h h' → PXg h' (hsz h) om cs → Q (some (.ref (hsz h))) h') : WP cd_Re_reads (callD (d + 2)) Q (hcc h + 3, hcu h + 899) 58 [] [some (.ref 213), w1, some (.int (nI i)), w3] h := by
  have s := r.1
  unfold XSr at s
  have e3 : hfi h 213 3 = nI cl := r.2.2.1
  have n1 : ¬ 213 = hsz h := by omega
  have n2 : ¬ 216 = hsz h := by omega
  have n3 : ¬ 217 = hsz h := by omega
  simp (disch := omega) only [U_Re_reads (cm _), SA, SB, SC1, SC2, SG, SV, s, e3, nI_add, pk_mul, up1_n, Nat.add_assoc, Nat.reduceAdd, Nat.add_le_add_iff_left, Nat.reduceLeDiff, true_implies, not_true_eq_false, not_false_eq_true, false_implies, true_and, and_true]
  obtain ⟨s1, s2, s3, s4, s5, s6, s7, s8, s9, s10, s11, s12⟩ := s
  have A1 : AL1 h (hnew h 3 3) 3 3 1 3 := ⟨⟨rfl, rfl, rfl⟩, fun x hx => ⟨⟨up1_n _ _ hx, up1_n _ _ hx, up1_n _ _ hx, up1_n _ _ hx⟩, up1_n _ _ hx, up1_n _ _ hx, up1_n _ _ hx, up1_n _ _ hx⟩, up1_s _ _ _, up1_s _ _ _⟩
  generalize hnew h 3 3 = h1 at *
  obtain ⟨⟨z1, z2, z3⟩, f1, k1, -⟩ := A1
  refine x_copyOf d 216 448 cl (by omega) hc (by omega) (by omega) (by rw [(f1 216 (by omega)).1.1]; exact s9) (by rw [(f1 216 (by omega)).1.2.1]; exact s10) _ (fun h2 A2 C2 => ?_)
  obtain ⟨⟨y1, y2, y3⟩, f2, k2, l2⟩ := A2
  have g21 : ∀ x, x < hsz h → (hkd h2 x = hkd h x ∧ hln h2 x = hln h x ∧ hfi h2 x = hfi h x ∧ hfj h2 x = hfj h x) ∧ hfr h2 x = hfr h x ∧ hia h2 x = hia h x ∧ hja h2 x = hja h x ∧ hra h2 x = hra h x := fun x hx => by
    obtain ⟨⟨a1, a2, a3, a4⟩, a5, a6, a7, a8⟩ := f1 x (by omega)
    obtain ⟨⟨b1, b2, b3, b4⟩, b5, b6, b7, b8⟩ := f2 x (by omega)
    exact ⟨⟨b1.trans a1, b2.trans a2, b3.trans a3, b4.trans a4⟩, b5.trans a5, b6.trans a6, b7.trans a7, b8.trans a8⟩
  have t1 : hkd h2 213 = 4 := by rw [(g21 213 (by omega)).1.1]; exact s1
  have t4 : hfr h2 213 2 = some 217 := by rw [(g21 213 (by omega)).2.1]; exact s4
  have t11 : hkd h2 217 = 20 := by rw [(g21 217 (by omega)).1.1]; exact s11
  have t12 : hln h2 217 = 72 := by rw [(g21 217 (by omega)).1.2.1]; exact s12
  rw [z1] at C2 k2 l2
  rw [z1]
  have le1 : hcc h2 + 1 ≤ hcc h + 3 := by omega
  have le2 : hcu h2 + 448 ≤ hcu h + 899 := by omega
  simp (disch := omega) only [U_Re_reads (cm _), SA, SB, SC1, SC2, SG, SV, t1, t4, le1, le2, true_implies, not_true_eq_false, not_false_eq_true, false_implies, true_and, and_true]
  refine x_copyOf d 217 72 ((i + 1) * 6) (by omega) (by omega) (by omega) (by omega) t11 t12 _ (fun h3 A3 C3 => ?_)
  obtain ⟨⟨v1, v2, v3⟩, f3, k3, l3⟩ := A3
  have ez : hsz h2 = hsz h + 2 := by omega
  rw [ez] at C3 k3 l3
  rw [ez]
  have m0 : hkd h3 (hsz h) = 3 := by rw [(f3 (hsz h) (by omega)).1.1, (f2 (hsz h) (by omega)).1.1]; exact k1
  simp (disch := omega) only [U_Re_reads (cm _), SA, SB, SC1, SC2, SG, SK, SV, up1_s, m0, nI_add, E_Pr_init, U_Pr_init (cm _), true_implies, not_true_eq_false, not_false_eq_true, false_implies, true_and, and_true]
  have g31 : ∀ x, x < hsz h → (hkd h3 x = hkd h x ∧ hln h3 x = hln h x ∧ hfi h3 x = hfi h x ∧ hfj h3 x = hfj h x) ∧ hfr h3 x = hfr h x ∧ hia h3 x = hia h x ∧ hja h3 x = hja h x ∧ hra h3 x = hra h x := fun x hx => by
    obtain ⟨⟨a1, a2, a3, a4⟩, a5, a6, a7, a8⟩ := g21 x hx
    obtain ⟨⟨b1, b2, b3, b4⟩, b5, b6, b7, b8⟩ := f3 x (by omega)
    exact ⟨⟨b1.trans a1, b2.trans a2, b3.trans a3, b4.trans a4⟩, b5.trans a5, b6.trans a6, b7.trans a7, b8.trans a8⟩
  have R0 : up1 (up1 (hfr h3 (hsz h)) 0 (some (hsz h + 1))) 1 (some (hsz h + 2)) 0 = some (hsz h + 1) := by rw [up1_n _ _ (by omega), up1_s]
  have R1 : up1 (up1 (hfr h3 (hsz h)) 0 (some (hsz h + 1))) 1 (some (hsz h + 2)) 1 = some (hsz h + 2) := up1_s _ _ _
  generalize up1 (up1 (hfr h3 (hsz h)) 0 (some (hsz h + 1))) 1 (some (hsz h + 2)) = R at *
  have G0 : up1 (hfi h3 (hsz h)) 2 (nI (i + 1)) 2 = nI (i + 1) := up1_s _ _ _
  generalize up1 (hfi h3 (hsz h)) 2 (nI (i + 1)) = G at *
  have hr : ∀ x, hfr (sFI (sFR h3 (hsz h) R) (hsz h) G) x = up1 (hfr h3) (hsz h) R x := fun _ => rfl
  have hg : ∀ x, hfi (sFI (sFR h3 (hsz h) R) (hsz h) G) x = up1 (hfi h3) (hsz h) G x := fun _ => rfl
  refine K _ ⟨by show hsz h3 = hsz h + 3; omega, fun x hx => ?_, ?_, ?_⟩ ⟨cl, ⟨⟨m0, ?_, ?_, ?_, ?_, k3, ?_, ?_⟩, hz, by omega, by omega, hc, by omega, by omega⟩, fun j x hj => ?_⟩
  · obtain ⟨⟨a1, a2, a3, a4⟩, a5, a6, a7, a8⟩ := g31 x hx
    exact ⟨⟨a1, a2, by rw [hr, up1_n _ _ (by omega)]; exact a5, a8, a4, a7⟩, fun _ _ => by rw [hg, up1_n _ _ (by omega)]; exact a3, fun _ _ => a6⟩
  · rw [hg, up1_n _ _ (by omega), (g31 214 (by omega)).1.2.2.1]
  · rw [hg, up1_n _ _ (by omega), (g31 213 (by omega)).1.2.2.1]
  · rw [hr, up1_s]; exact R0
  · show hkd h3 (hsz h + 1) = 20
    rw [(f3 (hsz h + 1) (by omega)).1.1]; exact k2
  · show hln h3 (hsz h + 1) = cl
    rw [(f3 (hsz h + 1) (by omega)).1.2.1]; exact l2
  · rw [hr, up1_s]; exact R1
  · show hln h3 (hsz h + 2) = 6 * cs.length
    rw [l3, hcs]; omega
  · rw [hg, up1_s, G0, hcs]
  · have jl : j < i + 1 := by
      have := List.getElem?_eq_some_iff.mp hj
      obtain ⟨z, -⟩ := this
      omega
    refine (X j x hj).of (fun y y1 y2 => ?_) (Nat.le_refl _) (fun y hy => ?_)
    · show hia h3 (hsz h + 2) y = hia h 217 y
      rw [C3 y (by omega), (g21 217 (by omega)).2.2.1]
    · show hia h3 (hsz h + 1) y = hia h 216 y
      rw [(f3 (hsz h + 1) (by omega)).2.2.1, C2 y hy, (f1 216 (by omega)).2.2.1]
/-- what reading a text comes to, with the program -/
def RtX (h : MH) (om : Nat) (cs0 : List CLA) (Q : RT) : Except Nat (List CLA) → Prop
  | .error f => ∀ h', RG h h' → hfi h' 213 6 = nI f → Q (some .null) h'
  | .ok cs => ∀ h', ALR h h' → PXg h' (hsz h) om (cs0 ++ cs) → Q (some (.ref (hsz h))) h'
theorem x_l_reads (d : Nat) {T : TP} {om : Nat} (hom : om ≤ 1) (w1 : Int32) (Q : RT) : ∀ (m i q k cl : Nat) (h : MH) (cs0 : List CLA) (lm : Nat × Nat) (w3 : Option Value), i + m = 12 → cs0.length = i → RS h T om q k cl → k ≤ 50 → cl + T.2 < 448 + q → 300 ≤ hsz h → lm = (hcc h + 3, hcu h + 899) → (∀ j x, cs0[j]? = some x → XCc (hia h 217) (hia h 216) cl om (j * 6) x) → RtX h om cs0 Q (pTx T om m q k) → WP cd_Re_reads (callD (d + 166)) Q lm 29 [] [some (.ref 213), some (.int w1), some (.int (nI i)), w3] h
  | 0, i, q, k, cl, h, cs0, lm, w3, him, hcs, r, hk, hc, hz, hlm, X, K => by
    have s := r.1
    unfold XSr at s
    have FL := fun Q => r_fails (d + 165) r Q
    have Y := K (flH h) (RF_fl h).G (fl_6 r)
    rw [U_Re_reads_29 (cm _)]
    generalize flH h = h1 at *
    have ei : i = 12 := by omega
    subst ei
    simp (disch := omega) only [U_Re_reads (cm _), SA, SB, SC1, SC2, SG, SV, s, FL, leI, Nat.le_refl, true_implies, not_true_eq_false, not_false_eq_true, false_implies, true_and, and_true]
    exact Y
  | m + 1, i, q, k, cl, h, cs0, lm, w3, him, hcs, r, hk, hc, hz, hlm, X, K => by
    have s := r.1
    unfold XSr at s
    have le : ¬ 12 ≤ i := by omega
    rw [U_Re_reads_29 (cm _)]
    simp (disch := omega) only [U_Re_reads (cm _), SA, SB, SC1, SC2, SG, SV, s, leI, le, pk_mul, true_implies, not_true_eq_false, not_false_eq_true, false_implies, true_and, and_true]
    refine x_clause d (i * 6) q k cl hom (by omega) hk r hc _ ?_
    unfold pTx at K
    cases hp : pCl T om q k with
    | error f =>
      rw [hp] at K
      intro h' e
      simp (disch := omega) only [U_Re_reads (cm _), SA, SB, SC1, SC2, SG, SV, eqI, Nat.one_ne_zero, true_implies, not_true_eq_false, not_false_eq_true, false_implies, true_and, and_true]
      exact K h' e.1 e.2
    | ok w =>
      obtain ⟨c, q1, k1⟩ := w
      rw [hp] at K
      simp only at K
      intro h' cl' f1 r1 e6 c1 c2 kc kw xc k50
      have s1 := r1.1
      unfold XSr at s1
      have hq1 := r1.2.1.2.2.1
      have ty : hfi h' 214 4 = nI (tTy T q1) := r1.2.1.2.2.2.2.2.2.1
      have tl : tTy T q1 < 2 ^ 31 := by unfold tTy; split; split; omega; split <;> omega; omega
      have X' : ∀ j x, (cs0 ++ [c])[j]? = some x → XCc (hia h' 217) (hia h' 216) cl' om (j * 6) x := fun j x hj => by
        by_cases jl : j < i
        · rw [List.getElem?_append_left (by omega)] at hj
          exact (X j x hj).of (fun y y1 y2 => kw y (by omega)) c1 kc
        · rw [List.getElem?_append_right (by omega), hcs] at hj
          have j0 : j - i = 0 := by
            refine Decidable.byContradiction (fun z => ?_)
            rw [List.getElem?_eq_none (by show 1 ≤ j - i; omega)] at hj
            cases hj
          rw [j0] at hj
          have e : c = x := by injection hj
          subst e
          rw [show j = i by omega]
          exact xc
      have hz' : 300 ≤ hsz h' := by rw [f1.1.1]; exact hz
      have hlm' : lm = (hcc h' + 3, hcu h' + 899) := by rw [f1.1.2.1, f1.1.2.2.1]; exact hlm
      by_cases t0 : tTy T q1 = 0
      · rw [if_pos t0] at K
        have Y := fun w3 => x_alloc (d + 164) i cl' (by omega) r1 (by omega) hz' (cs0 ++ [c]) (by rw [List.length_append, hcs]; rfl) X' (some (.int w1)) w3 Q (fun h2 a2 p2 => by
          rw [f1.1.1] at p2 ⊢
          exact K h2 (f1.AL e6 a2) p2)
        clear K
        subst hlm'
        simp (disch := omega) only [UC_Re_reads_58 (cm _), SA, SB, SC1, SC2, SG, SV, s1, ty, t0, eqI, Nat.one_ne_zero, true_implies, not_true_eq_false, not_false_eq_true, false_implies, true_and, and_true]
        exact Y _
      · rw [if_neg t0] at K
        have TS := fun Q => r_takesSign (d + 163) 59 (by omega) r1 Q
        cases cs : bG T q1 59 with
        | false =>
          rw [if_neg (by rw [cs]; decide)] at K
          rw [cs] at TS
          simp only [Bool.false_eq_true, if_false] at TS
          have Y := K (flH h') (f1.trans (RF_fl h').G) (fl_6 r1)
          generalize flH h' = h2 at *
          simp (disch := omega) only [U_Re_reads (cm _), SA, SB, SC1, SC2, SG, SV, s1, ty, t0, TS, eqI, Nat.one_ne_zero, true_implies, not_true_eq_false, not_false_eq_true, false_implies, true_and, and_true]
          exact Y
        | true =>
          rw [if_pos cs] at K
          rw [cs] at TS
          simp only [if_true] at TS
          obtain ⟨a1, a2⟩ := q_adv hq1 (bG_ty cs)
          have R2 := RS_av r1
          have F2 := RF_av h' T q1
          have g6 : hfi (avH h' T q1) 213 6 = hfi h' 213 6 := by rw [av_6]
          have Y := fun w3 => x_l_reads d hom w1 Q m (i + 1) (tBe T q1) k1 cl' (avH h' T q1) (cs0 ++ [c]) lm w3 (by omega) (by rw [List.length_append, hcs]; rfl) R2 k50 (by omega) (by rw [F2.1.1]; exact hz') (by rw [F2.1.2.1, F2.1.2.2.1]; exact hlm') X' (by
            cases ht : pTx T om m (tBe T q1) k1 with
            | error f =>
              rw [ht] at K
              exact fun h3 f3 e3 => K h3 (f1.trans (F2.G.trans f3)) e3
            | ok cs' =>
              rw [ht] at K
              intro h3 a3 p3
              have ez : hsz (avH h' T q1) = hsz h := by rw [F2.1.1, f1.1.1]
              rw [ez] at p3 ⊢
              rw [List.append_assoc] at p3
              exact K h3 ((f1.trans F2.G).AL (g6.trans e6) a3) p3)
          clear K
          generalize avH h' T q1 = h2 at *
          simp (disch := omega) only [U_Re_reads (cm _), SA, SB, SC1, SC2, SG, SV, s1, ty, t0, TS, nI_add, eqI, Nat.one_ne_zero, true_implies, not_true_eq_false, not_false_eq_true, false_implies, true_and, and_true]
          exact Y _
def XAF (h h' : MH) (n : Nat) : Prop := (hsz h' = hsz h + n ∧ hcc h' = hcc h + 3 ∧ hcu h' = hcu h + 899) ∧ (∀ x, x < hsz h → (hkd h' x = hkd h x ∧ hln h' x = hln h x ∧ hfr h' x = hfr h x ∧ hra h' x = hra h x ∧ hfj h' x = hfj h x ∧ hja h' x = hja h x) ∧ (x ≠ 213 → x ≠ 214 → hfi h' x = hfi h x) ∧ (x ≠ 216 → x ≠ 217 → hia h' x = hia h x)) ∧ hfi h' 214 1 = hfi h 214 1
def RtY (h : MH) (om : Nat) (Q : RT) : Except Nat (List CLA) → Prop
  | .error f => ∀ h', XAF h h' 0 → hfi h' 213 6 = nI f → Q (some .null) h'
  | .ok cs => ∀ h', XAF h h' 3 → hfi h' 213 6 = -1 → PXg h' (hsz h) om cs → Q (some (.ref (hsz h))) h'
theorem x_starts (d : Nat) {h : MH} {T : TP} (s : TaS h) (hb : TB (hia h 215) T) (h1 : hfi h 214 1 = nI T.2) (Q : RT) : callD (d + 3) 66 [.ref 214] h Q = Q none (sFI h 214 (tkF (up1 (hfi h 214) 3 (nI 0)) T 0)) ∧ XTk (sFI h 214 (tkF (up1 (hfi h 214) 3 (nI 0)) T 0)) T 0 := by
  have A := fun Q => x_advances d 0 (h := sFI h 214 (up1 (hfi h 214) 3 (nI 0))) s hb (Nat.zero_le _) (by rw [hfi_s, up1_n _ _ (by omega)]; exact h1) (by rw [hfi_s, up1_s]) Q
  rw [hfi_s] at A
  have s' := s
  unfold TaS at s
  refine ⟨?_, s', hb, Nat.zero_le _, ?_, ?_, ?_, ?_, ?_⟩
  · rw [E_Ta_starts]
    simp (disch := omega) only [U_Ta_starts (cm _), SA, SB, SC1, SC2, SG, SK, SV, s, A, true_and]
  all_goals
    rw [hfi_s]
    unfold tkF
    simp (disch := omega) only [up1_n, up1_s]
  exact h1
theorem x_reads (d : Nat) {T : TP} {om : Nat} (hom : om ≤ 1) {h : MH} (s : XSr h) (hb : TB (hia h 215) T) (h1 : hfi h 214 1 = nI T.2) (hz : 300 ≤ hsz h) (Q : RT) (K : RtY h om Q (pTx T om 12 0 0)) : callD (d + 167) 46 [.ref 213, .int (nI om)] h Q := by
  have hT := hb.1
  have s0 := s
  unfold XSr at s
  rw [E_Re_reads]
  have key : ∀ (G H : Nat → Int32) (h2 : MH), h2 = sFI (sFI h 213 G) 214 H → XTk h2 T 0 → G 3 = nI 0 → G 4 = nI 0 → G 5 = nI om → G 6 = -1 → H 1 = nI T.2 → ∀ w3, WP cd_Re_reads (callD (d + 166)) (fun r h' => Q r (sCC h' (hcc h + 3) (hcu h + 899))) (hcc h + 3, hcu h + 899) 29 [] [some (.ref 213), some (.int (nI om)), some (.int (nI 0)), w3] h2 := fun G H h2 eh t g3 g4 g5 g6 g1 w3 => by
    have z1 : hfi h2 213 = G := by rw [eh]; show up1 (up1 (hfi h) 213 G) 214 H 213 = G; rw [up1_n _ _ (by omega), up1_s]
    have z2 : hfi h2 214 = H := by rw [eh]; show up1 (up1 (hfi h) 213 G) 214 H 214 = H; rw [up1_s]
    have z3 : ∀ x, x ≠ 213 → x ≠ 214 → hfi h2 x = hfi h x := fun x a b => by rw [eh]; show up1 (up1 (hfi h) 213 G) 214 H x = _; rw [up1_n _ _ b, up1_n _ _ a]
    have r : RS h2 T om 0 0 0 := ⟨by rw [eh]; exact s0, t, by rw [z1]; exact g3, by rw [z1]; exact g4, by rw [z1]; exact g5⟩
    refine x_l_reads d hom (nI om) _ 12 0 0 0 0 h2 [] _ w3 (by omega) rfl r (by omega) (by omega) (by rw [eh]; exact hz) (by rw [eh]; rfl) (fun j x hj => by cases hj) ?_
    cases hp : pTx T om 12 0 0 with
    | error f =>
      rw [hp] at K
      intro h3 f3 e3
      obtain ⟨⟨x1, x2, x3, ⟨y1, y2, y3, y4⟩, x5, x6⟩, x7, x8, x9, x10⟩ := f3
      refine K _ ⟨⟨by show hsz h3 = hsz h + 0; rw [x1, eh]; rfl, rfl, rfl⟩, fun x hx => ⟨⟨?_, ?_, ?_, ?_, ?_, ?_⟩, fun a b => ?_, fun a b => ?_⟩, ?_⟩ e3
      · show hkd h3 x = _; rw [y1, eh]; rfl
      · show hln h3 x = _; rw [y2, eh]; rfl
      · show hfr h3 x = _; rw [y3, eh]; rfl
      · show hra h3 x = _; rw [y4, eh]; rfl
      · show hfj h3 x = _; rw [x5, eh]; rfl
      · show hja h3 x = _; rw [x6, eh]; rfl
      · show hfi h3 x = _; rw [x7 x a b, z3 x a b]
      · show hia h3 x = _; rw [x10 x a b, eh]; rfl
      · show hfi h3 214 1 = _; rw [x9, z2, g1, h1]
    | ok cs =>
      rw [hp] at K
      intro h3 a3 p3
      obtain ⟨x1, x2, x3, x4⟩ := a3
      have ez : hsz h2 = hsz h := by rw [eh]; rfl
      rw [ez] at p3 x1 x2 ⊢
      refine K _ ⟨⟨x1, rfl, rfl⟩, fun x hx => ?_, ?_⟩ ?_ p3
      · obtain ⟨⟨b1, b2, b3, b4, b5, b6⟩, b7, b8⟩ := x2 x hx
        refine ⟨⟨?_, ?_, ?_, ?_, ?_, ?_⟩, fun a b => ?_, fun a b => ?_⟩
        · show hkd h3 x = _; rw [b1, eh]; rfl
        · show hln h3 x = _; rw [b2, eh]; rfl
        · show hfr h3 x = _; rw [b3, eh]; rfl
        · show hra h3 x = _; rw [b4, eh]; rfl
        · show hfj h3 x = _; rw [b5, eh]; rfl
        · show hja h3 x = _; rw [b6, eh]; rfl
        · show hfi h3 x = _; rw [b7 a b, z3 x a b]
        · show hia h3 x = _; rw [b8 a b, eh]; rfl
      · show hfi h3 214 1 = _; rw [x3, z2, g1, h1]
      · show hfi h3 213 6 = _; rw [x4, z1, g6]
  clear K
  have ST := fun (G : Nat → Int32) Q => x_starts (d + 163) (h := sFI h 213 G) (T := T) ⟨s.2.2.2.2.1, s.2.2.2.2.2.1, s.2.2.2.2.2.2.1, s.2.2.2.2.2.2.2.1⟩ hb h1 Q
  have S1 := fun (G : Nat → Int32) Q => (ST G Q).1
  have eg : ∀ G : Nat → Int32, hfi (sFI h 213 G) 214 = hfi h 214 := fun G => hfi_nn _ _ (by omega)
  have S2 := fun (G : Nat → Int32) => (ST G (fun _ _ => True)).2
  simp only [eg] at S1 S2
  simp (disch := omega) only [U_Re_reads (cm _), SA, SB, SC1, SC2, SG, SK, SV, up1_s, S1, s, true_and]
  refine ⟨by rcases (show om = 0 ∨ om = 1 by omega) with rfl | rfl; exact Or.inl rfl; exact Or.inr rfl, ?_⟩
  refine key _ _ _ rfl ?_ ?_ ?_ ?_ ?_ ?_ _
  · exact S2 _
  all_goals
    first
      | (simp (disch := omega) only [up1_s, up1_n]; done)
      | (unfold tkF; simp (disch := omega) only [up1_s, up1_n]; exact h1)
