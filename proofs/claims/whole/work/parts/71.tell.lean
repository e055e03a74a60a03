/-! ===== the reference's judge ===== -/
def MI (h h' : MH) : Prop := (hsz h' = hsz h ∧ hcc h' = hcc h ∧ hcu h' = hcu h ∧ hkd h' = hkd h ∧ hln h' = hln h ∧ hfr h' = hfr h ∧ hia h' = hia h ∧ hra h' = hra h) ∧ (∀ a k, (a ≠ 273 ∨ k ≠ 38) → hfi h' a k = hfi h a k) ∧ (∀ a k, (a ≠ 273 ∨ (k ≠ 39 ∧ k ≠ 40)) → hfj h' a k = hfj h a k) ∧ (∀ a, a ≠ 293 → hja h' a = hja h a)
theorem MJ.I {a b : MH} (x : MJ a b) : MI a b := ⟨x.1, x.2.1, fun p q z => x.2.2.1 p q (by omega), x.2.2.2⟩
theorem MI.trans {a b c : MH} (x : MI a b) (y : MI b c) : MI a c := by
  obtain ⟨⟨x1, x2, x3, x4, x5, x6, x7, x8⟩, x9, x10, x11⟩ := x
  obtain ⟨⟨y1, y2, y3, y4, y5, y6, y7, y8⟩, y9, y10, y11⟩ := y
  exact ⟨⟨y1.trans x1, y2.trans x2, y3.trans x3, y4.trans x4, y5.trans x5, y6.trans x6, y7.trans x7, y8.trans x8⟩, fun p q z => (y9 p q z).trans (x9 p q z), fun p q z => (y10 p q z).trans (x10 p q z), fun p z => (y11 p z).trans (x11 p z)⟩
theorem MI.refl (h : MH) : MI h h := (MJ.refl h).I
theorem MI.S {h h' : MH} (m : MI h h') (s : MoS h) : MoS h' := by
  obtain ⟨⟨-, -, -, e1, e2, e3, -⟩, -⟩ := m
  unfold MoS AF at *
  rw [e1, e2, e3]
  exact s
theorem MI.E {h h' : MH} (m : MI h h') {om : Nat} {e : EV} (E : ME h om e) : ME h' om e := by
  unfold ME at *
  rw [m.1.2.2.2.2.2.2.1, m.2.2.2 291 (by omega), m.2.2.2 292 (by omega)]
  exact E
theorem MI.s (h : MH) (x : Int64) : MI h (sFJ h 273 (up1 (hfj h 273) 40 x)) := by
  refine ⟨⟨rfl, rfl, rfl, rfl, rfl, rfl, rfl, rfl⟩, fun _ _ _ => rfl, fun a k q => ?_, fun _ _ => rfl⟩
  show up1 (hfj h) 273 (up1 (hfj h 273) 40 x) a k = hfj h a k
  unfold up1
  split
  · next e => subst e; show (if k = 40 then x else hfj h 273 k) = _; rw [if_neg (by omega)]
  · rfl
def MCr (p : RW) (lb : Nat) (l : INS) (n : Nat) : Prop := ∀ k, k < n → ∃ o b, o ≤ 30 ∧ b ≤ 1000 ∧ (0 < o → o < 20 → o ≤ 7) ∧ p (lb + 98 + 2 * k) = nI o ∧ p (lb + 98 + 2 * k + 1) = nI b ∧ l k = dM 0 o b
theorem MCr.C {h : MH} {lb n i j : Nat} {l : INS} (c : MCr (hia h 275) lb l n) (hn : n ≤ 400) (hj : j ≤ n) : MC h 0 lb l i j := fun k h1 h2 => by
  obtain ⟨o, b, o1, b1, w, e1, e2, e3⟩ := c k (by omega)
  exact ⟨o, b, o1, b1, fun a b => ⟨fun _ => w a b, fun z => by omega⟩, ⟨by omega, Or.inr ⟨rfl, e1, e2⟩⟩, e3⟩
def TXc (p : RW) (lb : Nat) (l : INS) (nc : Nat) (L : LWS) (i : Nat) : Prop := L.2.1 i ≤ 1 ∧ p (lb + 2 + 8 * i) = nI (L.2.1 i) ∧ ∃ s0 s1 t0 t1, p (lb + 2 + 8 * i + 3) = nI s0 ∧ p (lb + 2 + 8 * i + 4) = nI s1 ∧ p (lb + 2 + 8 * i + 5) = nI t0 ∧ p (lb + 2 + 8 * i + 6) = nI t1 ∧ t0 ≤ 400 ∧ t1 ≤ nc ∧ s1 ≤ nc ∧ (match L.2.2.1 i with
    | none => t1 ≤ t0
    | some v => TestV v ∧ ∃ D, D ≤ 60 ∧ Seg l t0 t1 D v) ∧ (L.2.1 i = 0 → ∃ D, D ≤ 60 ∧ Seg l s0 s1 D (L.2.2.2 i))
/-- a law of the reference's -/
def TX (p : RW) (f : Nat) (L : LWS) : Prop := f < 6 ∧ 1 ≤ L.1 ∧ L.1 ≤ 12 ∧ p (2022 + 900 * f + 1) = nI L.1 ∧ ∃ l nc, nc ≤ 400 ∧ MCr p (2022 + 900 * f) l nc ∧ ∀ i, i < L.1 → TXc p (2022 + 900 * f) l nc L i
def sob (L : LWS) (e : EV) (i : Nat) : Bool := holB (L.2.2.1 i) e && (!decide (L.2.1 i = 0) || (L.2.2.2 i e).isSome)
theorem m_is59 (d lb i nc : Nat) (hi : i < 12) {L : LWS} {l : INS} {h : MH} (hM : MoS h) (ho : hfi h 273 20 = nI 0) (hl : hfi h 273 34 = nI lb) (hlb : lb ≤ 6522) (hnc : nc ≤ 400) (hC : MCr (hia h 275) lb l nc) (hT : TXc (hia h 275) lb l nc L i) {e : EV} (he : EOK e) (hE : ME h 0 e) (ct : holB (L.2.2.1 i) e = true) (Q : RT) (lm : Nat × Nat) (kk : ∀ h', MI h h' → (L.2.1 i = 0 → ∀ x, L.2.2.2 i e = some x → hfj h' 273 40 = jI x) → Q (some (.int (b01 (sob L e i = true)))) h') : WP cd_Mo_isSo (callD (d + 2)) Q lm 59 [] [some (.ref 273), some (.int (nI (lb + 2 + 8 * i)))] h := by
  obtain ⟨k1, k2, s0, s1, t0, t1, e1, e2, e3, e4, b1, b2, b3, -, hs⟩ := hT
  obtain ⟨m1, m2, m3, m4⟩ := hM.row
  by_cases c0 : L.2.1 i = 0
  · rw [c0] at k2
    obtain ⟨D, hD, S⟩ := hs c0
    have sl := S.1
    simp (disch := omega) only [U_Mo_isSo (cm _), SA, SB, SC1, SC2, SG, SV, m1, m2, m3, m4, k2, e1, e2, nI_add, nI_clamp, in_eq, true_implies, not_true_eq_false, not_false_eq_true, false_implies, true_and, and_true]
    refine m_reck d 0 lb s0 s1 D (Or.inl rfl) hM ho hl hlb (by omega) he S hD (hC.C hnc b3) hE _ (fun hv h' m hb => ?_) (fun x hv h' m hb hx => ?_)
    · have so : sob L e i = false := by unfold sob; rw [ct, hv, c0]; rfl
      have K := kk _ (m.I.trans (MI.s h' (hfj h' 273 39))) (fun _ x hx => by rw [hv] at hx; cases hx)
      rw [so, b01_f (by decide)] at K
      have m1' : hkd h' 273 = 8 := by rw [m.1.2.2.2.1]; exact m1
      simp (disch := omega) only [U_Mo_isSo (cm _), SA, SB, SC1, SC2, SG, SV, m1', hb, eqI, Nat.one_ne_zero, true_implies, not_true_eq_false, not_false_eq_true, false_implies, true_and, and_true, true_or]
      exact K
    · have so : sob L e i = true := by unfold sob; rw [ct, hv]; simp
      have K := kk _ (m.I.trans (MI.s h' (hfj h' 273 39))) (fun _ y hy => by
        rw [hv] at hy
        cases hy
        show up1 (hfj h') 273 (up1 (hfj h' 273) 40 (hfj h' 273 39)) 273 40 = jI x
        rw [up1_s, up1_s]; exact hx)
      rw [so, b01_t rfl] at K
      have m1' : hkd h' 273 = 8 := by rw [m.1.2.2.2.1]; exact m1
      simp (disch := omega) only [U_Mo_isSo (cm _), SA, SB, SC1, SC2, SG, SV, m1', hb, eqI, true_implies, not_true_eq_false, not_false_eq_true, false_implies, true_and, and_true, or_true]
      exact K
  · have k2' : ¬ hia h 275 (lb + 2 + 8 * i) = nI 0 := by rw [k2, eqI (by omega) (by omega)]; exact c0
    have so : sob L e i = true := by unfold sob; rw [ct, decide_eq_false c0]; rfl
    have K := kk h (MI.refl h) (fun z => absurd z c0)
    rw [so, b01_t rfl] at K
    simp (disch := omega) only [U_Mo_isSo (cm _), SA, SB, SC1, SC2, SG, SV, m1, m2, m3, m4, k2', nI_add, nI_clamp, in_eq, true_implies, not_true_eq_false, not_false_eq_true, false_implies, true_and, and_true, or_true]
    exact K
set_option maxRecDepth 20000 in
theorem UC_Mo_isSo_59 {G : GT} (hG : Gmono G) (R : RT) (lm : Nat × Nat) : WP cd_Mo_isSo G R lm 0 = stp G R lm (2, 1, 0, 0, 0, 0, []) (WP cd_Mo_isSo G R lm) ∧ WP cd_Mo_isSo G R lm 1 = stp G R lm (58, 4, 8, 3, 0, 0, []) (WP cd_Mo_isSo G R lm) ∧ WP cd_Mo_isSo G R lm 4 = stp G R lm (1, 5, 1, 0, 0, 0, []) (WP cd_Mo_isSo G R lm) ∧ WP cd_Mo_isSo G R lm 5 = stp G R lm (7, 6, 0, 0, nI 5, 0, []) (WP cd_Mo_isSo G R lm) ∧ WP cd_Mo_isSo G R lm 6 = stp G R lm (12, 7, 0, 0, 0, 0, []) (WP cd_Mo_isSo G R lm) ∧ WP cd_Mo_isSo G R lm 7 = stp G R lm (62, 8, 0, 0, 0, 0, []) (WP cd_Mo_isSo G R lm) ∧ WP cd_Mo_isSo G R lm 8 = stp G R lm (2, 9, 0, 0, 0, 0, []) (WP cd_Mo_isSo G R lm) ∧ WP cd_Mo_isSo G R lm 9 = stp G R lm (58, 12, 8, 3, 0, 0, []) (WP cd_Mo_isSo G R lm) ∧ WP cd_Mo_isSo G R lm 12 = stp G R lm (1, 13, 1, 0, 0, 0, []) (WP cd_Mo_isSo G R lm) ∧ WP cd_Mo_isSo G R lm 13 = stp G R lm (7, 15, 0, 0, nI 6, 0, []) (WP cd_Mo_isSo G R lm) ∧ WP cd_Mo_isSo G R lm 15 = stp G R lm (12, 16, 0, 0, 0, 0, []) (WP cd_Mo_isSo G R lm) ∧ WP cd_Mo_isSo G R lm 16 = stp G R lm (62, 17, 0, 0, 0, 0, []) (WP cd_Mo_isSo G R lm) ∧ WP cd_Mo_isSo G R lm 17 = stp G R lm (44, 20, 59, 0, 0, 0, []) (WP cd_Mo_isSo G R lm) ∧ WP cd_Mo_isSo G R lm 20 = stp G R lm (2, 21, 0, 0, 0, 0, []) (WP cd_Mo_isSo G R lm) ∧ WP cd_Mo_isSo G R lm 21 = stp G R lm (2, 22, 0, 0, 0, 0, []) (WP cd_Mo_isSo G R lm) ∧ WP cd_Mo_isSo G R lm 22 = stp G R lm (58, 25, 8, 3, 0, 0, []) (WP cd_Mo_isSo G R lm) ∧ WP cd_Mo_isSo G R lm 25 = stp G R lm (1, 26, 1, 0, 0, 0, []) (WP cd_Mo_isSo G R lm) ∧ WP cd_Mo_isSo G R lm 26 = stp G R lm (7, 27, 0, 0, nI 5, 0, []) (WP cd_Mo_isSo G R lm) ∧ WP cd_Mo_isSo G R lm 27 = stp G R lm (12, 28, 0, 0, 0, 0, []) (WP cd_Mo_isSo G R lm) ∧ WP cd_Mo_isSo G R lm 28 = stp G R lm (62, 29, 0, 0, 0, 0, []) (WP cd_Mo_isSo G R lm) ∧ WP cd_Mo_isSo G R lm 29 = stp G R lm (2, 30, 0, 0, 0, 0, []) (WP cd_Mo_isSo G R lm) ∧ WP cd_Mo_isSo G R lm 30 = stp G R lm (58, 33, 8, 3, 0, 0, []) (WP cd_Mo_isSo G R lm) ∧ WP cd_Mo_isSo G R lm 33 = stp G R lm (1, 34, 1, 0, 0, 0, []) (WP cd_Mo_isSo G R lm) ∧ WP cd_Mo_isSo G R lm 34 = stp G R lm (7, 36, 0, 0, nI 6, 0, []) (WP cd_Mo_isSo G R lm) ∧ WP cd_Mo_isSo G R lm 36 = stp G R lm (12, 37, 0, 0, 0, 0, []) (WP cd_Mo_isSo G R lm) ∧ WP cd_Mo_isSo G R lm 37 = stp G R lm (62, 38, 0, 0, 0, 0, []) (WP cd_Mo_isSo G R lm) ∧ WP cd_Mo_isSo G R lm 38 = stp G R lm (86, 41, 194, 2, 0, 0, [8]) (WP cd_Mo_isSo G R lm) ∧ WP cd_Mo_isSo G R lm 41 = stp G R lm (2, 42, 0, 0, 0, 0, []) (WP cd_Mo_isSo G R lm) ∧ WP cd_Mo_isSo G R lm 42 = stp G R lm (56, 45, 8, 38, 0, 0, []) (WP cd_Mo_isSo G R lm) ∧ WP cd_Mo_isSo G R lm 45 = stp G R lm (48, 48, 57, 0, 0, 0, []) (WP cd_Mo_isSo G R lm) ∧ WP cd_Mo_isSo G R lm 48 = stp G R lm (2, 49, 0, 0, 0, 0, []) (WP cd_Mo_isSo G R lm) ∧ WP cd_Mo_isSo G R lm 49 = stp G R lm (57, 52, 8, 39, 0, 0, []) (WP cd_Mo_isSo G R lm) ∧ WP cd_Mo_isSo G R lm 52 = stp G R lm (8, 53, 0, 0, 0, lN 0, []) (WP cd_Mo_isSo G R lm) ∧ WP cd_Mo_isSo G R lm 53 = stp G R lm (35, 54, 0, 0, 0, 0, []) (WP cd_Mo_isSo G R lm) ∧ WP cd_Mo_isSo G R lm 54 = stp G R lm (48, 57, 59, 0, 0, 0, []) (WP cd_Mo_isSo G R lm) ∧ WP cd_Mo_isSo G R lm 57 = stp G R lm (7, 58, 0, 0, nI 0, 0, []) (WP cd_Mo_isSo G R lm) ∧ WP cd_Mo_isSo G R lm 58 = stp G R lm (81, 59, 1, 0, 0, 0, []) (WP cd_Mo_isSo G R lm) ∧ WP cd_Mo_isSo G R lm 60 = stp G R lm (58, 63, 8, 3, 0, 0, []) (WP cd_Mo_isSo G R lm) ∧ WP cd_Mo_isSo G R lm 63 = stp G R lm (1, 64, 1, 0, 0, 0, []) (WP cd_Mo_isSo G R lm) ∧ WP cd_Mo_isSo G R lm 64 = stp G R lm (62, 65, 0, 0, 0, 0, []) (WP cd_Mo_isSo G R lm) ∧ WP cd_Mo_isSo G R lm 65 = stp G R lm (48, 68, 109, 0, 0, 0, []) (WP cd_Mo_isSo G R lm) ∧ WP cd_Mo_isSo G R lm 68 = stp G R lm (2, 69, 0, 0, 0, 0, []) (WP cd_Mo_isSo G R lm) ∧ WP cd_Mo_isSo G R lm 69 = stp G R lm (2, 70, 0, 0, 0, 0, []) (WP cd_Mo_isSo G R lm) ∧ WP cd_Mo_isSo G R lm 70 = stp G R lm (58, 73, 8, 3, 0, 0, []) (WP cd_Mo_isSo G R lm) ∧ WP cd_Mo_isSo G R lm 73 = stp G R lm (1, 74, 1, 0, 0, 0, []) (WP cd_Mo_isSo G R lm) ∧ WP cd_Mo_isSo G R lm 74 = stp G R lm (7, 75, 0, 0, nI 3, 0, []) (WP cd_Mo_isSo G R lm) ∧ WP cd_Mo_isSo G R lm 75 = stp G R lm (12, 76, 0, 0, 0, 0, []) (WP cd_Mo_isSo G R lm) ∧ WP cd_Mo_isSo G R lm 76 = stp G R lm (62, 77, 0, 0, 0, 0, []) (WP cd_Mo_isSo G R lm) ∧ WP cd_Mo_isSo G R lm 77 = stp G R lm (2, 78, 0, 0, 0, 0, []) (WP cd_Mo_isSo G R lm) ∧ WP cd_Mo_isSo G R lm 78 = stp G R lm (58, 81, 8, 3, 0, 0, []) (WP cd_Mo_isSo G R lm) ∧ WP cd_Mo_isSo G R lm 81 = stp G R lm (1, 82, 1, 0, 0, 0, []) (WP cd_Mo_isSo G R lm) ∧ WP cd_Mo_isSo G R lm 82 = stp G R lm (7, 83, 0, 0, nI 4, 0, []) (WP cd_Mo_isSo G R lm) ∧ WP cd_Mo_isSo G R lm 83 = stp G R lm (12, 84, 0, 0, 0, 0, []) (WP cd_Mo_isSo G R lm) ∧ WP cd_Mo_isSo G R lm 84 = stp G R lm (62, 85, 0, 0, 0, 0, []) (WP cd_Mo_isSo G R lm) ∧ WP cd_Mo_isSo G R lm 85 = stp G R lm (86, 88, 194, 2, 0, 0, [8]) (WP cd_Mo_isSo G R lm) ∧ WP cd_Mo_isSo G R lm 88 = stp G R lm (2, 89, 0, 0, 0, 0, []) (WP cd_Mo_isSo G R lm) ∧ WP cd_Mo_isSo G R lm 89 = stp G R lm (2, 90, 0, 0, 0, 0, []) (WP cd_Mo_isSo G R lm) ∧ WP cd_Mo_isSo G R lm 90 = stp G R lm (57, 93, 8, 39, 0, 0, []) (WP cd_Mo_isSo G R lm) ∧ WP cd_Mo_isSo G R lm 93 = stp G R lm (60, 96, 8, 40, 0, 0, []) (WP cd_Mo_isSo G R lm) ∧ WP cd_Mo_isSo G R lm 96 = stp G R lm (2, 97, 0, 0, 0, 0, []) (WP cd_Mo_isSo G R lm) ∧ WP cd_Mo_isSo G R lm 97 = stp G R lm (56, 100, 8, 38, 0, 0, []) (WP cd_Mo_isSo G R lm) ∧ WP cd_Mo_isSo G R lm 100 = stp G R lm (48, 103, 107, 0, 0, 0, []) (WP cd_Mo_isSo G R lm) ∧ WP cd_Mo_isSo G R lm 103 = stp G R lm (7, 104, 0, 0, nI 1, 0, []) (WP cd_Mo_isSo G R lm) ∧ WP cd_Mo_isSo G R lm 104 = stp G R lm (40, 108, 0, 0, 0, 0, []) (WP cd_Mo_isSo G R lm) ∧ WP cd_Mo_isSo G R lm 107 = stp G R lm (7, 108, 0, 0, nI 0, 0, []) (WP cd_Mo_isSo G R lm) ∧ WP cd_Mo_isSo G R lm 108 = stp G R lm (81, 109, 1, 0, 0, 0, []) (WP cd_Mo_isSo G R lm) ∧ WP cd_Mo_isSo G R lm 109 = stp G R lm (7, 110, 0, 0, nI 1, 0, []) (WP cd_Mo_isSo G R lm) ∧ WP cd_Mo_isSo G R lm 110 = stp G R lm (81, 111, 1, 0, 0, 0, []) (WP cd_Mo_isSo G R lm) := ⟨WP_eq hG rfl, WP_eq hG rfl, WP_eq hG rfl, WP_eq hG rfl, WP_eq hG rfl, WP_eq hG rfl, WP_eq hG rfl, WP_eq hG rfl, WP_eq hG rfl, WP_eq hG rfl, WP_eq hG rfl, WP_eq hG rfl, WP_eq hG rfl, WP_eq hG rfl, WP_eq hG rfl, WP_eq hG rfl, WP_eq hG rfl, WP_eq hG rfl, WP_eq hG rfl, WP_eq hG rfl, WP_eq hG rfl, WP_eq hG rfl, WP_eq hG rfl, WP_eq hG rfl, WP_eq hG rfl, WP_eq hG rfl, WP_eq hG rfl, WP_eq hG rfl, WP_eq hG rfl, WP_eq hG rfl, WP_eq hG rfl, WP_eq hG rfl, WP_eq hG rfl, WP_eq hG rfl, WP_eq hG rfl, WP_eq hG rfl, WP_eq hG rfl, WP_eq hG rfl, WP_eq hG rfl, WP_eq hG rfl, WP_eq hG rfl, WP_eq hG rfl, WP_eq hG rfl, WP_eq hG rfl, WP_eq hG rfl, WP_eq hG rfl, WP_eq hG rfl, WP_eq hG rfl, WP_eq hG rfl, WP_eq hG rfl, WP_eq hG rfl, WP_eq hG rfl, WP_eq hG rfl, WP_eq hG rfl, WP_eq hG rfl, WP_eq hG rfl, WP_eq hG rfl, WP_eq hG rfl, WP_eq hG rfl, WP_eq hG rfl, WP_eq hG rfl, WP_eq hG rfl, WP_eq hG rfl, WP_eq hG rfl, WP_eq hG rfl, WP_eq hG rfl, WP_eq hG rfl, WP_eq hG rfl⟩
theorem m_isSo (d lb i nc : Nat) (hi : i < 12) {L : LWS} {l : INS} {h : MH} (hM : MoS h) (ho : hfi h 273 20 = nI 0) (hl : hfi h 273 34 = nI lb) (hlb : lb ≤ 6522) (hnc : nc ≤ 400) (hC : MCr (hia h 275) lb l nc) (hT : TXc (hia h 275) lb l nc L i) {e : EV} (he : EOK e) (hE : ME h 0 e) (Q : RT) (kk : ∀ h', MI h h' → (sob L e i = true → L.2.1 i = 0 → ∀ x, L.2.2.2 i e = some x → hfj h' 273 40 = jI x) → Q (some (.int (b01 (sob L e i = true)))) h') : callD (d + 3) 195 [.ref 273, .int (nI (lb + 2 + 8 * i))] h Q := by
  have hT' := hT
  obtain ⟨k1, k2, s0, s1, t0, t1, e1, e2, e3, e4, b1, b2, b3, ht, hs⟩ := hT
  obtain ⟨m1, m2, m3, m4⟩ := hM.row
  rw [E_Mo_isSo]
  cases hTi : L.2.2.1 i with
  | none =>
    rw [hTi] at ht
    have ct : holB (L.2.2.1 i) e = true := by rw [hTi]; rfl
    have Y := m_is59 d lb i nc hi hM ho hl hlb hnc hC hT' he hE ct Q (hcc h, hcu h) (fun h' m z => kk h' m (fun _ => z))
    have t01 : t1 ≤ t0 := ht
    simp (disch := omega) only [UC_Mo_isSo_59 (cm _), SA, SB, SC1, SC2, SG, SV, m1, m2, m3, m4, e3, e4, leI, t01, nI_add, nI_clamp, in_eq, true_implies, not_true_eq_false, not_false_eq_true, false_implies, true_and, and_true]
    exact Y
  | some v =>
    rw [hTi] at ht
    obtain ⟨tv, D, hD, S⟩ := ht
    have t01 := S.1
    have nt : ¬ t1 ≤ t0 := by omega
    have hol : holB (L.2.2.1 i) e = decide (v e = some 1) := by rw [hTi]; rfl
    simp (disch := omega) only [UC_Mo_isSo_59 (cm _), SA, SB, SC1, SC2, SG, SV, m1, m2, m3, m4, e3, e4, leI, nt, nI_add, nI_clamp, in_eq, true_implies, not_true_eq_false, not_false_eq_true, false_implies, true_and, and_true]
    refine m_reck d 0 lb t0 t1 D (Or.inl rfl) hM ho hl hlb (by omega) he S hD (hC.C hnc b2) hE _ (fun hv h' m hb => ?_) (fun x hv h' m hb hx => ?_)
    · have so : sob L e i = false := by unfold sob; rw [hol, hv]; rfl
      have K := kk h' m.I (fun z => by rw [so] at z; cases z)
      rw [so, b01_f (by decide)] at K
      have m1' : hkd h' 273 = 8 := by rw [m.1.2.2.2.1]; exact m1
      simp (disch := omega) only [UC_Mo_isSo_59 (cm _), SA, SB, SC1, SC2, SG, SV, m1', hb, eqI, Nat.one_ne_zero, true_implies, not_true_eq_false, not_false_eq_true, false_implies, true_and, and_true, true_or]
      exact K
    · have m1' : hkd h' 273 = 8 := by rw [m.1.2.2.2.1]; exact m1
      have rx := bd_j (S.2.1 e x he hv)
      have hx0 := jI_eq rx (y := 0) (by omega)
      by_cases cx : x = 0
      · have so : sob L e i = false := by unfold sob; rw [hol, hv, cx]; rfl
        have K := kk h' m.I (fun z => by rw [so] at z; cases z)
        rw [so, b01_f (by decide)] at K
        simp (disch := omega) only [↓SL, LC, UC_Mo_isSo_59 (cm _), SA, SB, SC1, SC2, SG, SV, m1', hb, hx, jI0, hx0, cx, eqI, true_implies, not_true_eq_false, not_false_eq_true, false_implies, true_and, and_true, true_or]
        exact K
      · have x1 : x = 1 := (tv e x he hv).resolve_left cx
        have ct : holB (L.2.2.1 i) e = true := by rw [hol, hv, x1]; rfl
        have eh : hia h' = hia h := m.1.2.2.2.2.2.2.1
        have Y := m_is59 d lb i nc hi (h := h') (m.S hM) ((m.2.1 273 20 (by omega)).trans ho) ((m.2.1 273 34 (by omega)).trans hl) hlb hnc (by rw [eh]; exact hC) (by rw [eh]; exact hT') he (m.I.E hE) ct Q (hcc h, hcu h) (fun h2 m2 z => kk h2 (m.I.trans m2) (fun _ => z))
        simp (disch := omega) only [↓SL, LC, UC_Mo_isSo_59 (cm _), SA, SB, SC1, SC2, SG, SV, m1', hb, hx, jI0, hx0, cx, eqI, true_implies, not_true_eq_false, not_false_eq_true, false_implies, true_and, and_true, true_or]
        exact Y
