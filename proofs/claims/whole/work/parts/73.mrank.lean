theorem eMs_ok {k f t d w tm md : Int} (h0 : -1 ≤ k ∧ k ≤ 10000) (h1 : -1 ≤ f ∧ f ≤ 10000) (h2 : -1 ≤ t ∧ t ≤ 10000) (h3 : -1 ≤ d ∧ d ≤ 10000) (h4 : -1 ≤ w ∧ w ≤ 10000) (h5 : -1 ≤ tm ∧ tm ≤ 10000) (h6 : -1 ≤ md ∧ md ≤ 10000) : EOK (eMs k f t d w tm md) := fun n => by
  unfold eMs
  repeat (split; assumption)
  omega
def fsl (b : Nat → Int64) (w t m : Int64) : Nat → Int64 := up1 (up1 (up1 b 5 w) 6 t) 7 m
def fsm (b : Nat → Int64) (k f t d : Int64) : Nat → Int64 := up1 (up1 (up1 (up1 b 1 k) 2 f) 3 t) 4 d
theorem fs_ok {b : Nat → Int64} {k f t d w tm md : Int} : ∀ n, n < 7 → fsl (fsm b (jI k) (jI f) (jI t) (jI d)) (jI w) (jI tm) (jI md) (n + 1) = jI (eMs k f t d w tm md n) := fun n hn => by
  have : n = 0 ∨ n = 1 ∨ n = 2 ∨ n = 3 ∨ n = 4 ∨ n = 5 ∨ n = 6 := by omega
  unfold fsl fsm
  rcases this with rfl | rfl | rfl | rfl | rfl | rfl | rfl <;> rfl
theorem clp_j {x : Int} (h : bd x) (d : Nat) (w : Nat) (h0 : MH) (Q : RT) (lm : Nat × Nat) : WP cd_Mo_rankOf (callD d) Q lm 49 [] [some (.ref w), some (.long (jI x)), none] h0 = Q (some (.int (nI (clp x)))) h0 := by
  have r := bd_j h
  have e1 := jI_le (x := 0) (by omega) r
  have e2 := jI_le r (y := 99) (by omega)
  have q2 : lN 99 = jI 99 := by decide
  unfold clp
  by_cases c1 : 0 ≤ x
  · rw [if_neg (by omega)]
    by_cases c2 : x ≤ 99
    · rw [if_neg (by omega), ← iI_n, Int.toNat_of_nonneg c1]
      simp only [↓SL, LC, U_Mo_rankOf (cm _), SA, SB, SV, jI0, q2, e1, e2, c1, c2, jI_i, true_implies, not_true_eq_false, not_false_eq_true, false_implies, true_and, and_true]
    · rw [if_pos (by omega)]
      simp only [↓SL, LC, U_Mo_rankOf (cm _), SA, SB, SV, jI0, q2, e1, e2, c1, c2, jI_i, true_implies, not_true_eq_false, not_false_eq_true, false_implies, true_and, and_true]
  · rw [if_pos (by omega)]
    simp only [↓SL, LC, U_Mo_rankOf (cm _), SA, SB, SV, jI0, q2, e1, e2, c1, jI_i, true_implies, not_true_eq_false, not_false_eq_true, false_implies, true_and, and_true]
theorem jTell_bd {p : RW} {f : Nat} {L : LWS} (T : TX p f L) {e : EV} (he : EOK e) : ∀ n, n ≤ L.1 → bd ((jTell L e n).getD 0)
  | 0, _ => by
    show bd 0
    constructor <;> decide
  | n + 1, hn => by
    have ih := jTell_bd T he n (by omega)
    obtain ⟨-, -, -, -, l, nc, -, -, hT⟩ := T
    obtain ⟨-, -, s0, s1, t0, t1, -, -, -, -, -, -, -, -, hs⟩ := hT n (by omega)
    show bd ((if L.2.1 n = 0 ∧ holB (L.2.2.1 n) e = true then _ else _ : Option Int).getD 0)
    by_cases c : L.2.1 n = 0 ∧ holB (L.2.2.1 n) e = true
    · rw [if_pos c]
      obtain ⟨D, -, S⟩ := hs c.1
      cases hv : L.2.2.2 n e with
      | none => exact ih
      | some x => exact S.2.1 e x he hv
    · rw [if_neg c]; exact ih
theorem tlO_0 {p : RW} {Lo : Option LWS} (hF : FO p Lo) {e : EV} (he : EOK e) : ∃ x, bd x ∧ tlO Lo e 0 (lN 0) = jI x ∧ jRankO Lo e = clp x := by
  cases Lo with
  | none => exact ⟨0, by constructor <;> decide, jI0, rfl⟩
  | some L =>
    obtain ⟨f, -, T⟩ := hF
    refine ⟨(jTell L e L.1).getD 0, jTell_bd T he L.1 (Nat.le_refl _), ?_, rfl⟩
    show tlI L e 0 (lN 0) L.1 = _
    unfold tlI
    rw [if_pos rfl]
    cases jTell L e L.1 with
    | none => exact jI0
    | some x => rfl
theorem tlO_1 (Lo : Option LWS) (e : EV) : tlO Lo e 1 (lN 0) = if jBarO Lo e = true then jI 1 else jI 0 := by
  cases Lo with
  | none => exact jI0
  | some L =>
    show (if jBar L e L.1 = true then lN 1 else lN 0) = (if jBar L e L.1 = true then jI 1 else jI 0)
    rw [jI0, jI1]
set_option maxRecDepth 20000 in
theorem UC_Mo_rankOf_49 {G : GT} (hG : Gmono G) (R : RT) (lm : Nat × Nat) : WP cd_Mo_rankOf G R lm 0 = stp G R lm (2, 1, 0, 0, 0, 0, []) (WP cd_Mo_rankOf G R lm) ∧ WP cd_Mo_rankOf G R lm 1 = stp G R lm (58, 4, 8, 35, 0, 0, []) (WP cd_Mo_rankOf G R lm) ∧ WP cd_Mo_rankOf G R lm 4 = stp G R lm (7, 5, 0, 0, nI 5, 0, []) (WP cd_Mo_rankOf G R lm) ∧ WP cd_Mo_rankOf G R lm 5 = stp G R lm (2, 6, 0, 0, 0, 0, []) (WP cd_Mo_rankOf G R lm) ∧ WP cd_Mo_rankOf G R lm 6 = stp G R lm (58, 9, 8, 3, 0, 0, []) (WP cd_Mo_rankOf G R lm) ∧ WP cd_Mo_rankOf G R lm 9 = stp G R lm (7, 11, 0, 0, nI 6, 0, []) (WP cd_Mo_rankOf G R lm) ∧ WP cd_Mo_rankOf G R lm 11 = stp G R lm (62, 12, 0, 0, 0, 0, []) (WP cd_Mo_rankOf G R lm) ∧ WP cd_Mo_rankOf G R lm 12 = stp G R lm (33, 13, 0, 0, 0, 0, []) (WP cd_Mo_rankOf G R lm) ∧ WP cd_Mo_rankOf G R lm 13 = stp G R lm (68, 14, 0, 0, 0, 0, []) (WP cd_Mo_rankOf G R lm) ∧ WP cd_Mo_rankOf G R lm 14 = stp G R lm (2, 15, 0, 0, 0, 0, []) (WP cd_Mo_rankOf G R lm) ∧ WP cd_Mo_rankOf G R lm 15 = stp G R lm (58, 18, 8, 35, 0, 0, []) (WP cd_Mo_rankOf G R lm) ∧ WP cd_Mo_rankOf G R lm 18 = stp G R lm (7, 20, 0, 0, nI 6, 0, []) (WP cd_Mo_rankOf G R lm) ∧ WP cd_Mo_rankOf G R lm 20 = stp G R lm (2, 21, 0, 0, 0, 0, []) (WP cd_Mo_rankOf G R lm) ∧ WP cd_Mo_rankOf G R lm 21 = stp G R lm (58, 24, 8, 3, 0, 0, []) (WP cd_Mo_rankOf G R lm) ∧ WP cd_Mo_rankOf G R lm 24 = stp G R lm (7, 25, 0, 0, nI 5, 0, []) (WP cd_Mo_rankOf G R lm) ∧ WP cd_Mo_rankOf G R lm 25 = stp G R lm (62, 26, 0, 0, 0, 0, []) (WP cd_Mo_rankOf G R lm) ∧ WP cd_Mo_rankOf G R lm 26 = stp G R lm (33, 27, 0, 0, 0, 0, []) (WP cd_Mo_rankOf G R lm) ∧ WP cd_Mo_rankOf G R lm 27 = stp G R lm (68, 28, 0, 0, 0, 0, []) (WP cd_Mo_rankOf G R lm) ∧ WP cd_Mo_rankOf G R lm 28 = stp G R lm (2, 29, 0, 0, 0, 0, []) (WP cd_Mo_rankOf G R lm) ∧ WP cd_Mo_rankOf G R lm 29 = stp G R lm (58, 32, 8, 35, 0, 0, []) (WP cd_Mo_rankOf G R lm) ∧ WP cd_Mo_rankOf G R lm 32 = stp G R lm (7, 34, 0, 0, nI 7, 0, []) (WP cd_Mo_rankOf G R lm) ∧ WP cd_Mo_rankOf G R lm 34 = stp G R lm (2, 35, 0, 0, 0, 0, []) (WP cd_Mo_rankOf G R lm) ∧ WP cd_Mo_rankOf G R lm 35 = stp G R lm (58, 38, 8, 3, 0, 0, []) (WP cd_Mo_rankOf G R lm) ∧ WP cd_Mo_rankOf G R lm 38 = stp G R lm (7, 39, 0, 0, nI 4, 0, []) (WP cd_Mo_rankOf G R lm) ∧ WP cd_Mo_rankOf G R lm 39 = stp G R lm (62, 40, 0, 0, 0, 0, []) (WP cd_Mo_rankOf G R lm) ∧ WP cd_Mo_rankOf G R lm 40 = stp G R lm (33, 41, 0, 0, 0, 0, []) (WP cd_Mo_rankOf G R lm) ∧ WP cd_Mo_rankOf G R lm 41 = stp G R lm (68, 42, 0, 0, 0, 0, []) (WP cd_Mo_rankOf G R lm) ∧ WP cd_Mo_rankOf G R lm 42 = stp G R lm (2, 43, 0, 0, 0, 0, []) (WP cd_Mo_rankOf G R lm) ∧ WP cd_Mo_rankOf G R lm 43 = stp G R lm (7, 44, 0, 0, nI 0, 0, []) (WP cd_Mo_rankOf G R lm) ∧ WP cd_Mo_rankOf G R lm 44 = stp G R lm (8, 45, 0, 0, 0, lN 0, []) (WP cd_Mo_rankOf G R lm) ∧ WP cd_Mo_rankOf G R lm 45 = stp G R lm (86, 48, 196, 2, 0, 0, [8]) (WP cd_Mo_rankOf G R lm) ∧ WP cd_Mo_rankOf G R lm 48 = stp G R lm (6, 49, 1, 0, 0, 0, []) (WP cd_Mo_rankOf G R lm) ∧ WP cd_Mo_rankOf G R lm 50 = stp G R lm (8, 51, 0, 0, 0, lN 0, []) (WP cd_Mo_rankOf G R lm) ∧ WP cd_Mo_rankOf G R lm 51 = stp G R lm (35, 52, 0, 0, 0, 0, []) (WP cd_Mo_rankOf G R lm) ∧ WP cd_Mo_rankOf G R lm 52 = stp G R lm (50, 55, 59, 0, 0, 0, []) (WP cd_Mo_rankOf G R lm) ∧ WP cd_Mo_rankOf G R lm 55 = stp G R lm (7, 56, 0, 0, nI 0, 0, []) (WP cd_Mo_rankOf G R lm) ∧ WP cd_Mo_rankOf G R lm 56 = stp G R lm (40, 74, 0, 0, 0, 0, []) (WP cd_Mo_rankOf G R lm) ∧ WP cd_Mo_rankOf G R lm 59 = stp G R lm (3, 60, 1, 0, 0, 0, []) (WP cd_Mo_rankOf G R lm) ∧ WP cd_Mo_rankOf G R lm 60 = stp G R lm (8, 63, 0, 0, 0, lN 99, []) (WP cd_Mo_rankOf G R lm) ∧ WP cd_Mo_rankOf G R lm 63 = stp G R lm (35, 64, 0, 0, 0, 0, []) (WP cd_Mo_rankOf G R lm) ∧ WP cd_Mo_rankOf G R lm 64 = stp G R lm (52, 67, 72, 0, 0, 0, []) (WP cd_Mo_rankOf G R lm) ∧ WP cd_Mo_rankOf G R lm 67 = stp G R lm (7, 69, 0, 0, nI 99, 0, []) (WP cd_Mo_rankOf G R lm) ∧ WP cd_Mo_rankOf G R lm 69 = stp G R lm (40, 74, 0, 0, 0, 0, []) (WP cd_Mo_rankOf G R lm) ∧ WP cd_Mo_rankOf G R lm 72 = stp G R lm (3, 73, 1, 0, 0, 0, []) (WP cd_Mo_rankOf G R lm) ∧ WP cd_Mo_rankOf G R lm 73 = stp G R lm (34, 74, 0, 0, 0, 0, []) (WP cd_Mo_rankOf G R lm) ∧ WP cd_Mo_rankOf G R lm 74 = stp G R lm (81, 75, 0, 0, 0, 0, []) (WP cd_Mo_rankOf G R lm) := ⟨WP_eq hG rfl, WP_eq hG rfl, WP_eq hG rfl, WP_eq hG rfl, WP_eq hG rfl, WP_eq hG rfl, WP_eq hG rfl, WP_eq hG rfl, WP_eq hG rfl, WP_eq hG rfl, WP_eq hG rfl, WP_eq hG rfl, WP_eq hG rfl, WP_eq hG rfl, WP_eq hG rfl, WP_eq hG rfl, WP_eq hG rfl, WP_eq hG rfl, WP_eq hG rfl, WP_eq hG rfl, WP_eq hG rfl, WP_eq hG rfl, WP_eq hG rfl, WP_eq hG rfl, WP_eq hG rfl, WP_eq hG rfl, WP_eq hG rfl, WP_eq hG rfl, WP_eq hG rfl, WP_eq hG rfl, WP_eq hG rfl, WP_eq hG rfl, WP_eq hG rfl, WP_eq hG rfl, WP_eq hG rfl, WP_eq hG rfl, WP_eq hG rfl, WP_eq hG rfl, WP_eq hG rfl, WP_eq hG rfl, WP_eq hG rfl, WP_eq hG rfl, WP_eq hG rfl, WP_eq hG rfl, WP_eq hG rfl, WP_eq hG rfl⟩
/-- the reference's rank of what is laid -/
theorem m_rankOf (d : Nat) {Lo : Option LWS} {h : MH} (hM : MoS h) (ho : hfi h 273 20 = nI 0) (hF : FO (hia h 275) Lo) {k f t dd w tm md : Int} {b : Nat → Int64} (hb : hja h 291 = fsm b (jI k) (jI f) (jI t) (jI dd)) (hw : hia h 275 6 = iI w) (ht : hia h 275 5 = iI tm) (hm : hia h 275 4 = iI md) (he : EOK (eMs k f t dd w tm md)) (Q : RT) (kk : ∀ h', MK h h' → Q (some (.int (nI (jRankO Lo (eMs k f t dd w tm md))))) h') : callD (d + 5) 198 [.ref 273] h Q := by
  obtain ⟨m1, m2, m3, m4, -, -, -, -, -, -, m5, m6, m7, -⟩ := hM.jud
  have rw' : -2147483648 ≤ w ∧ w < 2147483648 := by have q : -1 ≤ w ∧ w ≤ 10000 := he 4; omega
  have rt : -2147483648 ≤ tm ∧ tm < 2147483648 := by have q : -1 ≤ tm ∧ tm ≤ 10000 := he 5; omega
  have rm : -2147483648 ≤ md ∧ md < 2147483648 := by have q : -1 ≤ md ∧ md ≤ 10000 := he 6; omega
  obtain ⟨x, bx, x1, x2⟩ := tlO_0 hF he
  rw [E_Mo_rankOf]
  simp (disch := omega) only [U_Mo_rankOf (cm _), SA, SB, SC1, SC2, SG, SV, SK, m1, m2, m3, m4, m5, m6, m7, hw, ht, hm, iI_j rw', iI_j rt, iI_j rm, nI_clamp, in_eq, up1_s, up1_n, Nat.reduceLeDiff, true_and]
  rw [show up1 (up1 (up1 (hja h 291) 5 (jI w)) 6 (jI tm)) 7 (jI md) = fsl (fsm b (jI k) (jI f) (jI t) (jI dd)) (jI w) (jI tm) (jI md) by rw [hb]; rfl]
  refine m_tells d 0 (by omega) (h := sJA h 291 (fsl (fsm b (jI k) (jI f) (jI t) (jI dd)) (jI w) (jI tm) (jI md))) hM ho hF he ⟨fun _ n hn => ?_, fun z => by omega⟩ (lN 0) _ (fun h' m => ?_)
  · show up1 (hja h) 291 _ 291 (n + 1) = _
    rw [up1_s]; exact fs_ok n hn
  · have K := kk h' ((MK.set h _).trans m)
    rw [x2] at K
    rw [x1]
    simp only [UC_Mo_rankOf_49 (cm _), SA, SB, SV]
    rw [clp_j bx]
    exact K
theorem fsm_l {b : Nat → Int64} {k f t d w tm md : Int64} : up1 (up1 (up1 (fsm b k f t d) 5 w) 6 tm) 7 md = fsl (fsm b k f t d) w tm md := rfl
theorem m_rank (dd i k f t d w tm md : Nat) {Lo : Option LWS} {h : MH} (hM : MoS h) (ho : hfi h 273 20 = nI 0) (hF : FO (hia h 275) Lo) (hm : MV (hia h 275) i k f t d) (hi : i < 460) (hw : hia h 275 6 = nI w) (ht : hia h 275 5 = nI tm) (hmd : hia h 275 4 = nI md) (w1 : w ≤ 1000) (t1 : tm ≤ 999) (m1 : md ≤ 9) (Q : RT) (kk : ∀ h', MK h h' → Q (some (.int (nI (jRankO Lo (eMs k f t d w tm md))))) h') : callD (dd + 6) 197 [.ref 273, .int (nI i)] h Q := by
  obtain ⟨q1, q2, q3, q4, e1, e2, e3, e4⟩ := hm
  obtain ⟨n1, n2, n3, n4, -, -, -, -, -, -, n5, n6, n7, -⟩ := hM.jud
  have he : EOK (eMs (k : Int) f t d w tm md) := eMs_ok (by omega) (by omega) (by omega) (by omega) (by omega) (by omega) (by omega)
  have Y := m_rankOf dd (h := sJA h 291 (fsm (hja h 291) (jI (k : Int)) (jI (f : Int)) (jI (t : Int)) (jI (d : Int)))) (Lo := Lo) hM ho hF (k := k) (f := f) (t := t) (dd := d) (w := w) (tm := tm) (md := md) (b := hja h 291) (up1_s (hja h) 291 _) (by rw [iI_n]; exact hw) (by rw [iI_n]; exact ht) (by rw [iI_n]; exact hmd) he
  rw [jI_n, jI_n, jI_n, jI_n] at Y
  have kk' : ∀ h', MK (sJA h 291 (fsm (hja h 291) (lN k) (lN f) (lN t) (lN d))) h' → Q (some (.int (nI (jRankO Lo (eMs k f t d w tm md))))) h' := fun h' m => kk h' ((MK.set h _).trans m)
  unfold fsm at Y kk'
  rw [E_Mo_rank]
  simp (disch := omega) only [U_Mo_rank (cm _), SA, SB, SC1, SC2, SG, SV, e_messageAt]
  rw [U_Mo_rank_7 (cm _)]
  simp (disch := omega) only [U_Mo_rank (cm _), SA, SB, SC1, SC2, SG, SV, n1, n2, n3, n4, n5, n6, n7, e1, leI, nI_add, Nat.add_zero, nI_l, nI_clamp, in_eq, Nat.zero_add, Nat.reduceLeDiff, Nat.reduceAdd, true_implies, not_true_eq_false, not_false_eq_true, false_implies, true_and, and_true]
  rw [U_Mo_rank_7 (cm _)]
  simp (disch := omega) only [U_Mo_rank (cm _), SA, SB, SC1, SC2, SG, SV, SK, n1, n2, n3, n4, n5, n6, n7, e2, leI, nI_add, Nat.add_zero, nI_l, nI_clamp, in_eq, up1_s, Nat.zero_add, Nat.reduceLeDiff, Nat.reduceAdd, true_implies, not_true_eq_false, not_false_eq_true, false_implies, true_and, and_true]
  rw [U_Mo_rank_7 (cm _)]
  simp (disch := omega) only [U_Mo_rank (cm _), SA, SB, SC1, SC2, SG, SV, SK, n1, n2, n3, n4, n5, n6, n7, e3, leI, nI_add, Nat.add_zero, nI_l, nI_clamp, in_eq, up1_s, Nat.zero_add, Nat.reduceLeDiff, Nat.reduceAdd, true_implies, not_true_eq_false, not_false_eq_true, false_implies, true_and, and_true]
  rw [U_Mo_rank_7 (cm _)]
  simp (disch := omega) only [U_Mo_rank (cm _), SA, SB, SC1, SC2, SG, SV, SK, n1, n2, n3, n4, n5, n6, n7, e4, leI, nI_add, Nat.add_zero, nI_l, nI_clamp, in_eq, up1_s, Nat.zero_add, Nat.reduceLeDiff, Nat.reduceAdd, true_implies, not_true_eq_false, not_false_eq_true, false_implies, true_and, and_true]
  rw [U_Mo_rank_7 (cm _)]
  simp (disch := omega) only [U_Mo_rank (cm _), SA, SB, SC1, SC2, SG, SV, SK, n1, leI, Nat.le_refl, true_implies, not_true_eq_false, not_false_eq_true, false_implies, true_and, and_true]
  refine Y _ (fun h' m => ?_)
  simp (disch := omega) only [U_Mo_rank (cm _), SA, SB, SV]
  exact kk' h' m
set_option maxRecDepth 20000 in
theorem UC_Mo_isBarred_81 {G : GT} (hG : Gmono G) (R : RT) (lm : Nat × Nat) : WP cd_Mo_isBarred G R lm 0 = stp G R lm (2, 1, 0, 0, 0, 0, []) (WP cd_Mo_isBarred G R lm) ∧ WP cd_Mo_isBarred G R lm 1 = stp G R lm (58, 4, 8, 35, 0, 0, []) (WP cd_Mo_isBarred G R lm) ∧ WP cd_Mo_isBarred G R lm 4 = stp G R lm (7, 5, 0, 0, nI 1, 0, []) (WP cd_Mo_isBarred G R lm) ∧ WP cd_Mo_isBarred G R lm 5 = stp G R lm (8, 8, 0, 0, 0, (-1), []) (WP cd_Mo_isBarred G R lm) ∧ WP cd_Mo_isBarred G R lm 8 = stp G R lm (68, 9, 0, 0, 0, 0, []) (WP cd_Mo_isBarred G R lm) ∧ WP cd_Mo_isBarred G R lm 9 = stp G R lm (2, 10, 0, 0, 0, 0, []) (WP cd_Mo_isBarred G R lm) ∧ WP cd_Mo_isBarred G R lm 10 = stp G R lm (58, 13, 8, 35, 0, 0, []) (WP cd_Mo_isBarred G R lm) ∧ WP cd_Mo_isBarred G R lm 13 = stp G R lm (7, 14, 0, 0, nI 2, 0, []) (WP cd_Mo_isBarred G R lm) ∧ WP cd_Mo_isBarred G R lm 14 = stp G R lm (1, 15, 1, 0, 0, 0, []) (WP cd_Mo_isBarred G R lm) ∧ WP cd_Mo_isBarred G R lm 15 = stp G R lm (33, 16, 0, 0, 0, 0, []) (WP cd_Mo_isBarred G R lm) ∧ WP cd_Mo_isBarred G R lm 16 = stp G R lm (68, 17, 0, 0, 0, 0, []) (WP cd_Mo_isBarred G R lm) ∧ WP cd_Mo_isBarred G R lm 17 = stp G R lm (2, 18, 0, 0, 0, 0, []) (WP cd_Mo_isBarred G R lm) ∧ WP cd_Mo_isBarred G R lm 18 = stp G R lm (58, 21, 8, 35, 0, 0, []) (WP cd_Mo_isBarred G R lm) ∧ WP cd_Mo_isBarred G R lm 21 = stp G R lm (7, 22, 0, 0, nI 3, 0, []) (WP cd_Mo_isBarred G R lm) ∧ WP cd_Mo_isBarred G R lm 22 = stp G R lm (1, 23, 2, 0, 0, 0, []) (WP cd_Mo_isBarred G R lm) ∧ WP cd_Mo_isBarred G R lm 23 = stp G R lm (33, 24, 0, 0, 0, 0, []) (WP cd_Mo_isBarred G R lm) ∧ WP cd_Mo_isBarred G R lm 24 = stp G R lm (68, 25, 0, 0, 0, 0, []) (WP cd_Mo_isBarred G R lm) ∧ WP cd_Mo_isBarred G R lm 25 = stp G R lm (2, 26, 0, 0, 0, 0, []) (WP cd_Mo_isBarred G R lm) ∧ WP cd_Mo_isBarred G R lm 26 = stp G R lm (58, 29, 8, 35, 0, 0, []) (WP cd_Mo_isBarred G R lm) ∧ WP cd_Mo_isBarred G R lm 29 = stp G R lm (7, 30, 0, 0, nI 4, 0, []) (WP cd_Mo_isBarred G R lm) ∧ WP cd_Mo_isBarred G R lm 30 = stp G R lm (1, 31, 3, 0, 0, 0, []) (WP cd_Mo_isBarred G R lm) ∧ WP cd_Mo_isBarred G R lm 31 = stp G R lm (33, 32, 0, 0, 0, 0, []) (WP cd_Mo_isBarred G R lm) ∧ WP cd_Mo_isBarred G R lm 32 = stp G R lm (68, 33, 0, 0, 0, 0, []) (WP cd_Mo_isBarred G R lm) ∧ WP cd_Mo_isBarred G R lm 33 = stp G R lm (2, 34, 0, 0, 0, 0, []) (WP cd_Mo_isBarred G R lm) ∧ WP cd_Mo_isBarred G R lm 34 = stp G R lm (58, 37, 8, 35, 0, 0, []) (WP cd_Mo_isBarred G R lm) ∧ WP cd_Mo_isBarred G R lm 37 = stp G R lm (7, 38, 0, 0, nI 5, 0, []) (WP cd_Mo_isBarred G R lm) ∧ WP cd_Mo_isBarred G R lm 38 = stp G R lm (2, 39, 0, 0, 0, 0, []) (WP cd_Mo_isBarred G R lm) ∧ WP cd_Mo_isBarred G R lm 39 = stp G R lm (58, 42, 8, 3, 0, 0, []) (WP cd_Mo_isBarred G R lm) ∧ WP cd_Mo_isBarred G R lm 42 = stp G R lm (7, 44, 0, 0, nI 6, 0, []) (WP cd_Mo_isBarred G R lm) ∧ WP cd_Mo_isBarred G R lm 44 = stp G R lm (62, 45, 0, 0, 0, 0, []) (WP cd_Mo_isBarred G R lm) ∧ WP cd_Mo_isBarred G R lm 45 = stp G R lm (33, 46, 0, 0, 0, 0, []) (WP cd_Mo_isBarred G R lm) ∧ WP cd_Mo_isBarred G R lm 46 = stp G R lm (68, 47, 0, 0, 0, 0, []) (WP cd_Mo_isBarred G R lm) ∧ WP cd_Mo_isBarred G R lm 47 = stp G R lm (2, 48, 0, 0, 0, 0, []) (WP cd_Mo_isBarred G R lm) ∧ WP cd_Mo_isBarred G R lm 48 = stp G R lm (58, 51, 8, 35, 0, 0, []) (WP cd_Mo_isBarred G R lm) ∧ WP cd_Mo_isBarred G R lm 51 = stp G R lm (7, 53, 0, 0, nI 6, 0, []) (WP cd_Mo_isBarred G R lm) ∧ WP cd_Mo_isBarred G R lm 53 = stp G R lm (2, 54, 0, 0, 0, 0, []) (WP cd_Mo_isBarred G R lm) ∧ WP cd_Mo_isBarred G R lm 54 = stp G R lm (58, 57, 8, 3, 0, 0, []) (WP cd_Mo_isBarred G R lm) ∧ WP cd_Mo_isBarred G R lm 57 = stp G R lm (7, 58, 0, 0, nI 5, 0, []) (WP cd_Mo_isBarred G R lm) ∧ WP cd_Mo_isBarred G R lm 58 = stp G R lm (62, 59, 0, 0, 0, 0, []) (WP cd_Mo_isBarred G R lm) ∧ WP cd_Mo_isBarred G R lm 59 = stp G R lm (33, 60, 0, 0, 0, 0, []) (WP cd_Mo_isBarred G R lm) ∧ WP cd_Mo_isBarred G R lm 60 = stp G R lm (68, 61, 0, 0, 0, 0, []) (WP cd_Mo_isBarred G R lm) ∧ WP cd_Mo_isBarred G R lm 61 = stp G R lm (2, 62, 0, 0, 0, 0, []) (WP cd_Mo_isBarred G R lm) ∧ WP cd_Mo_isBarred G R lm 62 = stp G R lm (58, 65, 8, 35, 0, 0, []) (WP cd_Mo_isBarred G R lm) ∧ WP cd_Mo_isBarred G R lm 65 = stp G R lm (7, 67, 0, 0, nI 7, 0, []) (WP cd_Mo_isBarred G R lm) ∧ WP cd_Mo_isBarred G R lm 67 = stp G R lm (2, 68, 0, 0, 0, 0, []) (WP cd_Mo_isBarred G R lm) ∧ WP cd_Mo_isBarred G R lm 68 = stp G R lm (58, 71, 8, 3, 0, 0, []) (WP cd_Mo_isBarred G R lm) ∧ WP cd_Mo_isBarred G R lm 71 = stp G R lm (7, 72, 0, 0, nI 4, 0, []) (WP cd_Mo_isBarred G R lm) ∧ WP cd_Mo_isBarred G R lm 72 = stp G R lm (62, 73, 0, 0, 0, 0, []) (WP cd_Mo_isBarred G R lm) ∧ WP cd_Mo_isBarred G R lm 73 = stp G R lm (33, 74, 0, 0, 0, 0, []) (WP cd_Mo_isBarred G R lm) ∧ WP cd_Mo_isBarred G R lm 74 = stp G R lm (68, 75, 0, 0, 0, 0, []) (WP cd_Mo_isBarred G R lm) ∧ WP cd_Mo_isBarred G R lm 75 = stp G R lm (2, 76, 0, 0, 0, 0, []) (WP cd_Mo_isBarred G R lm) ∧ WP cd_Mo_isBarred G R lm 76 = stp G R lm (7, 77, 0, 0, nI 1, 0, []) (WP cd_Mo_isBarred G R lm) ∧ WP cd_Mo_isBarred G R lm 77 = stp G R lm (8, 78, 0, 0, 0, lN 0, []) (WP cd_Mo_isBarred G R lm) ∧ WP cd_Mo_isBarred G R lm 78 = stp G R lm (86, 81, 196, 2, 0, 0, [8]) (WP cd_Mo_isBarred G R lm) ∧ WP cd_Mo_isBarred G R lm 82 = stp G R lm (35, 83, 0, 0, 0, 0, []) (WP cd_Mo_isBarred G R lm) ∧ WP cd_Mo_isBarred G R lm 83 = stp G R lm (48, 86, 90, 0, 0, 0, []) (WP cd_Mo_isBarred G R lm) ∧ WP cd_Mo_isBarred G R lm 86 = stp G R lm (7, 87, 0, 0, nI 1, 0, []) (WP cd_Mo_isBarred G R lm) ∧ WP cd_Mo_isBarred G R lm 87 = stp G R lm (40, 91, 0, 0, 0, 0, []) (WP cd_Mo_isBarred G R lm) ∧ WP cd_Mo_isBarred G R lm 90 = stp G R lm (7, 91, 0, 0, nI 0, 0, []) (WP cd_Mo_isBarred G R lm) ∧ WP cd_Mo_isBarred G R lm 91 = stp G R lm (81, 92, 1, 0, 0, 0, []) (WP cd_Mo_isBarred G R lm) := ⟨WP_eq hG rfl, WP_eq hG rfl, WP_eq hG rfl, WP_eq hG rfl, WP_eq hG rfl, WP_eq hG rfl, WP_eq hG rfl, WP_eq hG rfl, WP_eq hG rfl, WP_eq hG rfl, WP_eq hG rfl, WP_eq hG rfl, WP_eq hG rfl, WP_eq hG rfl, WP_eq hG rfl, WP_eq hG rfl, WP_eq hG rfl, WP_eq hG rfl, WP_eq hG rfl, WP_eq hG rfl, WP_eq hG rfl, WP_eq hG rfl, WP_eq hG rfl, WP_eq hG rfl, WP_eq hG rfl, WP_eq hG rfl, WP_eq hG rfl, WP_eq hG rfl, WP_eq hG rfl, WP_eq hG rfl, WP_eq hG rfl, WP_eq hG rfl, WP_eq hG rfl, WP_eq hG rfl, WP_eq hG rfl, WP_eq hG rfl, WP_eq hG rfl, WP_eq hG rfl, WP_eq hG rfl, WP_eq hG rfl, WP_eq hG rfl, WP_eq hG rfl, WP_eq hG rfl, WP_eq hG rfl, WP_eq hG rfl, WP_eq hG rfl, WP_eq hG rfl, WP_eq hG rfl, WP_eq hG rfl, WP_eq hG rfl, WP_eq hG rfl, WP_eq hG rfl, WP_eq hG rfl, WP_eq hG rfl, WP_eq hG rfl, WP_eq hG rfl, WP_eq hG rfl, WP_eq hG rfl, WP_eq hG rfl, WP_eq hG rfl⟩
theorem m_barred (d one other costs w tm md : Nat) {Lo : Option LWS} {h : MH} (hM : MoS h) (ho : hfi h 273 20 = nI 0) (hF : FO (hia h 275) Lo) (o1 : one < 7) (o2 : other < 7) (o3 : costs ≤ 50) (hw : hia h 275 6 = nI w) (ht : hia h 275 5 = nI tm) (hmd : hia h 275 4 = nI md) (w1 : w ≤ 1000) (t1 : tm ≤ 999) (m1 : md ≤ 9) (Q : RT) (kk : ∀ h', MK h h' → Q (some (.int (b01 (jBarO Lo (eMs (-1) one other costs w tm md) = true)))) h') : callD (d + 5) 199 [.ref 273, .int (nI one), .int (nI other), .int (nI costs)] h Q := by
  obtain ⟨n1, n2, n3, n4, -, -, -, -, -, -, n5, n6, n7, -⟩ := hM.jud
  have he : EOK (eMs (-1) (one : Int) other costs w tm md) := eMs_ok (by omega) (by omega) (by omega) (by omega) (by omega) (by omega) (by omega)
  have q1 : (-1 : Int64) = jI (-1) := by decide
  have Y := m_tells d 1 (by omega) (Lo := Lo) (h := sJA h 291 (fsl (fsm (hja h 291) (jI (-1)) (jI (one : Int)) (jI (other : Int)) (jI (costs : Int))) (jI (w : Int)) (jI (tm : Int)) (jI (md : Int)))) hM ho hF he ⟨fun _ n hn => by
    show up1 (hja h) 291 _ 291 (n + 1) = _
    rw [up1_s]; exact fs_ok n hn, fun z => by omega⟩ (lN 0)
  rw [tlO_1, jI_n, jI_n, jI_n, jI_n, jI_n, jI_n] at Y
  have kk' : ∀ h', MK (sJA h 291 (fsl (fsm (hja h 291) (jI (-1)) (lN one) (lN other) (lN costs)) (lN w) (lN tm) (lN md))) h' → Q (some (.int (b01 (jBarO Lo (eMs (-1) one other costs w tm md) = true)))) h' := fun h' m => kk h' ((MK.set h _).trans m)
  unfold fsl fsm at Y kk'
  rw [E_Mo_isBarred]
  simp (disch := omega) only [UC_Mo_isBarred_81 (cm _), SA, SB, SC1, SC2, SG, SV, SK, n1, n2, n3, n4, n5, n6, n7, hw, ht, hmd, q1, nI_l, nI_clamp, in_eq, up1_s, up1_n, Nat.reduceLeDiff, true_and]
  refine Y _ (fun h' m => ?_)
  have K := kk' h' m
  have b10 : ¬ jI 0 = jI 1 := by decide
  by_cases c : jBarO Lo (eMs (-1) (one : Int) other costs w tm md) = true
  · rw [b01_t c] at K
    rw [if_pos c]
    simp (disch := omega) only [↓SL, LC, U_Mo_isBarred (cm _), SA, SB, SV, jI1, true_implies, not_true_eq_false, not_false_eq_true, false_implies, true_and, and_true, or_true]
    exact K
  · rw [b01_f c] at K
    rw [if_neg c]
    simp (disch := omega) only [↓SL, LC, U_Mo_isBarred (cm _), SA, SB, SV, jI1, b10, true_implies, not_true_eq_false, not_false_eq_true, false_implies, true_and, and_true, true_or]
    exact K
