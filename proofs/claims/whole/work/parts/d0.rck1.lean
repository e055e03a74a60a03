/-! ===== reckoning of orders: what law is in force does not matter ===== -/
theorem r_read1 (d om lb k o b : Nat) (hom : om = 0 ∨ om = 1) {h : MH} (hM : MoS h) (ho : hfi h 273 20 = nI om) (hl : om = 0 → hfi h 273 34 = nI lb) (hlb : lb ≤ 6522) (hm : mcode h om lb k o b) (Q : RT) (lm : Nat × Nat) (fi la n : Int32) (w5 w6 : Option Value) (f : Nat → Int64) :
    WP cd_Mo_reckonAll (callD d) Q lm 23 [] [some (.ref 273), some (.int fi), some (.int la), some (.int n), some (.int (nI k)), w5, w6] (sJA h 293 f) = WP cd_Mo_reckonAll (callD d) Q lm 97 [] [some (.ref 273), some (.int fi), some (.int la), some (.int n), some (.int (nI k)), some (.int (nI o)), some (.int (nI b))] (sJA h 293 f) := by
  obtain ⟨m1, m2, m3, m4, m5, m6, m7, m8, m9, m10, -⟩ := hM.jud
  obtain ⟨hk, ⟨rfl, q1, q2⟩ | ⟨rfl, q1, q2⟩⟩ := hm
  · simp (disch := omega) only [UC_Mo_reckonAll_97 (cm _), SA, SB, SG, SV, m1, m5, m6, m7, m8, m9, m10, ho, q1, q2, eqI, nI_clamp, in_eq, Nat.one_ne_zero, true_implies, not_true_eq_false, not_false_eq_true, false_implies, true_and, and_true]
  · simp (disch := omega) only [UC_Mo_reckonAll_97 (cm _), SA, SB, SG, SV, m1, m2, m3, m4, ho, hl rfl, q1, q2, eqI, pk_mul, nI_add, nI_clamp, in_eq, true_implies, not_true_eq_false, not_false_eq_true, false_implies, true_and, and_true]
set_option maxHeartbeats 8000000 in
theorem m_l_reck1 (d om lb i0 la : Nat) (hom : om = 0 ∨ om = 1) {h : MH} (hM : MoS h) (ho : hfi h 273 20 = nI om) (hl : om = 0 → hfi h 273 34 = nI lb) (hlb : lb ≤ 6522) (hb0 : hfi h 273 38 = nI 0) (hla : la ≤ 400) {ins : INS} {e : EV} (he : EOK e) (hC : MC h om lb ins i0 la) (hE : ME h om e) (Q : RT) (lm : Nat × Nat) (fi : Int32) (r : Option (Nat × List Int)) (k1 : r = none → ∀ h', MJ h h' → hfi h' 273 38 = nI 1 → Q none h')
    (k2 : ∀ k s, r = some (k, s) → k = la ∧ ∃ x, s = [x] ∧ ∀ h', MJ h h' → hfi h' 273 38 = nI 0 → hfj h' 273 39 = jI x → Q none h') :
    ∀ (n k : Nat) (s : List Int) (f : Nat → Int64) (w5 w6 : Option Value), Go ins e i0 la 60 n k s r → StJ f s → WP cd_Mo_reckonAll (callD (d + 1)) Q lm 10 [] [some (.ref 273), some (.int fi), some (.int (nI la)), some (.int (nI s.length)), some (.int (nI k)), w5, w6] (sJA h 293 f)
  | 0, k, s, f, w5, w6, g, hs => by
    obtain ⟨rfl, x, rfl, kk⟩ := k2 k s g
    have e1 : sJA h 293 f = sFI (sJA h 293 f) 273 (up1 (hfi h 273) 38 (nI 0)) := by
      rw [up1_same hb0]; exact (sFI_id (sJA h 293 f) 273).symm
    rw [e1]
    refine r_end (d + 1) 0 k k (by omega) hla hla (nI 0) hM (Or.inl rfl) (Or.inr (Nat.le_refl _)) f fi w5 w6 Q lm (kk _ (MJ_of h f (nI 0) (f 0)) ?_ ?_)
    · show up1 (hfi h) 273 (up1 (hfi h 273) 38 (nI 0)) 273 38 = nI 0
      rw [up1_s, up1_s]
    · show up1 (hfj h) 273 (up1 (hfj h 273) 39 (f 0)) 273 39 = jI x
      rw [up1_s, up1_s]; exact hs.1
  | n + 1, k, s, f, w5, w6, g, hs => by
    obtain ⟨⟨⟨p1, p2⟩, p3, p4, p5, p6, p7, p8, p9⟩, g⟩ := g
    have IH := fun k s f w5 w6 => m_l_reck1 d om lb i0 la hom hM ho hl hlb hb0 hla he hC hE Q lm fi r k1 k2 n k s f w5 w6
    obtain ⟨o, b, o30, b1000, hw, hcode, hin⟩ := hC k p1 p2
    have RD := r_read1 (d + 1) om lb k o b hom hM ho hl hlb hcode Q lm fi (nI la) (nI s.length) w5 w6 f
    obtain ⟨m1, m2, m3, m4, -, -, -, -, -, -, m5, m6, m7, m8, m9, m10, m11, m12, m13⟩ := hM.jud
    have hkl : ¬ la ≤ k := by omega
    have eid : ∀ f, sFI (sJA h 293 f) 273 (up1 (hfi h 273) 38 (nI 0)) = sJA h 293 f := fun f => by rw [up1_same hb0]; exact sFI_id (sJA h 293 f) 273
    rw [U_Mo_reckonAll_10 (cm _)]
    simp (disch := omega) only [↓RD, UC_Mo_reckonAll_97 (cm _), SA, SB, SG, SV, m1, leI, hkl, hb0, true_implies, not_true_eq_false, not_false_eq_true, false_implies, true_and, and_true]
    by_cases c20 : o < 20
    · have n20 : ¬ 20 ≤ o := by omega
      have push : ∀ z : Int, ins k = (1, z.toNat) ∧ 0 ≤ z ∨ (∃ w, ins k = (2, w) ∧ z = e w) → WP cd_Mo_reckonAll (callD (d + 1)) Q lm 10 [] [some (.ref 273), some (.int fi), some (.int (nI la)), some (.int (nI (s.length + 1))), some (.int (nI (k + 1))), some (.int (nI o)), some (.int (nI b))] (sJA h 293 (up1 f s.length (jI z))) := fun z hz => by
        have st : aStep ins e k s = some (k + 1, z :: s) := by
          rcases hz with ⟨hz, z0⟩ | ⟨w, hz, rfl⟩
          · unfold aStep; rw [hz]
            show some (k + 1, (z.toNat : Int) :: s) = _
            rw [Int.toNat_of_nonneg z0]
          · unfold aStep; rw [hz]; rfl
        rw [st] at g
        exact IH (k + 1) (z :: s) _ _ _ g ⟨by rw [up1_s], StJ_up hs (Nat.le_refl _)⟩
      by_cases c0 : o = 0
      · subst c0
        have P := push (b : Int) (Or.inl ⟨by rw [hin]; rfl, by omega⟩)
        rw [jI_n] at P
        simp (disch := omega) only [U_Mo_reckonAll (cm _), SA, SB, SG, SV, SK, m1, m11, m12, m13, leI, n20, nI_l, nI_add, nI_clamp, in_eq, up1_s, up1_n, up1_up1, Nat.reduceLeDiff, true_implies, not_true_eq_false, not_false_eq_true, false_implies, true_and, and_true]
        exact P
      · have c00 : ¬ nI o = nI 0 := by rw [eqI (by omega) (by omega)]; exact c0
        have hin2 : ins k = (2, if om = 0 then o - 1 else if o = 1 then 5 else if o = 2 then 7 else if o = 3 then 8 else if o = 4 then 4 else if o = 5 then 9 + b else 16 + b) := by
          rw [hin]; unfold dM; rw [if_neg c0, if_pos c20]
        rcases hom with rfl | rfl
        · have o7 := (hw (by omega) c20).1 rfl
          rw [if_pos rfl] at hin2
          have P := push (e (o - 1)) (Or.inr ⟨_, hin2, rfl⟩)
          have E1 := hE.1 rfl (o - 1) (by omega)
          rw [show o - 1 + 1 = o by omega] at E1
          simp (disch := omega) only [U_Mo_reckonAll (cm _), SA, SB, SG, SV, SK, m1, m5, m6, m7, m11, m12, m13, ho, E1, leI, n20, c00, nI_add, nI_clamp, in_eq, up1_s, up1_n, up1_up1, Nat.reduceLeDiff, true_implies, not_true_eq_false, not_false_eq_true, false_implies, true_and, and_true]
          exact P
        · obtain ⟨o6, b6⟩ := (hw (by omega) c20).2 rfl
          rw [if_neg (by omega)] at hin2
          obtain ⟨⟨E1, E2, E3, E4⟩, ER⟩ := hE.2 rfl
          by_cases u1 : o = 1
          · subst u1
            have P := push (e 5) (Or.inr ⟨_, hin2, rfl⟩)
            simp (disch := omega) only [U_Mo_reckonAll (cm _), SA, SB, SC1, SC2, SG, SV, SK, m1, m2, m3, m4, m5, m6, m7, m8, m9, m10, m11, m12, m13, ho, E1, e_routerAt, leI, eqI, Nat.one_ne_zero, iI_j, nI_add, nI_clamp, in_eq, up1_s, up1_n, up1_up1, Nat.reduceLeDiff, Nat.reduceEqDiff, true_implies, not_true_eq_false, not_false_eq_true, false_implies, true_and, and_true]
            exact P
          by_cases u2 : o = 2
          · subst u2
            have P := push (e 7) (Or.inr ⟨_, hin2, rfl⟩)
            simp (disch := omega) only [U_Mo_reckonAll (cm _), SA, SB, SC1, SC2, SG, SV, SK, m1, m2, m3, m4, m5, m6, m7, m8, m9, m10, m11, m12, m13, ho, E2, e_routerAt, leI, eqI, Nat.one_ne_zero, iI_j, nI_add, nI_clamp, in_eq, up1_s, up1_n, up1_up1, Nat.reduceLeDiff, Nat.reduceEqDiff, true_implies, not_true_eq_false, not_false_eq_true, false_implies, true_and, and_true]
            exact P
          by_cases u3 : o = 3
          · subst u3
            have P := push (e 8) (Or.inr ⟨_, hin2, rfl⟩)
            simp (disch := omega) only [U_Mo_reckonAll (cm _), SA, SB, SC1, SC2, SG, SV, SK, m1, m2, m3, m4, m5, m6, m7, m8, m9, m10, m11, m12, m13, ho, E3, e_routerAt, leI, eqI, Nat.one_ne_zero, iI_j, nI_add, nI_clamp, in_eq, up1_s, up1_n, up1_up1, Nat.reduceLeDiff, Nat.reduceEqDiff, true_implies, not_true_eq_false, not_false_eq_true, false_implies, true_and, and_true]
            exact P
          by_cases u4 : o = 4
          · subst u4
            have P := push (e 4) (Or.inr ⟨_, hin2, rfl⟩)
            simp (disch := omega) only [U_Mo_reckonAll (cm _), SA, SB, SC1, SC2, SG, SV, SK, m1, m2, m3, m4, m5, m6, m7, m8, m9, m10, m11, m12, m13, ho, E4, e_routerAt, leI, eqI, Nat.one_ne_zero, iI_j, nI_add, nI_clamp, in_eq, up1_s, up1_n, up1_up1, Nat.reduceLeDiff, Nat.reduceEqDiff, true_implies, not_true_eq_false, not_false_eq_true, false_implies, true_and, and_true]
            exact P
          obtain ⟨F1, F2⟩ := ER b (by omega)
          have re := he (9 + b)
          have rf := he (16 + b)
          by_cases u5 : o = 5
          · subst u5
            have P := push (e (9 + b)) (Or.inr ⟨_, hin2, rfl⟩)
            simp (disch := omega) only [U_Mo_reckonAll (cm _), SA, SB, SC1, SC2, SG, SV, SK, m1, m2, m3, m4, m11, m12, m13, ho, F1, e_routerAt, leI, eqI, Nat.one_ne_zero, iI_j, nI_add, Nat.add_zero, nI_clamp, in_eq, up1_s, up1_n, up1_up1, Nat.reduceLeDiff, Nat.reduceEqDiff, true_implies, not_true_eq_false, not_false_eq_true, false_implies, true_and, and_true]
            exact P
          · have u6 : o = 6 := by omega
            subst u6
            have P := push (e (16 + b)) (Or.inr ⟨_, hin2, rfl⟩)
            simp (disch := omega) only [U_Mo_reckonAll (cm _), SA, SB, SC1, SC2, SG, SV, SK, m1, m2, m3, m4, m11, m12, m13, ho, F2, e_routerAt, leI, eqI, Nat.one_ne_zero, iI_j, nI_add, nI_clamp, in_eq, up1_s, up1_n, up1_up1, Nat.reduceLeDiff, Nat.reduceEqDiff, true_implies, not_true_eq_false, not_false_eq_true, false_implies, true_and, and_true]
            exact P
    · have n20 : 20 ≤ o := by omega
      have hin3 : ins k = if o < 28 then (o - 14, b) else if o = 28 then (3, b) else if o = 29 then (5, b) else (4, b) := by
        rw [hin]; unfold dM; rw [if_neg (by omega), if_neg c20]
      have hs1 := p8 (by rw [hin3]; split; · show 3 ≤ o - 14; omega
                         split; · show 3 ≤ 3; omega
                         split; · show 3 ≤ 5; omega
                         show 3 ≤ 4; omega)
      match s, hs1, hs, p3, p4, p9, g with
      | x :: t, _, hs, p3, p4, p9, g =>
      have bx := p4 x (List.mem_cons_self ..)
      have rx := bd_j bx
      obtain ⟨f1, hs2⟩ := hs
      rw [List.length_cons] at p3
      by_cases c28 : o < 28
      · have n28 : ¬ 28 ≤ o := by omega
        rw [if_pos c28] at hin3
        have hs3 := p9 (by rw [hin3]; show 6 ≤ o - 14; omega)
        match t, hs3, f1, hs2, p3, p4, g with
        | y :: t, _, f1, hs2, p3, p4, g =>
        have by' := p4 y (List.mem_cons_of_mem _ (List.mem_cons_self ..))
        obtain ⟨f2, hs4⟩ := hs2
        rw [List.length_cons] at p3 f1
        have st : aStep ins e k (x :: y :: t) = (aOp (o - 14) y x).map (fun z => (k + 1, z :: t)) := by
          unfold aStep
          rw [hin3]
          simp only
          rw [if_neg (by omega), if_neg (by omega), if_neg (by omega), if_neg (by omega), if_neg (by omega)]
        rw [st] at g
        have RK := e_reckon d (o - 14) (x := y) (y := x) (by omega) (by omega) by' bx (h := sJA h 293 f) m1 hb0
        rw [show o - 14 + 14 = o by omega] at RK
        have m1' : nI (t.length + 1 + 1) + (-1) = nI (t.length + 1) := dn_s (t.length + 1 + 1)
        have rr := rk_r (op := o - 14) by' bx
        have l1 := jI_le (x := -1000000000) (by omega) rr
        have l2 := jI_le rr (y := 1000000000) (by omega)
        have q1 : (-1000000000 : Int64) = jI (-1000000000) := by decide
        have q2 : lN 1000000000 = jI 1000000000 := by decide
        rw [aOp_rk] at g
        by_cases cz : (o - 14 = 9 ∨ o - 14 = 10) ∧ x = 0
        · rw [if_pos cz] at g
          simp only [if_pos cz] at RK
          have EN := r_end (d + 1) t.length (k + 1) la (by omega) hla (by omega) (nI 1) hM (Or.inr rfl) (Or.inl rfl) (up1 f t.length (jI 0)) fi (some (.int (nI o))) (some (.int (nI b))) Q lm (k1 g _ (MJ_of h _ _ _) (by show up1 (hfi h) 273 (up1 (hfi h 273) 38 (nI 1)) 273 38 = nI 1; rw [up1_s, up1_s]))
          simp (disch := omega) only [List.length_cons, U_Mo_reckonAll (cm _), SA, SB, SC1, SC2, SG, SV, SK, SM, m1, m11, m12, m13, m1', f1, f2, RK, leI, n20, n28, eqI, Nat.one_ne_zero, Nat.reduceLeDiff, pk_sub, Nat.add_sub_cancel, nI_add, nI_clamp, in_eq, up1_s, up1_n, up1_up1, true_implies, not_true_eq_false, not_false_eq_true, false_implies, true_and, and_true, true_or, or_true]
          exact EN
        · rw [if_neg cz] at g
          simp only [if_neg cz] at RK
          by_cases ci : -1000000000 ≤ rk (o - 14) y x ∧ rk (o - 14) y x ≤ 1000000000
          · rw [show cl (rk (o - 14) y x) = some (rk (o - 14) y x) from if_pos ci] at g
            have P := IH (k + 1) (rk (o - 14) y x :: t) (up1 f t.length (jI (rk (o - 14) y x))) (some (.int (nI o))) (some (.int (nI b))) g ⟨by rw [up1_s], StJ_up hs4 (Nat.le_refl _)⟩
            have bi : b01 (jI (-1000000000) ≤ jI (rk (o - 14) y x) ∧ jI (rk (o - 14) y x) ≤ jI 1000000000) = nI 1 := b01_t (by rw [l1, l2]; exact ci)
            simp (disch := omega) only [List.length_cons, U_Mo_reckonAll (cm _), SA, SB, SC1, SC2, SG, SV, SK, SM, m1, m11, m12, m13, m1', f1, f2, RK, e_in, q1, q2, bi, eid, hb0, leI, n20, n28, eqI, Nat.one_ne_zero, Nat.reduceLeDiff, pk_sub, Nat.add_sub_cancel, nI_add, nI_clamp, in_eq, up1_s, up1_n, up1_up1, true_implies, not_true_eq_false, not_false_eq_true, false_implies, true_and, and_true, true_or, or_true]
            exact P
          · rw [show cl (rk (o - 14) y x) = none from if_neg ci] at g
            have EN := r_end (d + 1) t.length (k + 1) la (by omega) hla (by omega) (nI 1) hM (Or.inr rfl) (Or.inl rfl) (up1 f t.length (jI (rk (o - 14) y x))) fi (some (.int (nI o))) (some (.int (nI b))) Q lm (k1 g _ (MJ_of h _ _ _) (by show up1 (hfi h) 273 (up1 (hfi h 273) 38 (nI 1)) 273 38 = nI 1; rw [up1_s, up1_s]))
            have bi : b01 (jI (-1000000000) ≤ jI (rk (o - 14) y x) ∧ jI (rk (o - 14) y x) ≤ jI 1000000000) = nI 0 := b01_f (by rw [l1, l2]; exact ci)
            simp (disch := omega) only [List.length_cons, U_Mo_reckonAll (cm _), SA, SB, SC1, SC2, SG, SV, SK, SM, m1, m11, m12, m13, m1', f1, f2, RK, e_in, q1, q2, bi, hb0, leI, n20, n28, eqI, Nat.one_ne_zero, Nat.reduceLeDiff, pk_sub, Nat.add_sub_cancel, nI_add, nI_clamp, in_eq, up1_s, up1_n, up1_up1, true_implies, not_true_eq_false, not_false_eq_true, false_implies, true_and, and_true, true_or, or_true]
            exact EN
      · have n28 : 28 ≤ o := by omega
        rw [if_neg c28] at hin3
        by_cases u28 : o = 28
        · subst u28
          have st : aStep ins e k (x :: t) = some (k + 1, (1 - x) :: t) := by unfold aStep; rw [hin3]; rfl
          rw [st] at g
          have P := IH (k + 1) ((1 - x) :: t) (up1 f t.length (jI (1 - x))) (some (.int (nI 28))) (some (.int (nI b))) g ⟨by rw [up1_s], StJ_up hs2 (Nat.le_refl _)⟩
          simp (disch := omega) only [List.length_cons, U_Mo_reckonAll (cm _), SA, SB, SC1, SC2, SG, SV, SK, SM, m1, m11, m12, m13, f1, jI1, jI_sub, leI, eqI, pk_sub, Nat.add_sub_cancel, nI_add, nI_clamp, in_eq, up1_s, up1_n, up1_up1, Nat.reduceLeDiff, true_implies, not_true_eq_false, not_false_eq_true, false_implies, true_and, and_true, true_or, or_true]
          exact P
        · rw [if_neg u28] at hin3
          have m1' : nI (t.length + 1) + (-1) = nI t.length := dn_s (t.length + 1)
          by_cases u29 : o = 29
          · subst u29
            rw [if_pos rfl] at hin3
            have hx0 := jI_eq rx (y := 0) (by omega)
            by_cases cx : x = 0
            · have st : aStep ins e k (x :: t) = some (b, x :: t) := by unfold aStep; rw [hin3]; show (if x = 0 then _ else _) = _; rw [if_pos cx]
              rw [st] at g
              have P := IH b (x :: t) f (some (.int (nI 29))) (some (.int (nI b))) g ⟨f1, hs2⟩
              rw [List.length_cons] at P
              simp (disch := omega) only [↓SL, LC, List.length_cons, U_Mo_reckonAll (cm _), SA, SB, SC1, SC2, SG, SV, SK, SM, m1, m11, m12, m13, f1, jI0, hx0, cx, leI, eqI, pk_sub, Nat.add_sub_cancel, nI_add, nI_clamp, in_eq, up1_s, up1_n, up1_up1, Nat.reduceLeDiff, Nat.reduceEqDiff, true_implies, not_true_eq_false, not_false_eq_true, false_implies, true_and, and_true, true_or, or_true]
              exact P
            · have st : aStep ins e k (x :: t) = some (k + 1, t) := by unfold aStep; rw [hin3]; show (if x = 0 then _ else _) = _; rw [if_neg cx]
              rw [st] at g
              have P := IH (k + 1) t f (some (.int (nI 29))) (some (.int (nI b))) g hs2
              simp (disch := omega) only [↓SL, LC, List.length_cons, U_Mo_reckonAll (cm _), SA, SB, SC1, SC2, SG, SV, SK, SM, m1, m11, m12, m13, m1', f1, jI0, hx0, cx, leI, eqI, pk_sub, Nat.add_sub_cancel, nI_add, nI_clamp, in_eq, up1_s, up1_n, up1_up1, Nat.reduceLeDiff, Nat.reduceEqDiff, true_implies, not_true_eq_false, not_false_eq_true, false_implies, true_and, and_true, true_or, or_true]
              exact P
          · have u30 : o = 30 := by omega
            subst u30
            rw [if_neg u29] at hin3
            have hx0 := jI_eq rx (y := 1) (by omega)
            by_cases cx : x = 1
            · have st : aStep ins e k (x :: t) = some (b, x :: t) := by unfold aStep; rw [hin3]; show (if x = 1 then _ else _) = _; rw [if_pos cx]
              rw [st] at g
              have P := IH b (x :: t) f (some (.int (nI 30))) (some (.int (nI b))) g ⟨f1, hs2⟩
              rw [List.length_cons] at P
              simp (disch := omega) only [↓SL, LC, List.length_cons, U_Mo_reckonAll (cm _), SA, SB, SC1, SC2, SG, SV, SK, SM, m1, m11, m12, m13, f1, jI1, hx0, cx, leI, eqI, pk_sub, Nat.add_sub_cancel, nI_add, nI_clamp, in_eq, up1_s, up1_n, up1_up1, Nat.reduceLeDiff, Nat.reduceEqDiff, true_implies, not_true_eq_false, not_false_eq_true, false_implies, true_and, and_true, true_or, or_true]
              exact P
            · have st : aStep ins e k (x :: t) = some (k + 1, t) := by unfold aStep; rw [hin3]; show (if x = 1 then _ else _) = _; rw [if_neg cx]
              rw [st] at g
              have P := IH (k + 1) t f (some (.int (nI 30))) (some (.int (nI b))) g hs2
              simp (disch := omega) only [↓SL, LC, List.length_cons, U_Mo_reckonAll (cm _), SA, SB, SC1, SC2, SG, SV, SK, SM, m1, m11, m12, m13, m1', f1, jI1, hx0, cx, leI, eqI, pk_sub, Nat.add_sub_cancel, nI_add, nI_clamp, in_eq, up1_s, up1_n, up1_up1, Nat.reduceLeDiff, Nat.reduceEqDiff, true_implies, not_true_eq_false, not_false_eq_true, false_implies, true_and, and_true, true_or, or_true]
              exact P
theorem m_reck1 (d om lb i la D : Nat) (hom : om = 0 ∨ om = 1) {h : MH} (hM : MoS h) (ho : hfi h 273 20 = nI om) (hl : om = 0 → hfi h 273 34 = nI lb) (hlb : lb ≤ 6522) (hla : la ≤ 400) {l : INS} {e : EV} {v : VAL} (he : EOK e) (hS : Seg l i la D v) (hD : D ≤ 60) (hC : MC h om lb l i la) (hE : ME h om e) (Q : RT) (k1 : v e = none → ∀ h', MJ h h' → hfi h' 273 38 = nI 1 → Q none h')
    (k2 : ∀ x, v e = some x → ∀ h', MJ h h' → hfi h' 273 38 = nI 0 → hfj h' 273 39 = jI x → Q none h') : callD (d + 2) 194 [.ref 273, .int (nI i), .int (nI la)] h Q := by
  obtain ⟨n, g⟩ := hS.2.2 l (fun _ _ _ => rfl) e [] he (fun x hx => by cases hx)
  have g := Go_wide (Nat.le_refl _) (Nat.le_refl _) (L' := 60) (by simp only [List.length_nil]; omega) _ _ _ _ g
  have lit := hS.1
  have B := MJ.b h (nI 0)
  have e20 : hfi (sFI h 273 (up1 (hfi h 273) 38 (nI 0))) 273 20 = nI om := (B.2.1 273 20 (by omega)).trans ho
  have e34 : om = 0 → hfi (sFI h 273 (up1 (hfi h 273) 38 (nI 0))) 273 34 = nI lb := fun z => (B.2.1 273 34 (by omega)).trans (hl z)
  have e38 : hfi (sFI h 273 (up1 (hfi h 273) 38 (nI 0))) 273 38 = nI 0 := by
    show up1 (hfi h) 273 (up1 (hfi h 273) 38 (nI 0)) 273 38 = nI 0
    rw [up1_s, up1_s]
  have Y := m_l_reck1 d om lb i la hom (h := sFI h 273 (up1 (hfi h 273) 38 (nI 0))) (B.S hM) e20 e34 hlb e38 hla he hC hE Q (hcc h, hcu h) (nI i) ((v e).map (fun x => (la, [x]))) (fun z h' m b => by
    cases hv : v e with
    | none => exact k1 hv h' (B.trans m) b
    | some x => rw [hv] at z; cases z) (fun k s z => by
    cases hv : v e with
    | none => rw [hv] at z; cases z
    | some x =>
      rw [hv] at z
      cases z
      exact ⟨rfl, x, rfl, fun h' m b q => k2 x hv h' (B.trans m) b q⟩) n i [] (hja h 293) none none g trivial
  rw [show sJA (sFI h 273 (up1 (hfi h 273) 38 (nI 0))) 293 (hja h 293) = sFI h 273 (up1 (hfi h 273) 38 (nI 0)) from sJA_id (sFI h 273 (up1 (hfi h 273) 38 (nI 0))) 293] at Y
  rw [E_Mo_reckonAll]
  simp (disch := omega) only [U_Mo_reckonAll (cm _), SA, SB, SG, SV, hM.1, true_or, true_and]
  exact Y
