/-! ===== the program's value of an expression ===== -/
def JS (h : MH) (j fa sk : Nat) : Prop := (hkd h j = 1 ∧ hfr h j 0 = some fa ∧ hkd h fa = 20 ∧ hln h fa = 23 ∧ hfr h j 1 = some sk ∧ hkd h sk = 20 ∧ hln h sk = 64) ∧ 24 ≤ sk ∧ 24 ≤ fa ∧ ¬ fa = sk
def Stk (f : Nat → Int32) : List Int → Prop
  | [] => True
  | x :: r => f r.length = iI x ∧ Stk f r
theorem Stk_up {f : Nat → Int32} {k : Nat} {x : Int32} : ∀ {s : List Int}, Stk f s → s.length ≤ k → Stk (up1 f k x) s
  | [], _, _ => trivial
  | y :: r, h, hk => ⟨by rw [up1_n _ _ (by rw [List.length_cons] at hk; omega)]; exact h.1, Stk_up h.2 (by rw [List.length_cons] at hk; omega)⟩
def XC (cf : Nat → Int32) (ins : INS) (i j : Nat) (W : Nat → Prop) : Prop := ∀ k, i ≤ k → k < j → cf k = nI ((ins k).1 * 4096 + (ins k).2) ∧ (ins k).2 < 4096 ∧ ((ins k).1 = 2 → W (ins k).2)
theorem dn_p (m : Nat) : dn m + nI 1 = nI m := by
  cases m with
  | zero => decide
  | succ m => rw [dn_1, nI_add]
theorem e_max (d : Nat) (x y : Int32) (h : MH) (Q : RT) : callD (d + 1) 252 [.int x, .int y] h Q = Q (some (.int (if x < y then y else x))) h := by
  rw [E_J_max]
  by_cases c : x < y <;> simp only [U_J_max (cm _), SA, SB, SG, SV, c, if_true, if_false, true_implies, not_true_eq_false, not_false_eq_true, false_implies, and_true, true_and]
theorem dec_op {o a : Nat} (ho : o ≤ 13) (ha : a < 4096) : nI (o * 4096 + a) >>> (nI 12 &&& 31) = nI o := by
  rw [pk_shrN (by omega) (nI 12 &&& 31) 12 (by decide), show (o * 4096 + a) / 2 ^ 12 = o by omega]
theorem dec_ar {o a : Nat} (ho : o ≤ 13) (ha : a < 4096) : nI (o * 4096 + a) &&& nI 4095 = nI a := by
  rw [pk_andN (by omega) 12 (by decide), show (o * 4096 + a) % 2 ^ 12 = a by omega]
theorem dn_m (m : Nat) : nI m - nI 1 = dn m := by
  cases m with
  | zero => decide
  | succ m => rw [dn_1]; exact nI_pred m
theorem max_i {k b : Nat} (h : k < b) : (if k < b - 1 then nI (b - 1) else nI k) = nI (b - 1) := by
  by_cases c : k < b - 1
  · rw [if_pos c]
  · rw [if_neg c, show k = b - 1 by omega]
theorem iI1 : iI 1 = nI 1 := iI_n 1
theorem iI0 : iI 0 = nI 0 := iI_n 0
theorem bd_r {x : Int} (h : bd x) : -2147483648 ≤ x ∧ x < 2147483648 := ⟨by have := h.1; omega, by have := h.2; omega⟩
set_option maxHeartbeats 4000000 in
theorem x_l_value (d j a c fa sk N i0 j0 : Nat) {h : MH} (hJ : JS h j fa sk) (hc1 : hkd h c = 20) (hc2 : hln h c = N) (hN : N ≤ 1000) (hj0 : j0 ≤ N) (hcs : ¬ c = sk) {ins : INS} {e : EV} (he : EOK e) (hX : XC (hia h c) ins i0 j0 (fun k => k < 23 ∧ hia h fa k = iI (e k))) (Q : RT) (lm : Nat × Nat) (at' : Int32) (r : Option (Nat × List Int)) (k1 : r = none → ∀ f, Q (some (.int (nI 2000000000))) (sIA h sk f))
    (k2 : ∀ k s, r = some (k, s) → ∀ f w6 w7 w8, Stk f s → WP cd_Ju_value (callD (d + 1)) Q lm 17 [] [some (.ref j), some (.ref a), some (.int at'), some (.ref c), some (.int (dn s.length)), some (.int (nI k)), w6, w7, w8] (sIA h sk f)) :
    ∀ (n k : Nat) (s : List Int) (f : Nat → Int32) (w6 w7 w8 : Option Value), Go ins e i0 j0 60 n k s r → Stk f s → WP cd_Ju_value (callD (d + 1)) Q lm 17 [] [some (.ref j), some (.ref a), some (.int at'), some (.ref c), some (.int (dn s.length)), some (.int (nI k)), w6, w7, w8] (sIA h sk f)
  | 0, k, s, f, w6, w7, w8, g, hs => k2 k s g f w6 w7 w8 hs
  | n + 1, k, s, f, w6, w7, w8, g, hs => by
    obtain ⟨⟨⟨p1, p2⟩, p3, p4, p5, p6, p7, p8, p9⟩, g⟩ := g
    have IH := fun k s f w6 w7 w8 => x_l_value d j a c fa sk N i0 j0 hJ hc1 hc2 hN hj0 hcs he hX Q lm at' r k1 k2 n k s f w6 w7 w8
    obtain ⟨sj, j24, f24, hfs⟩ := hJ
    obtain ⟨x1, x2, x3⟩ := hX k p1 p2
    have hkN : ¬ N ≤ k := by omega
    have d1 := dec_op p6 x2
    have d2 := dec_ar p6 x2
    rw [U_Ju_value_17 (cm _)]
    generalize hi : ins k = w at *
    obtain ⟨o, b⟩ := w
    simp only at p5 p6 p7 p8 p9 x1 x2 x3 d1 d2 g
    by_cases o1 : o = 1
    · subst o1
      have st : aStep ins e k s = some (k + 1, (b : Int) :: s) := by unfold aStep; rw [hi]; rfl
      rw [st] at g
      have R := IH _ _ (up1 f s.length (nI b)) (some (.int (nI 1))) (some (.int (nI b))) w8 g ⟨by rw [up1_s]; exact (iI_n b).symm, Stk_up hs (Nat.le_refl _)⟩
      rw [List.length_cons, dn_1] at R
      simp (disch := omega) only [U_Ju_value (cm _), SA, SB, SG, SV, SK, sj, hc1, hc2, hkN, hcs, x1, d1, d2, dn_p, leI, ltI, eqI, nI_clamp, nI_add, in_eq, j24, up1_s, up1_n, up1_up1, show ¬ 64 ≤ s.length by omega, Nat.reduceLeDiff, Nat.reduceEqDiff, true_implies, not_true_eq_false, not_false_eq_true, false_implies, true_and, and_true]
      exact R
    by_cases o2 : o = 2
    · subst o2
      have st : aStep ins e k s = some (k + 1, e b :: s) := by unfold aStep; rw [hi]; rfl
      rw [st] at g
      obtain ⟨y1, y2⟩ := x3 rfl
      have R := IH _ _ (up1 f s.length (iI (e b))) (some (.int (nI 2))) (some (.int (nI b))) w8 g ⟨by rw [up1_s], Stk_up hs (Nat.le_refl _)⟩
      rw [List.length_cons, dn_1] at R
      simp (disch := omega) only [U_Ju_value (cm _), SA, SB, SG, SV, SK, sj, hc1, hc2, hkN, hcs, hfs, x1, d1, d2, y1, y2, dn_p, leI, ltI, eqI, nI_clamp, nI_add, in_eq, j24, up1_s, up1_n, up1_up1, show ¬ 64 ≤ s.length by omega, Nat.reduceLeDiff, Nat.reduceEqDiff, true_implies, not_true_eq_false, not_false_eq_true, false_implies, true_and, and_true]
      exact R
    have hs1 := p8 (by omega)
    match s, hs1, hs, p3, p4, p9, g with
    | x :: t, _, hs, p3, p4, p9, g =>
    have bx := p4 x (List.mem_cons_self ..)
    have rx := bd_r bx
    obtain ⟨f1, hs2⟩ := hs
    rw [List.length_cons] at p3
    have lt0 : ¬ t.length < 0 := by omega
    by_cases o3 : o = 3
    · subst o3
      have st : aStep ins e k (x :: t) = some (k + 1, (1 - x) :: t) := by unfold aStep; rw [hi]; rfl
      rw [st] at g
      have e1 : nI 1 - iI x = iI (1 - x) := by rw [← iI_sub]; rfl
      have R := IH _ _ (up1 f t.length (iI (1 - x))) (some (.int (nI 3))) (some (.int (nI b))) w8 g ⟨by rw [up1_s], Stk_up hs2 (Nat.le_refl _)⟩
      rw [List.length_cons, dn_1] at R
      simp (disch := omega) only [List.length_cons, dn_1, U_Ju_value (cm _), SA, SB, SG, SV, SK, sj, hc1, hc2, hkN, hcs, x1, d1, d2, f1, e1, lt0, leI, ltI, eqI, nI_clamp, nI_add, in_eq, j24, up1_s, up1_n, up1_up1, Nat.reduceLeDiff, Nat.reduceEqDiff, true_implies, not_true_eq_false, not_false_eq_true, false_implies, true_and, and_true]
      exact R
    by_cases o4 : o = 4
    · subst o4
      obtain ⟨q1, q2⟩ := p7 (Or.inl rfl)
      have hx1 := iI_eq rx (y := 1) (by omega)
      rw [show iI 1 = nI 1 from iI_n 1] at hx1
      by_cases cx : x = 1
      · have st : aStep ins e k (x :: t) = some (b, x :: t) := by unfold aStep; rw [hi]; show (if x = 1 then _ else _) = _; rw [if_pos cx]
        rw [st] at g
        have R := IH _ _ f (some (.int (nI 4))) (some (.int (nI b))) (some (.int (nI 1))) g ⟨f1, hs2⟩
        rw [List.length_cons, dn_1] at R
        simp (disch := omega) only [List.length_cons, dn_1, U_Ju_value (cm _), SA, SB, SC1, SC2, SG, SV, SK, sj, hc1, hc2, hkN, hcs, x1, d1, d2, f1, cx, iI1, iI0, lt0, e_max, pk_sub, max_i, leI, ltI, eqI, nI_clamp, nI_add, in_eq, j24, up1_s, up1_n, up1_up1, Nat.reduceLeDiff, Nat.reduceEqDiff, true_implies, not_true_eq_false, not_false_eq_true, false_implies, true_and, and_true]
        rw [show b - 1 + 1 = b by omega]
        exact R
      · have st : aStep ins e k (x :: t) = some (k + 1, t) := by unfold aStep; rw [hi]; show (if x = 1 then _ else _) = _; rw [if_neg cx]
        rw [st] at g
        have R := IH _ _ f (some (.int (nI 4))) (some (.int (nI b))) (some (.int (nI 0))) g hs2
        simp (disch := omega) only [List.length_cons, dn_1, U_Ju_value (cm _), SA, SB, SC1, SC2, SG, SV, SK, sj, hc1, hc2, hkN, hcs, x1, d1, d2, f1, hx1, cx, lt0, dn_m, leI, ltI, eqI, nI_clamp, nI_add, in_eq, j24, up1_s, up1_n, up1_up1, Nat.reduceLeDiff, Nat.reduceEqDiff, true_implies, not_true_eq_false, not_false_eq_true, false_implies, true_and, and_true]
        exact R
    by_cases o5 : o = 5
    · subst o5
      obtain ⟨q1, q2⟩ := p7 (Or.inr rfl)
      have hx1 := iI_eq rx (y := 0) (by omega)
      rw [show iI 0 = nI 0 from iI_n 0] at hx1
      by_cases cx : x = 0
      · have st : aStep ins e k (x :: t) = some (b, x :: t) := by unfold aStep; rw [hi]; show (if x = 0 then _ else _) = _; rw [if_pos cx]
        rw [st] at g
        have R := IH _ _ f (some (.int (nI 5))) (some (.int (nI b))) (some (.int (nI 1))) g ⟨f1, hs2⟩
        rw [List.length_cons, dn_1] at R
        simp (disch := omega) only [List.length_cons, dn_1, U_Ju_value (cm _), SA, SB, SC1, SC2, SG, SV, SK, sj, hc1, hc2, hkN, hcs, x1, d1, d2, f1, cx, iI1, iI0, lt0, e_max, pk_sub, max_i, leI, ltI, eqI, nI_clamp, nI_add, in_eq, j24, up1_s, up1_n, up1_up1, Nat.reduceLeDiff, Nat.reduceEqDiff, true_implies, not_true_eq_false, not_false_eq_true, false_implies, true_and, and_true]
        rw [show b - 1 + 1 = b by omega]
        exact R
      · have st : aStep ins e k (x :: t) = some (k + 1, t) := by unfold aStep; rw [hi]; show (if x = 0 then _ else _) = _; rw [if_neg cx]
        rw [st] at g
        have R := IH _ _ f (some (.int (nI 5))) (some (.int (nI b))) (some (.int (nI 0))) g hs2
        simp (disch := omega) only [List.length_cons, dn_1, U_Ju_value (cm _), SA, SB, SC1, SC2, SG, SV, SK, sj, hc1, hc2, hkN, hcs, x1, d1, d2, f1, hx1, cx, lt0, dn_m, leI, ltI, eqI, nI_clamp, nI_add, in_eq, j24, up1_s, up1_n, up1_up1, Nat.reduceLeDiff, Nat.reduceEqDiff, true_implies, not_true_eq_false, not_false_eq_true, false_implies, true_and, and_true]
        exact R
    have hs3 := p9 (by omega)
    match t, hs3, f1, hs2, p3, p4, lt0, g with
    | y :: t, _, f1, hs2, p3, p4, lt0, g =>
    have by' := p4 y (List.mem_cons_of_mem _ (List.mem_cons_self ..))
    obtain ⟨f2, hs4⟩ := hs2
    rw [List.length_cons] at p3 f1 lt0
    have st : aStep ins e k (x :: y :: t) = (aOp o y x).map (fun z => (k + 1, z :: t)) := by
      unfold aStep
      rw [hi]
      simp only
      rw [if_neg o1, if_neg o2, if_neg o3, if_neg o4, if_neg o5]
    rw [st] at g
    have jj := x_joins d o (by omega) p6 by' bx
    have ob : vI none = nI 2000000000 := rfl
    cases h3 : aOp o y x with
    | none =>
      rw [h3] at g jj
      simp (disch := omega) only [List.length_cons, dn_1, U_Ju_value (cm _), SA, SB, SC1, SC2, SG, SV, SK, sj, hc1, hc2, hkN, hcs, x1, d1, d2, f1, f2, lt0, jj, ob, o1, o2, o3, o4, o5, show ¬ o = 0 by omega, show 1 ≤ t.length + 1 by omega, pk_sub, Nat.add_sub_cancel, leI, ltI, eqI, nI_clamp, nI_add, in_eq, j24, up1_s, up1_n, up1_up1, Nat.reduceLeDiff, Nat.reduceEqDiff, true_implies, not_true_eq_false, not_false_eq_true, false_implies, true_and, and_true]
      exact k1 g f
    | some z =>
      rw [h3] at g jj
      have bz := aOp_bd h3
      have nz : ¬ iI z = nI 2000000000 := fun q => by
        have := iI_eq (bd_r bz) (y := 2000000000) (by omega)
        rw [show iI 2000000000 = nI 2000000000 from iI_n 2000000000] at this
        rw [this] at q
        have := bz.2
        omega
      have R := IH _ _ (up1 f t.length (iI z)) (some (.int (nI o))) (some (.int (nI b))) (some (.int (iI z))) g ⟨by rw [up1_s], Stk_up hs4 (Nat.le_refl _)⟩
      rw [List.length_cons, dn_1] at R
      have m1 : nI (t.length + 1) + (-1) = nI t.length := dn_s (t.length + 1)
      simp (disch := omega) only [List.length_cons, dn_1, U_Ju_value (cm _), SA, SB, SC1, SC2, SG, SV, SK, sj, hc1, hc2, hkN, hcs, x1, d1, d2, f1, f2, lt0, jj, vI, nz, m1, o1, o2, o3, o4, o5, show ¬ o = 0 by omega, show 1 ≤ t.length + 1 by omega, pk_sub, Nat.add_sub_cancel, leI, ltI, eqI, nI_clamp, nI_add, in_eq, j24, up1_s, up1_n, up1_up1, Nat.reduceLeDiff, Nat.reduceEqDiff, true_implies, not_true_eq_false, not_false_eq_true, false_implies, true_and, and_true]
      exact R
/-- a program's code at c, its length N: the expression from i on, its end (STOP) at j -/
theorem x_value (d j a c fa sk N i t D : Nat) {h : MH} (hJ : JS h j fa sk) (ha : hkd h a = 3 ∧ hfr h a 0 = some c) (hc1 : hkd h c = 20) (hc2 : hln h c = N) (hN : N ≤ 1000) (hcs : ¬ c = sk) {l : INS} {e : EV} {v : VAL} (he : EOK e) (hS : Seg l i t D v) (hD : D ≤ 60) (ht : t < N) (hst : hia h c t = nI 0) (hX : XC (hia h c) l i t (fun k => k < 23 ∧ hia h fa k = iI (e k))) (Q : RT) (kk : ∀ f, Q (some (.int (vI (v e)))) (sIA h sk f)) : callD (d + 2) 14 [.ref j, .ref a, .int (nI i)] h Q := by
  obtain ⟨n, g⟩ := hS.2.2 l (fun _ _ _ => rfl) e [] he (fun x hx => by cases hx)
  have g := Go_wide (Nat.le_refl _) (Nat.le_refl _) (L' := 60) (by simp only [List.length_nil]; omega) _ _ _ _ g
  have lit := hS.1
  have i0 : ¬ i < 0 := by omega
  have Y := x_l_value d j a c fa sk N i t hJ hc1 hc2 hN (by omega) hcs he hX Q (hcc h, hcu h) (nI i) ((v e).map (fun x => (t, [x]))) (fun z f => by
    cases hv : v e with
    | none => have := kk f; rw [hv] at this; exact this
    | some x => rw [hv] at z; cases z) (fun k s z f w6 w7 w8 hs => by
    cases hv : v e with
    | none => rw [hv] at z; cases z
    | some x =>
      rw [hv] at z
      cases z
      obtain ⟨sj, j24, f24, hfs⟩ := hJ
      have hk := kk f
      rw [hv] at hk
      have f1 : f 0 = iI x := hs.1
      have dd : nI 0 >>> (nI 12 &&& 31) = nI 0 := by decide
      have de : nI 0 &&& nI 4095 = nI 0 := by decide
      rw [U_Ju_value_17 (cm _)]
      simp (disch := omega) only [List.length_cons, List.length_nil, dn_1, Nat.zero_add, U_Ju_value (cm _), SA, SB, SG, SV, SK, sj, hc1, hc2, show ¬ N ≤ t by omega, hcs, hst, dd, de, f1, leI, ltI, eqI, nI_clamp, nI_add, in_eq, j24, up1_s, up1_n, up1_up1, Nat.lt_irrefl, Nat.reduceLeDiff, Nat.reduceEqDiff, Nat.le_refl, true_implies, not_true_eq_false, not_false_eq_true, false_implies, true_and, and_true]
      exact hk) n i [] (hia h sk) none none none g trivial
  rw [sIA_id] at Y
  rw [E_Ju_value]
  simp (disch := omega) only [U_Ju_value (cm _), SA, SB, SG, SV, ha, leI, Nat.zero_le, true_implies, not_true_eq_false, not_false_eq_true, false_implies, true_and, and_true]
  exact Y
