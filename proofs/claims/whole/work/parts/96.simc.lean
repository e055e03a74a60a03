section SimC
variable {T : TP} {om : Nat} {test : Bool}
theorem cj_of {lev q : Nat} (hl : lev ≤ 1) (h : jnt T lev q ≠ 0) (h1 : lev = 0 → jnt T 1 q = 0) : cjO T q = 30 - lev ∧ jnt T lev q = 4 + lev := by
  obtain ⟨a, b, -⟩ := jnt_lev h
  rcases (show lev = 0 ∨ lev = 1 by omega) with rfl | rfl
  · refine ⟨?_, a rfl⟩
    have h1 := h1 rfl
    unfold jnt at h h1
    simp only [Nat.one_ne_zero, if_false, if_true] at h h1
    unfold cjO
    by_cases z1 : bW T q 19 = true
    · rw [if_pos z1] at h1; omega
    · rw [if_neg z1]
      by_cases z2 : bW T q 18 = true
      · rw [if_pos z2]
      · rw [if_neg z2] at h; exact absurd rfl h
  · refine ⟨?_, b rfl⟩
    unfold jnt at h
    simp only [Nat.one_ne_zero, if_false, if_true] at h
    unfold cjO
    by_cases z1 : bW T q 19 = true
    · rw [if_pos z1]
    · rw [if_neg z1] at h; exact absurd rfl h
theorem bnd_cj {lev : Nat} (hl : lev ≤ 1) : bnd (30 - lev) = lev + 1 := by
  rcases (show lev = 0 ∨ lev = 1 by omega) with rfl | rfl <;> rfl
theorem okS_c {S : PLt} (ok : okS test S) {lev a : Nat} (hl : lev ≤ 1) : okS test ((30 - lev, a) :: S) := by
  obtain ⟨o1, o2, o3⟩ := ok
  have e : inn ((30 - lev, a) :: S) = inn S := by
    show (if 31 ≤ 30 - lev then 30 - lev else inn S) = _
    rw [if_neg (by omega)]
  refine ⟨by rw [e]; exact o1, by rw [e]; exact o2, ?_⟩
  rcases (show lev = 0 ∨ lev = 1 by omega) with rfl | rfl <;> rfl
theorem s_loopT (n lev op : Nat) {S : PLt} {cf : CFt} {nc : Nat} (hT : T.2 ≤ 400) (hom : om ≤ 1) (hl : lev ≤ 1) (hS : low (lev + 1) S) (ok : okS test S) (RD : ∀ q k S' cf nc, q ≤ T.2 → low (lev + 2) S' → okS test S' → SimT T om test (lev + 2) (q, 0, S', cf, nc, k, op) S' cf nc op (dR lev op) (pRd T om (pCh T om n) lev op q k) (fun q' => lev = 0 → jnt T 1 q' = 0)) : ∀ (m : Nat) (v : VAL) (q1 k1 : Nat) (pl1 : PLt) (cf1 : CFt) (nc1 : Nat), q1 ≤ T.2 → 401 ≤ q1 + m → inn pl1 = inn S → Fin' om (lev + 1) pl1 cf1 nc1 S cf nc (dD lev op) v → (lev = 0 → jnt T 1 q1 = 0) → SimT T om test (lev + 1) (q1, 2, pl1, cf1, nc1, k1, op) S cf nc op (dD lev op) (pLoop T om (pCh T om n) lev op m v q1 k1) (fun q' => jnt T 1 q' = 0 ∧ (lev = 0 → jnt T 0 q' = 0))
  | 0, v, q1, k1, pl1, cf1, nc1, hq, hm, hi, F, nj => by omega
  | m + 1, v, q1, k1, pl1, cf1, nc1, hq, hm, hi, F, nj => by
    unfold pLoop
    by_cases j0 : jnt T lev q1 = 0
    · rw [if_pos j0]
      refine ⟨pl1, cf1, nc1, Rx.refl _, hi, F, ?_⟩
      rcases (show lev = 0 ∨ lev = 1 by omega) with rfl | rfl
      · exact ⟨nj rfl, fun _ => j0⟩
      · exact ⟨j0, fun z => by omega⟩
    · rw [if_neg j0]
      obtain ⟨cj, jl⟩ := cj_of hl j0 nj
      obtain ⟨a1, a2⟩ := q_adv hq (jnt_lev j0).2.2.2.2
      obtain ⟨cf', nc', e1, e2, e3⟩ := F
      have l3 := e3.1
      have st : Rx T om test (q1, 2, pl1, cf1, nc1, k1, op) (.ok (tBe T q1, 0, (30 - lev, nc') :: S, up1 cf' nc' (30 - lev, 0), nc' + 1, k1, op)) := Rx.step (by
        rw [mSt2]
        unfold sTest
        rw [cj, if_pos (by omega), bnd_cj hl, e1])
      have PT := RD (tBe T q1) k1 ((30 - lev, nc') :: S) (up1 cf' nc' (30 - lev, 0)) (nc' + 1) a2 (low_c (by rw [bnd_cj hl]; omega)) (okS_c ok hl)
      unfold SimT at PT
      cases hp : pRd T om (pCh T om n) lev op (tBe T q1) k1 with
      | error f => rw [hp] at PT; exact st.trans PT
      | ok w =>
        obtain ⟨v2, q3, k3⟩ := w
        rw [hp] at PT
        simp only at PT ⊢
        obtain ⟨pl3, cf3, nc3, R3, in3, ⟨cf4, nc4, g1, g2, g3⟩, nj3⟩ := PT
        obtain ⟨b1, b2⟩ := qRd hom (qCh T hom n) lev op _ k1 _ _ _ hp a2
        have l4 := g3.1
        have in4 : inn pl3 = inn S := by
          rw [in3]
          show (if 31 ≤ 30 - lev then 30 - lev else inn S) = _
          rw [if_neg (by omega)]
        have c4 : (cf4 nc').1 = 30 - lev := by rw [g2 nc' (by omega), up1_s]
        obtain ⟨dr1, -, -⟩ := dR_le (lev := lev) (op := op) (by omega)
        have IH := s_loopT n lev op (cf := cf) (nc := nc) hT hom hl hS ok RD m (cmb (jnt T lev q1) v v2) q3 k3 pl3 cf3 nc3 b2 (by omega) in4 ⟨up1 cf4 nc' ((cf4 nc').1, nc4), nc4, by
            rw [stl_stl (show lev + 1 ≤ lev + 2 by omega), g1]
            show stl (lev + 1) ((30 - lev, nc') :: S) cf4 nc4 = _
            show (if lev + 1 ≤ bnd (30 - lev) then (if 30 - lev = 29 ∨ 30 - lev = 30 then stl (lev + 1) S (up1 cf4 nc' ((cf4 nc').1, nc4)) nc4 else _) else _) = _
            rw [if_pos (by rw [bnd_cj hl]; omega), if_pos (by omega), stl_stop hS], fun i hi => by
            rw [up1_n _ _ (by omega), g2 i (by omega), up1_n _ _ (by omega)]
            exact e2 i hi, by
            unfold cmb
            rw [if_pos (by omega)]
            refine seg_jn (D1 := dD lev op) (D2 := dR lev op) (by omega) (Seg_c e3 (fun i h1 h2 => ?_)) ?_ (Seg_c g3 (fun i h1 h2 => up1_n _ _ (by omega))) (Nat.le_refl _) (dr1 hl).1 (dr1 hl).2
            · rw [up1_n _ _ (by omega), g2 i (by omega), up1_n _ _ (by omega)]
            · show dM om (up1 cf4 nc' ((cf4 nc').1, nc4) nc').1 (up1 cf4 nc' ((cf4 nc').1, nc4) nc').2 = _
              rw [up1_s, c4, jl]
              show dM om (30 - lev) nc4 = (4 + lev, nc4)
              rcases (show lev = 0 ∨ lev = 1 by omega) with rfl | rfl <;> rfl⟩ nj3
        exact SimT.pre (st.trans R3) IH
theorem s_tests (hT : T.2 ≤ 400) (hom : om ≤ 1) : ∀ n, HSt T om test n
  | 0 => fun lev op q k S cf nc hl hop hn => by omega
  | n + 1 => fun lev op q k S cf nc hl hop hn hq hS ok => by
    have HT : HSt T om test n := s_tests hT hom n
    have HA : HSa T om test n := s_sums hT hom n
    have RD : ∀ q k S' cf nc, q ≤ T.2 → low (lev + 2) S' → okS test S' → SimT T om test (lev + 2) (q, 0, S', cf, nc, k, op) S' cf nc op (dR lev op) (pRd T om (pCh T om n) lev op q k) (fun q' => lev = 0 → jnt T 1 q' = 0) := fun q k S' cf nc hq hS ok => by
      rcases (show lev = 0 ∨ lev = 1 by omega) with rfl | rfl
      · have H := HT 1 op q k S' cf nc (by omega) hop (by omega) hq hS ok
        have e : pRd T om (pCh T om n) 0 op q k = pCh T om n 1 op q k := rfl
        rw [e]
        unfold SimT at H ⊢
        cases hp : pCh T om n 1 op q k with
        | error f => rw [hp] at H; exact H
        | ok w =>
          obtain ⟨v, q', k'⟩ := w
          rw [hp] at H
          simp only at H ⊢
          obtain ⟨p, c, nn', R, x, y, z⟩ := H
          exact ⟨p, c, nn', R, x, y, fun _ => z.1⟩
      · have H := s_plain n op q k S' cf nc hT hom HA HT hop (by omega) hq hS ok
        have e : pRd T om (pCh T om n) 1 op q k = pPl T (pCh T om n) op q k := rfl
        rw [e]
        unfold SimT at H ⊢
        cases hp : pPl T (pCh T om n) op q k with
        | error f => rw [hp] at H; exact H
        | ok w =>
          obtain ⟨v, q', k'⟩ := w
          rw [hp] at H
          simp only at H ⊢
          obtain ⟨p, c, nn', R, x, y, z⟩ := H
          exact ⟨p, c, nn', R, x, y, fun z => by omega⟩
    have PT := RD q k S cf nc hq (hS.mono (by omega)) ok
    unfold pCh
    unfold SimT at PT
    cases hp : pRd T om (pCh T om n) lev op q k with
    | error f => rw [hp] at PT; exact PT
    | ok w =>
      obtain ⟨v, q1, k1⟩ := w
      rw [hp] at PT
      simp only at PT ⊢
      obtain ⟨pl3, cf3, nc3, R3, in3, ⟨cf4, nc4, g1, g2, g3⟩, nj3⟩ := PT
      obtain ⟨b1, b2⟩ := qRd hom (qCh T hom n) lev op _ k _ _ _ hp hq
      obtain ⟨-, -, dr3⟩ := dR_le (lev := lev) (op := op) (by omega)
      exact SimT.pre R3 (s_loopT n lev op (cf := cf) (nc := nc) hT hom hl hS ok RD 401 v q1 k1 pl3 cf3 nc3 b2 (by omega) in3 ⟨cf4, nc4, by
        rw [stl_stl (show lev + 1 ≤ lev + 2 by omega), g1]
        exact stl_stop hS, g2, g3.mono dr3⟩ nj3)
/-- a whole expression (a test, or a sum), read by the reference's machine: it ends settled, or at the fault -/
theorem s_expr (hT : T.2 ≤ 400) (hom : om ≤ 1) (q k : Nat) (cf : CFt) (nc : Nat) (hq : q ≤ T.2) : match pCh T om 40 (if test = true then 0 else 2) 0 q k with
    | .error f => Rx T om test (q, if test = true then 0 else 1, [], cf, nc, k, 0) (.error f)
    | .ok (v, q', k') => ∃ pl' cf' nc', Rx T om test (q, if test = true then 0 else 1, [], cf, nc, k, 0) (.ok (q', 4, pl', cf', nc', k', 0)) ∧ Fin' om 1 pl' cf' nc' [] cf nc 20 v := by
  cases test with
  | true =>
    simp only [if_true]
    have H := s_tests (test := true) hT hom 40 0 0 q k [] cf nc (by omega) (by omega) (by omega) hq (fun o a r e => by cases e) ⟨by show (0 : Nat) ≠ 32; omega, fun _ => rfl, rfl⟩
    unfold SimT at H
    cases hp : pCh T om 40 0 0 q k with
    | error f => rw [hp] at H; exact H
    | ok w =>
      obtain ⟨v, q', k'⟩ := w
      rw [hp] at H
      simp only at H ⊢
      obtain ⟨pl3, cf3, nc3, R3, in3, F3, j1, j0⟩ := H
      have j0 := j0 trivial
      refine ⟨pl3, cf3, nc3, R3.trans (Rx.step ?_), F3⟩
      have cj : cjO T q' = 0 := by
        unfold jnt at j1 j0
        simp only [Nat.one_ne_zero, if_false, if_true] at j1 j0
        unfold cjO
        by_cases z1 : bW T q' 19 = true
        · rw [if_pos z1] at j1; omega
        · rw [if_neg z1]
          by_cases z2 : bW T q' 18 = true
          · rw [if_pos z2] at j0; omega
          · rw [if_neg z2]
      rw [mSt2]
      unfold sTest
      rw [if_neg (by rw [cj]; exact fun z => z rfl), if_pos (show inn pl3 = 0 from in3)]
  | false =>
    simp only [Bool.false_eq_true, if_false]
    have H := s_sums (test := false) hT hom 40 2 0 q k [] cf nc (Or.inl rfl) (by omega) (by omega) hq (fun o a r e => by cases e)
    unfold SimA at H
    cases hp : pCh T om 40 2 0 q k with
    | error f => rw [hp] at H; exact H
    | ok w =>
      obtain ⟨v, q', k'⟩ := w
      rw [hp] at H
      simp only [if_true] at H ⊢
      obtain ⟨X, cf3, nc3, R3, hX, ⟨cf4, nc4, e4, a4, s4⟩, j3, j2⟩ := H
      have ar := arS_of.2.2 (j2 trivial) j3
      obtain ⟨x1, -⟩ := inn_ar hX []
      refine ⟨X ++ [], cf3, nc3, R3.trans (Rx.step ?_), cf4, nc4, ?_, a4, s4.mono (by decide)⟩
      · rw [mSt3]
        unfold sSum
        rw [if_neg (by rw [ar]; exact fun z => z rfl), if_neg (by rw [x1]; show ¬ (0 : Nat) = 32; omega), if_pos (show inn (X ++ []) = 0 ∧ false = false from ⟨x1, rfl⟩)]
      · rw [stl_stl (show 1 ≤ 5 by omega), e4]
        rfl
end SimC
