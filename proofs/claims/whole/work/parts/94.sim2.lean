section Sim2
variable {T : TP} {om : Nat} {test : Bool}
theorem bnd_ar {o : Nat} (h1 : 20 ≤ o) (h2 : o ≤ 24) : bnd o = if 22 ≤ o then 6 else 5 := by
  unfold bnd
  rw [if_neg (by omega), if_neg (by omega), if_neg (by omega), if_neg (by omega), if_neg (by omega)]
theorem stl_pop {l o a : Nat} {r : PLt} {cf : CFt} {nc : Nat} (h : l ≤ bnd o) (h2 : ¬ (o = 29 ∨ o = 30)) : stl l ((o, a) :: r) cf nc = stl l r (up1 cf nc (o, 0)) (nc + 1) := by
  show (if l ≤ bnd o then _ else _) = _
  rw [if_pos h, if_neg h2]
theorem s_loop3 (n op : Nat) {S : PLt} {cf : CFt} {nc : Nat} (hT : T.2 ≤ 400) (hom : om ≤ 1) (HS : HSa T om test n) (hop : op ≤ 8) (hn : op < 8 → 4 * (8 - (op + 1)) + 2 ≤ n) (hS : low 6 S) : ∀ (m : Nat) (v : VAL) (q1 k1 : Nat) (X : PLt) (cf1 : CFt) (nc1 : Nat), q1 ≤ T.2 → 401 ≤ q1 + m → (∀ x, x ∈ X → 20 ≤ x.1 ∧ x.1 ≤ 24) → Fin' om 6 (X ++ S) cf1 nc1 S cf nc (dD 3 op) v → SimA T om test 6 (q1, 3, X ++ S, cf1, nc1, k1, op) S cf nc op (dD 3 op) (pLoop T om (pCh T om n) 3 op m v q1 k1) (fun q' => jnt T 3 q' = 0)
  | 0, v, q1, k1, X, cf1, nc1, hq, hm, hX, F => by omega
  | m + 1, v, q1, k1, X, cf1, nc1, hq, hm, hX, F => by
    unfold pLoop
    by_cases j0 : jnt T 3 q1 = 0
    · rw [if_pos j0]
      exact ⟨X, cf1, nc1, Rx.refl _, hX, F, j0⟩
    · rw [if_neg j0]
      have ar := arS_of.2.1 j0
      have j8 := (jnt_lev j0).2.2.2.1 (by omega)
      obtain ⟨a1, a2⟩ := q_adv hq (jnt_lev j0).2.2.2.2
      obtain ⟨cf', nc', e1, e2, e3⟩ := F
      have st : Rx T om test (q1, 3, X ++ S, cf1, nc1, k1, op) (.ok (tBe T q1, 1, (jnt T 3 q1 + 14, 0) :: S, cf', nc', k1, op)) := Rx.step (by
        rw [mSt3]
        unfold sSum
        rw [ar, if_pos (by omega), bnd_ar (by omega) (by omega), if_pos (by omega), e1])
      have PT := s_part (test := test) n op (tBe T q1) k1 ((jnt T 3 q1 + 14, 0) :: S) cf' nc' hom HS hop hn a2
      have hr : pRd T om (pCh T om n) 3 op (tBe T q1) k1 = pPa T om (pCh T om n) op (tBe T q1) k1 := rfl
      rw [hr]
      cases hp : pPa T om (pCh T om n) op (tBe T q1) k1 with
      | error f => rw [hp] at PT; exact st.trans PT
      | ok w =>
        obtain ⟨v2, q3, k3⟩ := w
        rw [hp] at PT
        simp only at PT ⊢
        obtain ⟨cf3, nc3, R3, f3, s3⟩ := PT
        obtain ⟨b1, b2⟩ := qPa hom (qCh T hom n) op _ k1 _ _ _ hp a2
        have IH := s_loop3 n op (cf := cf) (nc := nc) hT hom HS hop hn hS m (cmb (jnt T 3 q1) v v2) q3 k3 [(jnt T 3 q1 + 14, 0)] cf3 nc3 b2 (by omega) (fun x hx => by
          rcases List.mem_singleton.mp hx with rfl
          show 20 ≤ jnt T 3 q1 + 14 ∧ jnt T 3 q1 + 14 ≤ 24
          omega) ⟨up1 cf3 nc3 (jnt T 3 q1 + 14, 0), nc3 + 1, by
            show stl 6 ((jnt T 3 q1 + 14, 0) :: S) cf3 nc3 = _
            rw [stl_pop (by rw [bnd_ar (by omega) (by omega), if_pos (by omega)]; omega) (by omega), stl_stop hS], fun i hi => by
            rw [up1_n _ _ (by have := s3.1; have := e3.1; omega), f3 i (by have := e3.1; omega)]
            exact e2 i hi, by
            unfold cmb
            rw [if_neg (by omega)]
            refine seg_bin (x := 0) (D1 := dD 3 op) (D2 := 1 + 2 * (8 - op)) (Seg_c e3 (fun i h1 h2 => ?_)) (Seg_c s3 (fun i h1 h2 => up1_n _ _ (by omega))) ?_ (by omega) (by omega) (Nat.le_refl _) (by rw [dD_3]; omega) (by rw [dD_3]; omega)
            · rw [up1_n _ _ (by have := s3.1; omega)]; exact f3 i (by omega)
            · show dM om (up1 cf3 nc3 (jnt T 3 q1 + 14, 0) nc3).1 (up1 cf3 nc3 (jnt T 3 q1 + 14, 0) nc3).2 = _
              rw [up1_s]
              show dM om (jnt T 3 q1 + 14) 0 = _
              rw [dM_ar (by omega) (by omega), Nat.add_sub_cancel]⟩
        have st2 := st.trans R3
        unfold SimA at IH ⊢
        cases hl : pLoop T om (pCh T om n) 3 op m (cmb (jnt T 3 q1) v v2) q3 k3 with
        | error f => rw [hl] at IH; exact st2.trans IH
        | ok w =>
          obtain ⟨v5, q5, k5⟩ := w
          rw [hl] at IH
          simp only at IH ⊢
          obtain ⟨X5, cf5, nc5, R5, hX5, F5, n5⟩ := IH
          exact ⟨X5, cf5, nc5, st2.trans R5, hX5, F5, n5⟩
theorem s_loop2 (n op : Nat) {S : PLt} {cf : CFt} {nc : Nat} (hT : T.2 ≤ 400) (hom : om ≤ 1) (HS : HSa T om test n) (hop : op ≤ 8) (hn : 4 * (8 - op) + 1 ≤ n) (hS : low 5 S) : ∀ (m : Nat) (v : VAL) (q1 k1 : Nat) (X : PLt) (cf1 : CFt) (nc1 : Nat), q1 ≤ T.2 → 401 ≤ q1 + m → (∀ x, x ∈ X → 20 ≤ x.1 ∧ x.1 ≤ 24) → Fin' om 5 (X ++ S) cf1 nc1 S cf nc (dD 2 op) v → jnt T 3 q1 = 0 → SimA T om test 5 (q1, 3, X ++ S, cf1, nc1, k1, op) S cf nc op (dD 2 op) (pLoop T om (pCh T om n) 2 op m v q1 k1) (fun q' => jnt T 3 q' = 0 ∧ jnt T 2 q' = 0)
  | 0, v, q1, k1, X, cf1, nc1, hq, hm, hX, F, nj => by omega
  | m + 1, v, q1, k1, X, cf1, nc1, hq, hm, hX, F, nj => by
    unfold pLoop
    by_cases j0 : jnt T 2 q1 = 0
    · rw [if_pos j0]
      exact ⟨X, cf1, nc1, Rx.refl _, hX, F, nj, j0⟩
    · rw [if_neg j0]
      have ar := arS_of.1 j0
      have j8 := (jnt_lev j0).2.2.1 rfl
      obtain ⟨a1, a2⟩ := q_adv hq (jnt_lev j0).2.2.2.2
      obtain ⟨cf', nc', e1, e2, e3⟩ := F
      have bn : bnd (jnt T 2 q1 + 14) = 5 := by rw [bnd_ar (by omega) (by omega), if_neg (by omega)]
      have st : Rx T om test (q1, 3, X ++ S, cf1, nc1, k1, op) (.ok (tBe T q1, 1, (jnt T 2 q1 + 14, 0) :: S, cf', nc', k1, op)) := Rx.step (by
        rw [mSt3]
        unfold sSum
        rw [ar, if_pos (by omega), bn, e1])
      have PT := HS 3 op (tBe T q1) k1 ((jnt T 2 q1 + 14, 0) :: S) cf' nc' (Or.inr rfl) hop (by omega) a2 (low_c (by rw [bn]; simp))
      have hr : pRd T om (pCh T om n) 2 op (tBe T q1) k1 = pCh T om n 3 op (tBe T q1) k1 := rfl
      rw [hr]
      unfold SimA at PT
      cases hp : pCh T om n 3 op (tBe T q1) k1 with
      | error f => rw [hp] at PT; exact st.trans PT
      | ok w =>
        obtain ⟨v2, q3, k3⟩ := w
        rw [hp] at PT
        simp only [Nat.reduceEqDiff, if_false, false_implies, and_true] at PT ⊢
        obtain ⟨X3, cf3, nc3, R3, hX3, ⟨cf4, nc4, g1, g2, g3⟩, nj3⟩ := PT
        obtain ⟨b1, b2⟩ := qCh T hom n 3 op _ k1 _ _ _ hp a2
        have eX : X3 ++ (jnt T 2 q1 + 14, 0) :: S = (X3 ++ [(jnt T 2 q1 + 14, 0)]) ++ S := by rw [List.append_assoc]; rfl
        rw [eX] at R3 g1
        have IH := s_loop2 n op (cf := cf) (nc := nc) hT hom HS hop hn hS m (cmb (jnt T 2 q1) v v2) q3 k3 (X3 ++ [(jnt T 2 q1 + 14, 0)]) cf3 nc3 b2 (by omega) (fun x hx => by
          rcases List.mem_append.mp hx with hx | hx
          · exact hX3 x hx
          · rcases List.mem_singleton.mp hx with rfl
            show 20 ≤ jnt T 2 q1 + 14 ∧ jnt T 2 q1 + 14 ≤ 24
            omega) ⟨up1 cf4 nc4 (jnt T 2 q1 + 14, 0), nc4 + 1, by
            rw [stl_stl (show 5 ≤ 6 by omega), g1]
            show stl 5 ((jnt T 2 q1 + 14, 0) :: S) cf4 nc4 = _
            rw [stl_pop (by rw [bn]; omega) (by omega), stl_stop hS], fun i hi => by
            rw [up1_n _ _ (by have := g3.1; have := e3.1; omega), g2 i (by have := e3.1; omega)]
            exact e2 i hi, by
            unfold cmb
            rw [if_neg (by omega)]
            refine seg_bin (x := 0) (D1 := dD 2 op) (D2 := dD 3 op) (Seg_c e3 (fun i h1 h2 => ?_)) (Seg_c g3 (fun i h1 h2 => up1_n _ _ (by omega))) ?_ (by omega) (by omega) (Nat.le_refl _) (by rw [dD_3, dD_2]; omega) (by rw [dD_2]; omega)
            · rw [up1_n _ _ (by have := g3.1; omega)]; exact g2 i (by omega)
            · show dM om (up1 cf4 nc4 (jnt T 2 q1 + 14, 0) nc4).1 (up1 cf4 nc4 (jnt T 2 q1 + 14, 0) nc4).2 = _
              rw [up1_s]
              show dM om (jnt T 2 q1 + 14) 0 = _
              rw [dM_ar (by omega) (by omega), Nat.add_sub_cancel]⟩ nj3
        have st2 := st.trans R3
        unfold SimA at IH ⊢
        cases hl : pLoop T om (pCh T om n) 2 op m (cmb (jnt T 2 q1) v v2) q3 k3 with
        | error f => rw [hl] at IH; exact st2.trans IH
        | ok w =>
          obtain ⟨v5, q5, k5⟩ := w
          rw [hl] at IH
          simp only at IH ⊢
          obtain ⟨X5, cf5, nc5, R5, hX5, F5, n5⟩ := IH
          exact ⟨X5, cf5, nc5, st2.trans R5, hX5, F5, n5⟩
theorem s_sums (hT : T.2 ≤ 400) (hom : om ≤ 1) : ∀ n, HSa T om test n
  | 0 => fun lev op q k S cf nc hl hop hn => by omega
  | n + 1 => fun lev op q k S cf nc hl hop hn hq hS => by
    have HS : HSa T om test n := s_sums hT hom n
    rcases hl with rfl | rfl
    · simp only [if_true] at hS ⊢
      have PT := HS 3 op q k S cf nc (Or.inr rfl) hop (by omega) hq (by simp only [Nat.reduceEqDiff, if_false]; exact hS.mono (by omega))
      unfold pCh
      have hr : pRd T om (pCh T om n) 2 op q k = pCh T om n 3 op q k := rfl
      rw [hr]
      unfold SimA at PT
      cases hp : pCh T om n 3 op q k with
      | error f => rw [hp] at PT; exact PT
      | ok w =>
        obtain ⟨v, q1, k1⟩ := w
        rw [hp] at PT
        simp only [Nat.reduceEqDiff, if_false, false_implies, and_true] at PT ⊢
        obtain ⟨X3, cf3, nc3, R3, hX3, ⟨cf4, nc4, g1, g2, g3⟩, nj3⟩ := PT
        obtain ⟨b1, b2⟩ := qCh T hom n 3 op _ k _ _ _ hp hq
        have IH := s_loop2 (test := test) n op (cf := cf) (nc := nc) hT hom HS hop (by omega) hS 401 v q1 k1 X3 cf3 nc3 b2 (by omega) hX3 ⟨cf4, nc4, by
          rw [stl_stl (show 5 ≤ 6 by omega), g1]
          exact stl_stop hS, g2, g3.mono (by rw [dD_3, dD_2]; omega)⟩ nj3
        unfold SimA at IH ⊢
        cases hl : pLoop T om (pCh T om n) 2 op 401 v q1 k1 with
        | error f => rw [hl] at IH; exact R3.trans IH
        | ok w =>
          obtain ⟨v5, q5, k5⟩ := w
          rw [hl] at IH
          simp only at IH ⊢
          obtain ⟨X5, cf5, nc5, R5, hX5, F5, n5⟩ := IH
          exact ⟨X5, cf5, nc5, R3.trans R5, hX5, F5, n5.1, fun _ => n5.2⟩
    · simp only [Nat.reduceEqDiff, if_false, false_implies, and_true] at hS ⊢
      have PT := s_part (test := test) n op q k S cf nc hom HS hop (fun _ => by omega) hq
      unfold pCh
      have hr : pRd T om (pCh T om n) 3 op q k = pPa T om (pCh T om n) op q k := rfl
      rw [hr]
      cases hp : pPa T om (pCh T om n) op q k with
      | error f => rw [hp] at PT; exact PT
      | ok w =>
        obtain ⟨v, q1, k1⟩ := w
        rw [hp] at PT
        simp only at PT ⊢
        obtain ⟨cf3, nc3, R3, f3, s3⟩ := PT
        obtain ⟨b1, b2⟩ := qPa hom (qCh T hom n) op _ k _ _ _ hp hq
        have IH := s_loop3 (test := test) n op (cf := cf) (nc := nc) hT hom HS hop (fun _ => by omega) hS 401 v q1 k1 [] cf3 nc3 b2 (by omega) (fun x hx => by cases hx) ⟨cf3, nc3, stl_stop hS, f3, s3.mono (by rw [dD_3]; omega)⟩
        unfold SimA at IH ⊢
        cases hl : pLoop T om (pCh T om n) 3 op 401 v q1 k1 with
        | error f => rw [hl] at IH; exact R3.trans IH
        | ok w =>
          obtain ⟨v5, q5, k5⟩ := w
          rw [hl] at IH
          simp only at IH ⊢
          obtain ⟨X5, cf5, nc5, R5, hX5, F5, n5⟩ := IH
          exact ⟨X5, cf5, nc5, R3.trans R5, hX5, F5, n5⟩
end Sim2
