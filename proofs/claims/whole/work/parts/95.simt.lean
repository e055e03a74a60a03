/-! ===== tests: the reference's machine reads what the language says ===== -/
section SimT'
variable {T : TP} {om : Nat} {test : Bool}
def SimT (T : TP) (om : Nat) (test : Bool) (l : Nat) (st : MSx) (S : PLt) (cf : CFt) (nc op D : Nat) (r : PRs) (nj : Nat → Prop) : Prop := match r with
  | .error f => Rx T om test st (.error f)
  | .ok (v, q', k') => ∃ pl' cf' nc', Rx T om test st (.ok (q', 2, pl', cf', nc', k', op)) ∧ inn pl' = inn S ∧ Fin' om l pl' cf' nc' S cf nc D v ∧ nj q'
def okS (test : Bool) (S : PLt) : Prop := inn S ≠ 32 ∧ (inn S = 0 → test = true) ∧ isC S = false
theorem SimT.pre {l : Nat} {st st' : MSx} {S : PLt} {cf : CFt} {nc op D : Nat} {r : PRs} {nj : Nat → Prop} (a : Rx T om test st (.ok st')) (b : SimT T om test l st' S cf nc op D r nj) : SimT T om test l st S cf nc op D r nj := by
  cases r with
  | error f => exact a.trans b
  | ok w =>
    obtain ⟨v, q', k'⟩ := w
    obtain ⟨p, c, n, R, x, y, z⟩ := b
    exact ⟨p, c, n, a.trans R, x, y, z⟩
def HSt (T : TP) (om : Nat) (test : Bool) (n : Nat) : Prop := ∀ (lev op q k : Nat) (S : PLt) (cf : CFt) (nc : Nat), lev ≤ 1 → op ≤ 8 → 4 * (8 - op) + (4 - lev) ≤ n → q ≤ T.2 → low (lev + 1) S → okS test S → SimT T om test (lev + 1) (q, 0, S, cf, nc, k, op) S cf nc op (dD lev op) (pCh T om n lev op q k) (fun q' => jnt T 1 q' = 0 ∧ (lev = 0 → jnt T 0 q' = 0))
def notN : Nat → VAL → VAL
  | 0, v => v
  | c + 1, v => notN c (vNot v)
theorem notN_eq : ∀ (c : Nat) (v : VAL), notN c v = if c % 2 = 1 then vNot v else v
  | 0, v => rfl
  | c + 1, v => by
    show notN c (vNot v) = _
    rw [notN_eq c (vNot v), vNot2]
    by_cases h : c % 2 = 1
    · rw [if_pos h, if_neg (by omega)]
    · rw [if_neg h, if_pos (by omega)]
theorem stl_nots {S : PLt} (hS : low 3 S) {cf0 : CFt} {nc0 D : Nat} (hD : 1 ≤ D) : ∀ (c : Nat) (cf : CFt) (nc : Nat) (v : VAL), (∀ i, i < nc0 → cf i = cf0 i) → Seg (lM om cf) nc0 nc D v → TestV v → Fin' om 3 (List.replicate c (28, 0) ++ S) cf nc S cf0 nc0 D (notN c v)
  | 0, cf, nc, v, h, s, t => ⟨cf, nc, stl_stop hS, h, s⟩
  | c + 1, cf, nc, v, h, s, t => by
    have l1 := s.1
    obtain ⟨cf', nc', e, a, b⟩ := stl_nots (cf0 := cf0) (nc0 := nc0) hS hD c (up1 cf nc (28, 0)) (nc + 1) (vNot v) (fun i hi => by rw [up1_n _ _ (by omega)]; exact h i hi) (seg_not (x := 0) (Seg_c s (fun i h1 h2 => up1_n _ _ (by omega))) t (by
      show dM om (up1 cf nc (28, 0) nc).1 (up1 cf nc (28, 0) nc).2 = _
      rw [up1_s]; rfl) (Nat.le_refl _) hD) (test_not t)
    refine ⟨cf', nc', ?_, a, b⟩
    rw [List.replicate_succ, List.cons_append, stl_pop (by decide) (by omega)]
    exact e
theorem s_nots : ∀ (m q : Nat) (S : PLt) (cf : CFt) (nc k op : Nat), Rx T om test (q, 0, S, cf, nc, k, op) (.ok ((nts T m q).2, 0, List.replicate (nts T m q).1 (28, 0) ++ S, cf, nc, k, op))
  | 0, q, S, cf, nc, k, op => Rx.refl _
  | m + 1, q, S, cf, nc, k, op => by
    by_cases c : bW T q 7 = true
    · have e : nts T (m + 1) q = ((nts T m (tBe T q)).1 + 1, (nts T m (tBe T q)).2) := if_pos c
      rw [e]
      have st : Rx T om test (q, 0, S, cf, nc, k, op) (.ok (tBe T q, 0, (28, 0) :: S, cf, nc, k, op)) := Rx.step (by rw [mSt0]; unfold sPlain; rw [if_pos c])
      have := st.trans (s_nots m (tBe T q) ((28, 0) :: S) cf nc k op)
      rw [show List.replicate (nts T m (tBe T q)).1 (28, 0) ++ (28, 0) :: S = List.replicate ((nts T m (tBe T q)).1 + 1) (28, 0) ++ S by
        rw [List.replicate_succ', List.append_assoc]; rfl] at this
      exact this
    · rw [show nts T (m + 1) q = (0, q) from if_neg c]
      exact Rx.refl _
theorem nts_end : ∀ (m q : Nat), q ≤ T.2 → T.2 ≤ q + m → bW T (nts T m q).2 7 = false
  | 0, q, hq, hm => by
    show bW T q 7 = false
    refine Bool.eq_false_iff.mpr (fun z => ?_)
    have h1 := bW_ty z
    have h2 := tAt_le T q
    apply h1
    unfold tTy
    rw [if_neg (by omega)]
  | m + 1, q, hq, hm => by
    by_cases c : bW T q 7 = true
    · rw [show nts T (m + 1) q = ((nts T m (tBe T q)).1 + 1, (nts T m (tBe T q)).2) from if_pos c]
      obtain ⟨a1, a2⟩ := q_adv hq (bW_ty c)
      exact nts_end m (tBe T q) a2 (by omega)
    · rw [show nts T (m + 1) q = (0, q) from if_neg c]
      exact Bool.eq_false_iff.mpr c
theorem inn_rep (c : Nat) (S : PLt) : inn (List.replicate c (28, 0) ++ S) = inn S := by
  induction c with
  | zero => rfl
  | succ c ih => rw [List.replicate_succ, List.cons_append]; show (if 31 ≤ 28 then 28 else inn (List.replicate c (28, 0) ++ S)) = _; rw [if_neg (by omega)]; exact ih
theorem isC_rep {c : Nat} {S : PLt} (h : isC S = false) : isC (List.replicate c (28, 0) ++ S) = false := by
  cases c with
  | zero => exact h
  | succ c => rw [List.replicate_succ, List.cons_append]; rfl
theorem low_rep {c l : Nat} {S : PLt} (h : low 3 S) (hl : 4 ≤ l) : low l (List.replicate c (28, 0) ++ S) := by
  cases c with
  | zero => exact h.mono (by omega)
  | succ c => rw [List.replicate_succ, List.cons_append]; exact low_c (by show 3 < l; omega)
/-- the same first step -/
theorem Rx_same {st st' : MSx} {r : Except Nat MSx} (h : mStp T om test st = mStp T om test st') (hr : r ≠ .ok st') (a : Rx T om test st' r) : Rx T om test st r := by
  obtain ⟨n, hn⟩ := a
  cases n with
  | zero => exact absurd hn.symm hr
  | succ n =>
    refine ⟨n + 1, ?_⟩
    unfold mIt at hn ⊢
    rw [h]
    exact hn
theorem bnd_cm {o : Nat} (h1 : 25 ≤ o) (h2 : o ≤ 27) : bnd o = 4 := by
  unfold bnd
  rw [if_neg (by omega), if_neg (by omega), if_neg (by omega), if_neg (by omega), if_pos h1]
set_option maxHeartbeats 1000000 in
theorem s_plain (n op q k : Nat) (S : PLt) (cf : CFt) (nc : Nat) (hT : T.2 ≤ 400) (hom : om ≤ 1) (HA : HSa T om test n) (HT : HSt T om test n) (hop : op ≤ 8) (hn : 4 * (8 - op) + 2 ≤ n) (hq : q ≤ T.2) (hS : low 3 S) (ok : okS test S) : SimT T om test 3 (q, 0, S, cf, nc, k, op) S cf nc op (4 + 2 * (8 - op)) (pPl T (pCh T om n) op q k) (fun _ => True) := by
  obtain ⟨ok1, ok2, ok3⟩ := ok
  obtain ⟨o1, o2, -, -⟩ := nts_ok T 400 q hq
  have nn1 := nts_end (T := T) 400 q hq (by omega)
  refine SimT.pre (s_nots 400 q S cf nc k op) ?_
  unfold pPl
  generalize (nts T 400 q).2 = q1 at *
  generalize (nts T 400 q).1 = c at *
  have i1 := inn_rep c S
  have c1 := isC_rep (c := c) ok3
  by_cases g : bG T q1 40 = true
  · rw [if_pos g]
    unfold pBr
    by_cases c8 : 8 ≤ op
    · rw [if_pos c8]
      refine Rx.step ?_
      rw [mSt0]
      unfold sPlain
      rw [nn1, if_neg (by decide), if_pos g, if_neg (by omega)]
    · rw [if_neg c8]
      have st : Rx T om test (q1, 0, List.replicate c (28, 0) ++ S, cf, nc, k, op) (.ok (tBe T q1, 0, (31, 0) :: (List.replicate c (28, 0) ++ S), cf, nc, k, op + 1)) := Rx.step (by
        rw [mSt0]
        unfold sPlain
        rw [nn1, if_neg (by decide), if_pos g, if_pos (by omega)])
      have H := HT 0 (op + 1) (tBe T q1) k ((31, 0) :: (List.replicate c (28, 0) ++ S)) cf nc (by omega) (by omega) (by omega) (q_adv o2 (bG_ty g)).2 (low_c (by decide)) ⟨by show (31 : Nat) ≠ 32; omega, fun z => by have z' : (31 : Nat) = 0 := z; omega, rfl⟩
      unfold SimT at H
      cases hp : pCh T om n 0 (op + 1) (tBe T q1) k with
      | error f => rw [hp] at H; exact st.trans H
      | ok w =>
        obtain ⟨v, q2, k2⟩ := w
        rw [hp] at H
        simp only at H ⊢
        obtain ⟨pl2, cf2, nc2, R2, in2, ⟨cf3, nc3, e3, a3, s3⟩, j1, j0⟩ := H
        have cj : cjO T q2 = 0 := by
          have j0 := j0 trivial
          unfold jnt at j1 j0
          simp only [Nat.one_ne_zero, if_false, if_true] at j1 j0
          unfold cjO
          by_cases z1 : bW T q2 19 = true
          · rw [if_pos z1] at j1; omega
          · rw [if_neg z1]
            by_cases z2 : bW T q2 18 = true
            · rw [if_pos z2] at j0; omega
            · rw [if_neg z2]
        have in3 : inn pl2 = 31 := in2
        by_cases g2 : bG T q2 41 = true
        · rw [if_pos g2]
          have tv := TLev_all T om n 0 (op + 1) _ k v q2 k2 (by omega) hp
          have F := stl_nots (om := om) (cf0 := cf) (nc0 := nc) hS (D := 4 + 2 * (8 - op)) (by omega) c cf3 nc3 v a3 (s3.mono (by rw [dD_0]; omega)) tv
          rw [notN_eq] at F
          refine ⟨List.replicate c (28, 0) ++ S, cf3, nc3, (st.trans R2).trans (Rx.step ?_), i1, F, trivial⟩
          rw [mSt2]
          unfold sTest
          rw [if_neg (by rw [cj]; exact fun z => z rfl), if_neg (by omega), if_pos g2, e3]
          rfl
        · rw [if_neg g2]
          refine (st.trans R2).trans (Rx.step ?_)
          rw [mSt2]
          unfold sTest
          rw [if_neg (by rw [cj]; exact fun z => z rfl), if_neg (by omega), if_neg g2]
  · rw [if_neg g]
    unfold pCm
    have same : mStp T om test (q1, 0, List.replicate c (28, 0) ++ S, cf, nc, k, op) = mStp T om test (q1, 1, List.replicate c (28, 0) ++ S, cf, nc, k, op) := by
      rw [mSt0, mSt1]
      unfold sPlain
      rw [nn1, if_neg (by decide), if_neg g]
    have H := HA 2 op q1 k (List.replicate c (28, 0) ++ S) cf nc (Or.inl rfl) hop (by omega) o2 (by rw [if_pos rfl]; exact low_rep hS (by omega))
    unfold SimA at H
    cases hp : pCh T om n 2 op q1 k with
    | error f => rw [hp] at H; exact Rx_same same (by intro z; cases z) H
    | ok w =>
      obtain ⟨v1, q2, k2⟩ := w
      rw [hp] at H
      simp only [if_true] at H ⊢
      obtain ⟨X, cf2, nc2, R2, hX, ⟨cf3, nc3, e3, a3, s3⟩, j3, j2⟩ := H
      have R2' := Rx_same same (by intro z; cases z) R2
      have ar := arS_of.2.2 (j2 trivial) j3
      obtain ⟨x1, x2⟩ := inn_ar hX (List.replicate c (28, 0) ++ S)
      obtain ⟨qa, qb⟩ := qCh T hom n 2 op _ k _ _ _ hp o2
      have nov : ¬ (inn (X ++ (List.replicate c (28, 0) ++ S)) = 0 ∧ test = false) := fun z => by
        rw [x1, i1] at z
        have := ok2 z.1
        rw [this] at z
        cases z.2
      by_cases z0 : cmpAt T q2 = 0
      · rw [if_pos z0]
        refine R2'.trans (Rx.step ?_)
        rw [mSt3]
        unfold sSum
        rw [if_neg (by rw [ar]; exact fun z => z rfl), if_neg (by rw [x1, i1]; exact ok1), if_neg nov, if_neg (by rw [x2, c1]; decide), if_pos z0]
      · rw [if_neg z0]
        obtain ⟨y1, y2, y3⟩ := x_cmpAt z0
        have st3 : Rx T om test (q2, 3, X ++ (List.replicate c (28, 0) ++ S), cf2, nc2, k2, op) (.ok (tBe T q2, 1, (cmpAt T q2 + 14, 0) :: (List.replicate c (28, 0) ++ S), cf3, nc3, k2, op)) := Rx.step (by
          rw [mSt3]
          unfold sSum
          rw [if_neg (by rw [ar]; exact fun z => z rfl), if_neg (by rw [x1, i1]; exact ok1), if_neg nov, if_neg (by rw [x2, c1]; decide), if_neg z0, e3])
        have H2 := HA 2 op (tBe T q2) k2 ((cmpAt T q2 + 14, 0) :: (List.replicate c (28, 0) ++ S)) cf3 nc3 (Or.inl rfl) hop (by omega) (q_adv qb y3).2 (by rw [if_pos rfl]; exact low_c (by rw [bnd_cm (by omega) (by omega)]; omega))
        unfold SimA at H2
        cases hp2 : pCh T om n 2 op (tBe T q2) k2 with
        | error f => rw [hp2] at H2; exact (R2'.trans st3).trans H2
        | ok w =>
          obtain ⟨v2, q3, k3⟩ := w
          rw [hp2] at H2
          simp only [if_true] at H2 ⊢
          obtain ⟨X4, cf4, nc4, R4, hX4, ⟨cf5, nc5, e5, a5, s5⟩, j34, j24⟩ := H2
          have ar4 := arS_of.2.2 (j24 trivial) j34
          obtain ⟨x3, x4⟩ := inn_ar hX4 ((cmpAt T q2 + 14, 0) :: (List.replicate c (28, 0) ++ S))
          have inc : inn ((cmpAt T q2 + 14, 0) :: (List.replicate c (28, 0) ++ S)) = inn S := by
            show (if 31 ≤ cmpAt T q2 + 14 then cmpAt T q2 + 14 else inn (List.replicate c (28, 0) ++ S)) = _
            rw [if_neg (by omega)]; exact i1
          have isc : isC ((cmpAt T q2 + 14, 0) :: (List.replicate c (28, 0) ++ S)) = true := by
            show (if 20 ≤ cmpAt T q2 + 14 ∧ cmpAt T q2 + 14 ≤ 24 then isC (List.replicate c (28, 0) ++ S) else decide (25 ≤ cmpAt T q2 + 14 ∧ cmpAt T q2 + 14 ≤ 27)) = true
            rw [if_neg (by omega)]; exact decide_eq_true (by omega)
          have nov2 : ¬ (inn (X4 ++ (cmpAt T q2 + 14, 0) :: (List.replicate c (28, 0) ++ S)) = 0 ∧ test = false) := fun z => by
            rw [x3, inc] at z
            have := ok2 z.1
            rw [this] at z
            cases z.2
          have l3 := s3.1
          have l5 := s5.1
          have F := stl_nots (om := om) (cf0 := cf) (nc0 := nc) hS (D := 4 + 2 * (8 - op)) (by omega) c (up1 cf5 nc5 (cmpAt T q2 + 14, 0)) (nc5 + 1) (vBin (cmpAt T q2) v1 v2) (fun i hi => by
            rw [up1_n _ _ (by omega), a5 i (by omega)]; exact a3 i hi) (by
            refine seg_bin (x := 0) (D1 := dD 2 op) (D2 := dD 2 op) (Seg_c s3 (fun i h1 h2 => ?_)) (Seg_c s5 (fun i h1 h2 => up1_n _ _ (by omega))) ?_ (by omega) (by omega) (by rw [dD_2]; omega) (by rw [dD_2]; omega) (by omega)
            · rw [up1_n _ _ (by omega)]; exact a5 i (by omega)
            · show dM om (up1 cf5 nc5 (cmpAt T q2 + 14, 0) nc5).1 (up1 cf5 nc5 (cmpAt T q2 + 14, 0) nc5).2 = _
              rw [up1_s]
              show dM om (cmpAt T q2 + 14) 0 = _
              rw [dM_ar (by omega) (by omega), Nat.add_sub_cancel]) (test_cmp y1 _ _)
          rw [notN_eq] at F
          refine ⟨X4 ++ (cmpAt T q2 + 14, 0) :: (List.replicate c (28, 0) ++ S), cf4, nc4, (((R2'.trans st3).trans R4).trans (Rx.step ?_)), by rw [x3, inc], ?_, trivial⟩
          · rw [mSt3]
            unfold sSum
            rw [if_neg (by rw [ar4]; exact fun z => z rfl), if_neg (by rw [x3, inc]; exact ok1), if_neg nov2, if_pos (by rw [x4]; exact isc)]
          · obtain ⟨cf6, nc6, e6, a6, s6⟩ := F
            refine ⟨cf6, nc6, ?_, a6, s6⟩
            rw [stl_stl (show 3 ≤ 5 by omega), e5]
            show stl 3 ((cmpAt T q2 + 14, 0) :: (List.replicate c (28, 0) ++ S)) cf5 nc5 = _
            rw [stl_pop (by rw [bnd_cm (by omega) (by omega)]; omega) (by omega)]
            exact e6
end SimT'
