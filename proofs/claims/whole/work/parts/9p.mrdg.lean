/-! ===== what holds of the reference's machine along a reading ===== -/
def nb : PLt → Nat
  | [] => 0
  | (o, _) :: r => (if 31 ≤ o then 1 else 0) + nb r
def okP : PLt → Prop
  | [] => True
  | (o, _) :: r => (inn r = 32 → o ≤ 24 ∨ o = 32) ∧ okP r
def CVc (om : Nat) (x : Nat × Nat) : Prop := x.1 ≤ 30 ∧ x.2 ≤ 1000 ∧ (0 < x.1 → x.1 < 20 → (om = 0 → x.1 ≤ 7) ∧ (om = 1 → x.1 ≤ 6 ∧ x.2 ≤ 6))
def CV (om : Nat) (cf : CFt) (nc : Nat) : Prop := ∀ k, k < nc → CVc om (cf k)
def JP (pl : PLt) (cf : CFt) : Prop := ∀ x, x ∈ pl → x.1 = 29 ∨ x.1 = 30 → 20 ≤ (cf x.2).1
theorem nb_inn : ∀ (pl : PLt), inn pl ≠ 0 → 1 ≤ nb pl
  | [], h => absurd rfl h
  | (o, a) :: r, h => by
    show 1 ≤ (if 31 ≤ o then 1 else 0) + nb r
    by_cases c : 31 ≤ o
    · rw [if_pos c]; omega
    · rw [if_neg c]
      have : inn r ≠ 0 := fun z => h (by show (if 31 ≤ o then o else inn r) = 0; rw [if_neg c, z])
      have := nb_inn r this
      omega
theorem inn_le : ∀ (pl : PLt) (nc : Nat), PV pl nc → inn pl ≤ 32
  | [], _, _ => by show (0 : Nat) ≤ 32; omega
  | (o, a) :: r, nc, h => by
    show (if 31 ≤ o then o else inn r) ≤ 32
    split
    · have := (h (o, a) (List.mem_cons_self ..)).2.1; exact this
    · exact inn_le r nc (fun x hx => h x (List.mem_cons_of_mem _ hx))
theorem CVc_op {om o : Nat} (h1 : 20 ≤ o) (h2 : o ≤ 30) : CVc om (o, 0) := ⟨h2, by show (0 : Nat) ≤ 1000; omega, fun _ h => absurd h (by show ¬ o < 20; omega)⟩
theorem bnd_31 {o : Nat} (h : 31 ≤ o) : bnd o = 0 := by unfold bnd; rw [if_pos h]
theorem bnd_0 {o : Nat} (h : bnd o < 1) : 31 ≤ o := by
  unfold bnd at h
  split at h
  · assumption
  · split at h; omega; split at h; omega; split at h; omega; split at h; omega; split at h <;> omega
theorem bnd_5 {o : Nat} (h1 : o ≤ 24) : 5 ≤ bnd o := by
  unfold bnd
  split; omega; split; omega; split; omega; split; omega; split; omega; split <;> omega
theorem stl_iv {l : Nat} (hl : 1 ≤ l) (om : Nat) : ∀ (pl : PLt) (cf : CFt) (nc : Nat), okP pl → CV om cf nc → JP pl cf → PV pl nc → nc + pl.length ≤ 400 → okP (stl l pl cf nc).1 ∧ nb (stl l pl cf nc).1 = nb pl ∧ low l (stl l pl cf nc).1 ∧ CV om (stl l pl cf nc).2.1 (stl l pl cf nc).2.2 ∧ JP (stl l pl cf nc).1 (stl l pl cf nc).2.1 ∧ PV (stl l pl cf nc).1 (stl l pl cf nc).2.2
  | [], cf, nc, h1, h2, h3, h4, h5 => ⟨trivial, rfl, (fun _ _ _ e => by cases e), h2, h3, h4⟩
  | (o, a) :: r, cf, nc, h1, h2, h3, h4, h5 => by
    have p0 := h4 (o, a) (List.mem_cons_self ..)
    have pr : PV r nc := fun x hx => h4 x (List.mem_cons_of_mem _ hx)
    have jr : JP r cf := fun x hx => h3 x (List.mem_cons_of_mem _ hx)
    have p1 : 20 ≤ o := p0.1
    have p3 : o = 29 ∨ o = 30 → a < nc := p0.2.2.2
    rw [List.length_cons] at h5
    by_cases c : l ≤ bnd o
    · have no : ¬ 31 ≤ o := fun z => by rw [bnd_31 z] at c; omega
      have en : nb ((o, a) :: r) = nb r := by show (if 31 ≤ o then 1 else 0) + nb r = nb r; rw [if_neg no]; omega
      by_cases c2 : o = 29 ∨ o = 30
      · rw [show stl l ((o, a) :: r) cf nc = stl l r (up1 cf a ((cf a).1, nc)) nc by show (if l ≤ bnd o then _ else _) = _; rw [if_pos c, if_pos c2], en]
        have ja : 20 ≤ (cf a).1 := h3 (o, a) (List.mem_cons_self ..) c2
        refine stl_iv hl om r _ nc h1.2 (fun k hk => ?_) (fun x hx z => ?_) pr (by omega)
        · by_cases e : k = a
          · subst e; rw [up1_s]
            exact ⟨(h2 k hk).1, by show nc ≤ 1000; omega, fun _ z => absurd z (by show ¬ (cf k).1 < 20; omega)⟩
          · rw [up1_n _ _ e]; exact h2 k hk
        · by_cases e : x.2 = a
          · rw [e, up1_s]; exact ja
          · rw [up1_n _ _ e]; exact jr x hx z
      · rw [show stl l ((o, a) :: r) cf nc = stl l r (up1 cf nc (o, 0)) (nc + 1) by show (if l ≤ bnd o then _ else _) = _; rw [if_pos c, if_neg c2], en]
        refine stl_iv hl om r _ (nc + 1) h1.2 (fun k hk => ?_) (fun x hx z => ?_) (fun x hx => ?_) (by omega)
        · by_cases e : k = nc
          · subst e; rw [up1_s]; exact CVc_op p1 (by omega)
          · rw [up1_n _ _ e]; exact h2 k (by omega)
        · have := (pr x hx).2.2.2 z
          rw [up1_n _ _ (by omega)]; exact jr x hx z
        · obtain ⟨x1, x2, x3, x4⟩ := pr x hx
          exact ⟨x1, x2, x3, fun z => by have := x4 z; omega⟩
    · rw [show stl l ((o, a) :: r) cf nc = ((o, a) :: r, cf, nc) by show (if l ≤ bnd o then _ else _) = _; rw [if_neg c]]
      exact ⟨h1, rfl, low_c (by omega), h2, h3, h4⟩
def IvR (om : Nat) (st : MSx) : Prop := st.2.1 ≤ 4 ∧ nb st.2.2.1 ≤ st.2.2.2.2.2.2 ∧ st.2.2.2.2.2.2 ≤ 8 ∧ okP st.2.2.1 ∧ (st.2.1 = 0 ∨ st.2.1 = 2 → inn st.2.2.1 ≠ 32) ∧ st.2.2.2.2.2.1 ≤ 50 ∧ st.2.2.2.2.1 + st.2.2.1.length < st.1 ∧ CV om st.2.2.2.1 st.2.2.2.2.1 ∧ JP st.2.2.1 st.2.2.2.1
theorem CV_up {om : Nat} {cf : CFt} {nc : Nat} {x : Nat × Nat} (h : CV om cf nc) (hx : CVc om x) : CV om (up1 cf nc x) (nc + 1) := fun k hk => by
  by_cases e : k = nc
  · rw [e, up1_s]; exact hx
  · rw [up1_n _ _ e]; exact h k (by omega)
theorem JP_up {pl : PLt} {cf : CFt} {nc : Nat} (x : Nat × Nat) (h : JP pl cf) (hp : PV pl nc) : JP pl (up1 cf nc x) := fun y hy z => by
  have := (hp y hy).2.2.2 z
  rw [up1_n _ _ (by omega)]; exact h y hy z
theorem iv_part {T : TP} {om t q : Nat} {pl : PLt} {cf : CFt} {nc k op : Nat} {st : MSx} (hom : om = 0 ∨ om = 1) (hq : q ≤ T.2) (i : IvR om (q, t, pl, cf, nc, k, op)) (p : PV pl nc) (h : sPart T om q pl cf nc k op = .ok st) : IvR om st := by
  obtain ⟨-, i2, i3, i4, -, i6, i7, i8, i9⟩ := i
  simp only at i2 i3 i4 i6 i7 i8 i9
  unfold sPart at h
  by_cases c1 : bG T q 91 = true
  · rw [if_pos c1] at h
    have qa := q_adv hq (bG_ty c1)
    split at h
    · cases h
      refine ⟨by show 1 ≤ 4; omega, ?_, by show op + 1 ≤ 8; omega, ⟨fun _ => Or.inr rfl, i4⟩, fun z => ?_, i6, ?_, i8, fun x hx z => ?_⟩
      · show (if 31 ≤ 32 then 1 else 0) + nb pl ≤ op + 1
        simp only [Nat.reduceLeDiff, if_true]; omega
      · simp only at z; omega
      · show nc + ((32, 0) :: pl).length < tBe T q
        rw [List.length_cons]; omega
      · cases hx with
        | head => simp only at z; omega
        | tail _ hx => exact i9 x hx z
    · cases h
  rw [if_neg c1] at h
  by_cases c2 : bN T q 0 1000 = true
  · rw [if_pos c2] at h
    have qa := q_adv hq (bN_ty c2)
    split at h
    · cases h
    · cases h
      exact ⟨by show 3 ≤ 4; omega, i2, i3, i4, fun z => by simp only at z; omega, by show k + 1 ≤ 50; omega, by show nc + 1 + pl.length < tBe T q; omega, CV_up i8 ⟨by show (0 : Nat) ≤ 30; omega, (bN_t.mp c2).2.2, fun z => absurd z (by show ¬ 0 < 0; omega)⟩, JP_up _ i9 p⟩
  rw [if_neg c2] at h
  split at h
  · cases h
  next c3 =>
  obtain ⟨w1, w2⟩ := wAt_ty (not_or.mp c3).1
  have qa := q_adv hq (show tTy T q ≠ 0 by omega)
  split at h
  · next c4 =>
    split at h
    · next c5 =>
      have qb := q_adv qa.2 (bN_ty c5)
      cases h
      refine ⟨by show 3 ≤ 4; omega, i2, i3, i4, fun z => by simp only at z; omega, by show k + 1 ≤ 50; omega, by show nc + 1 + pl.length < tBe T (tBe T q); omega, CV_up i8 ?_, JP_up _ i9 p⟩
      have nv : nmV T (tBe T q) ≤ 6 := (bN_t.mp c5).2.2
      rcases hom with e | e
      · subst e; exact absurd c4 (not_or.mpr (wAt_0 T q))
      · subst e
        have m := (mW_1 T q (not_or.mp c3).1).2
        exact ⟨by show mW 1 _ ≤ 30; omega, by show nmV T (tBe T q) ≤ 1000; omega, fun _ _ => ⟨fun z => by omega, fun _ => ⟨m, nv⟩⟩⟩
    · cases h
  · next c4 =>
    cases h
    refine ⟨by show 3 ≤ 4; omega, i2, i3, i4, fun z => by simp only at z; omega, by show k + 1 ≤ 50; omega, by show nc + 1 + pl.length < tBe T q; omega, CV_up i8 ?_, JP_up _ i9 p⟩
    rcases hom with e | e
    · subst e
      have m : mW 0 (wAt T 0 q) ≤ 7 := by
        have w0 := wAt_0 T q
        show (if (0 : Nat) = 0 then wAt T 0 q + 1 else _) ≤ 7
        rw [if_pos rfl]
        have := (wAt_ok (by omega) (not_or.mp c3).1).2.2.1 rfl
        omega
      exact ⟨by show mW 0 _ ≤ 30; omega, by show (0 : Nat) ≤ 1000; omega, fun _ _ => ⟨fun _ => m, fun z => by omega⟩⟩
    · subst e
      have m := (mW_1 T q (not_or.mp c3).1).2
      exact ⟨by show mW 1 _ ≤ 30; omega, by show (0 : Nat) ≤ 1000; omega, fun _ _ => ⟨fun z => by omega, fun _ => ⟨m, by show (0 : Nat) ≤ 6; omega⟩⟩⟩
theorem iv_plain {T : TP} {om q : Nat} {pl : PLt} {cf : CFt} {nc k op : Nat} {st : MSx} (hom : om = 0 ∨ om = 1) (hq : q ≤ T.2) (i : IvR om (q, 0, pl, cf, nc, k, op)) (p : PV pl nc) (h : sPlain T om q pl cf nc k op = .ok st) : IvR om st := by
  unfold sPlain at h
  by_cases c1 : bW T q 7 = true
  · rw [if_pos c1] at h
    obtain ⟨-, i2, i3, i4, i5, i6, i7, i8, i9⟩ := i
    simp only at i2 i3 i4 i6 i7 i8 i9
    have n5 : inn pl ≠ 32 := i5 (Or.inl rfl)
    have qa := q_adv hq (show tTy T q ≠ 0 by have := (bW_t.mp c1).1; omega)
    cases h
    refine ⟨by show 0 ≤ 4; omega, ?_, i3, ⟨fun z => absurd z n5, i4⟩, fun _ => ?_, i6, ?_, i8, fun x hx z => ?_⟩
    · show (if 31 ≤ 28 then 1 else 0) + nb pl ≤ op
      rw [if_neg (by omega)]; omega
    · show (if 31 ≤ 28 then 28 else inn pl) ≠ 32
      rw [if_neg (by omega)]; exact n5
    · show nc + ((28, 0) :: pl).length < tBe T q
      rw [List.length_cons]; omega
    · cases hx with
      | head => simp only at z; omega
      | tail _ hx => exact i9 x hx z
  rw [if_neg c1] at h
  by_cases c2 : bG T q 40 = true
  · rw [if_pos c2] at h
    obtain ⟨-, i2, i3, i4, i5, i6, i7, i8, i9⟩ := i
    simp only at i2 i3 i4 i6 i7 i8 i9
    have n5 : inn pl ≠ 32 := i5 (Or.inl rfl)
    have qa := q_adv hq (bG_ty c2)
    split at h
    · cases h
      refine ⟨by show 0 ≤ 4; omega, ?_, by show op + 1 ≤ 8; omega, ⟨fun z => absurd z n5, i4⟩, fun _ => ?_, i6, ?_, i8, fun x hx z => ?_⟩
      · show (if 31 ≤ 31 then 1 else 0) + nb pl ≤ op + 1
        rw [if_pos (by omega)]; omega
      · show (if 31 ≤ 31 then 31 else inn pl) ≠ 32
        rw [if_pos (by omega)]; omega
      · show nc + ((31, 0) :: pl).length < tBe T q
        rw [List.length_cons]; omega
      · cases hx with
        | head => simp only at z; omega
        | tail _ hx => exact i9 x hx z
    · cases h
  rw [if_neg c2] at h
  exact iv_part hom hq i p h
theorem okP_t : ∀ {pl : PLt}, okP pl → okP pl.tail
  | [], h => h
  | _ :: _, h => h.2
theorem iv_sum {T : TP} {om q : Nat} {test : Bool} {pl : PLt} {cf : CFt} {nc k op : Nat} {st : MSx} (hT : T.2 ≤ 400) (hq : q ≤ T.2) (i : IvR om (q, 3, pl, cf, nc, k, op)) (p : PV pl nc) (h : sSum T test q pl cf nc k op = .ok st) : IvR om st := by
  obtain ⟨-, i2, i3, i4, -, i6, i7, i8, i9⟩ := i
  simp only at i2 i3 i4 i6 i7 i8 i9
  have SI := fun l (hl : 1 ≤ l) => stl_iv hl om pl cf nc i4 i8 i9 p (by omega)
  have SN := fun l (hl : 1 ≤ l) => stl_inn hl pl cf nc
  unfold sSum at h
  by_cases c1 : arS T q = 0
  · rw [if_neg (fun z => z c1)] at h
    by_cases c2 : inn pl = 32
    · rw [if_pos c2] at h
      split at h
      · next g =>
        have qa := q_adv hq (bG_ty g)
        cases h
        obtain ⟨s1, s2, s3, s4, s5, s6⟩ := SI 5 (by omega)
        obtain ⟨n1, n2⟩ := SN 5 (by omega)
        generalize stl 5 pl cf nc = w at *
        obtain ⟨p1, cf1, nc1⟩ := w
        simp only at s1 s2 s3 s4 s5 s6 n1 n2
        cases p1 with
        | nil => rw [c2] at n1; cases n1
        | cons x p2 =>
          obtain ⟨o, a⟩ := x
          have o31 : 31 ≤ o := by
            refine Decidable.byContradiction (fun z => ?_)
            have e : inn p2 = 32 := by
              have e : (if 31 ≤ o then o else inn p2) = inn pl := n1
              rw [if_neg z, c2] at e; exact e
            have lo : bnd o < 5 := s3 o a p2 rfl
            rcases s1.1 e with y | y
            · have := bnd_5 y; omega
            · omega
          have e2 : (if 31 ≤ o then 1 else 0) + nb p2 = nb pl := s2
          rw [if_pos o31] at e2
          rw [List.length_cons] at n2
          exact ⟨by show 3 ≤ 4; omega, by show nb p2 ≤ op - 1; omega, by show op - 1 ≤ 8; omega, s1.2, fun z => by simp only at z; omega, i6, by show nc1 + p2.length < tBe T q; omega, s4, fun x hx => s5 x (List.mem_cons_of_mem _ hx)⟩
      · cases h
    rw [if_neg c2] at h
    by_cases c3 : inn pl = 0 ∧ test = false
    · rw [if_pos c3] at h
      cases h
      exact ⟨by show 4 ≤ 4; omega, i2, i3, i4, fun z => by simp only at z; omega, i6, i7, i8, i9⟩
    rw [if_neg c3] at h
    split at h
    · cases h
      exact ⟨by show 2 ≤ 4; omega, i2, i3, i4, fun z => c2, i6, i7, i8, i9⟩
    split at h
    · cases h
    next cm =>
    obtain ⟨x1, x2, x3⟩ := x_cmpAt cm
    have qa := q_adv hq x3
    cases h
    obtain ⟨s1, s2, s3, s4, s5, s6⟩ := SI 5 (by omega)
    obtain ⟨n1, n2⟩ := SN 5 (by omega)
    generalize stl 5 pl cf nc = w at *
    obtain ⟨p1, cf1, nc1⟩ := w
    simp only at s1 s2 s3 s4 s5 s6 n1 n2
    refine ⟨by show 1 ≤ 4; omega, ?_, i3, ⟨fun z => absurd (n1.symm.trans z) c2, s1⟩, fun z => by simp only at z; omega, i6, ?_, s4, fun x hx z => ?_⟩
    · show (if 31 ≤ cmpAt T q + 14 then 1 else 0) + nb p1 ≤ op
      rw [if_neg (by omega)]; omega
    · show nc1 + ((cmpAt T q + 14, 0) :: p1).length < tBe T q
      rw [List.length_cons]; omega
    · cases hx with
      | head => simp only at z; omega
      | tail _ hx => exact s5 x hx z
  · rw [if_pos c1] at h
    have ar : 20 ≤ arS T q ∧ arS T q ≤ 24 ∧ tTy T q ≠ 0 := by
      unfold arS at c1 ⊢
      split
      · next z => exact ⟨by omega, by omega, bG_ty z⟩
      split
      · next z => exact ⟨by omega, by omega, bG_ty z⟩
      split
      · next z => exact ⟨by omega, by omega, bG_ty z⟩
      split
      · next z => exact ⟨by omega, by omega, bG_ty z⟩
      split
      · next z => exact ⟨by omega, by omega, bG_ty z⟩
      next z1 z2 z3 z4 z5 =>
      rw [if_neg z1, if_neg z2, if_neg z3, if_neg z4, if_neg z5] at c1
      exact absurd rfl c1
    obtain ⟨a1, a2, a3⟩ := ar
    have qa := q_adv hq a3
    have b5 := bnd_5 a2
    cases h
    obtain ⟨s1, s2, s3, s4, s5, s6⟩ := SI (bnd (arS T q)) (by omega)
    obtain ⟨n1, n2⟩ := SN (bnd (arS T q)) (by omega)
    generalize stl (bnd (arS T q)) pl cf nc = w at *
    obtain ⟨p1, cf1, nc1⟩ := w
    simp only at s1 s2 s3 s4 s5 s6 n1 n2
    refine ⟨by show 1 ≤ 4; omega, ?_, i3, ⟨fun z => Or.inl a2, s1⟩, fun z => by simp only at z; omega, i6, ?_, s4, fun x hx z => ?_⟩
    · show (if 31 ≤ arS T q then 1 else 0) + nb p1 ≤ op
      rw [if_neg (by omega)]; omega
    · show nc1 + ((arS T q, 0) :: p1).length < tBe T q
      rw [List.length_cons]; omega
    · cases hx with
      | head => simp only at z; omega
      | tail _ hx => exact s5 x hx z
theorem iv_test {T : TP} {om q : Nat} {pl : PLt} {cf : CFt} {nc k op : Nat} {st : MSx} (hT : T.2 ≤ 400) (hq : q ≤ T.2) (i : IvR om (q, 2, pl, cf, nc, k, op)) (p : PV pl nc) (h : sTest T q pl cf nc k op = .ok st) : IvR om st := by
  obtain ⟨-, i2, i3, i4, i5, i6, i7, i8, i9⟩ := i
  simp only at i2 i3 i4 i6 i7 i8 i9
  have n5 : inn pl ≠ 32 := i5 (Or.inr rfl)
  have SI := fun l (hl : 1 ≤ l) => stl_iv hl om pl cf nc i4 i8 i9 p (by omega)
  have SN := fun l (hl : 1 ≤ l) => stl_inn hl pl cf nc
  unfold sTest at h
  by_cases c1 : cjO T q = 0
  · rw [if_neg (fun z => z c1)] at h
    by_cases c2 : inn pl = 0
    · rw [if_pos c2] at h
      cases h
      exact ⟨by show 4 ≤ 4; omega, i2, i3, i4, fun z => by simp only at z; omega, i6, i7, i8, i9⟩
    rw [if_neg c2] at h
    split at h
    · next g =>
      have qa := q_adv hq (bG_ty g)
      cases h
      obtain ⟨s1, s2, s3, s4, s5, s6⟩ := SI 1 (by omega)
      obtain ⟨n1, n2⟩ := SN 1 (by omega)
      generalize stl 1 pl cf nc = w at *
      obtain ⟨p1, cf1, nc1⟩ := w
      simp only at s1 s2 s3 s4 s5 s6 n1 n2
      cases p1 with
      | nil => exact absurd n1.symm c2
      | cons x p2 =>
        obtain ⟨o, a⟩ := x
        have o31 : 31 ≤ o := bnd_0 (s3 o a p2 rfl)
        have e2 : (if 31 ≤ o then 1 else 0) + nb p2 = nb pl := s2
        rw [if_pos o31] at e2
        have en : (if 31 ≤ o then o else inn p2) = inn pl := n1
        rw [if_pos o31] at en
        rw [List.length_cons] at n2
        exact ⟨by show 2 ≤ 4; omega, by show nb p2 ≤ op - 1; omega, by show op - 1 ≤ 8; omega, s1.2, fun z y => by rcases s1.1 y with u | u <;> omega, i6, by show nc1 + p2.length < tBe T q; omega, s4, fun x hx => s5 x (List.mem_cons_of_mem _ hx)⟩
    · cases h
  · rw [if_pos c1] at h
    have cj : 29 ≤ cjO T q ∧ cjO T q ≤ 30 ∧ tTy T q ≠ 0 ∧ q + 2 ≤ tBe T q ∧ 1 ≤ bnd (cjO T q) := by
      have ta := tAt_le T q
      unfold cjO at c1 ⊢
      split
      · next z =>
        have bl := bW_len z
        rw [show (wds 19).length = 3 by decide] at bl
        exact ⟨by omega, by omega, by have := (bW_t.mp z).1; omega, by omega, by decide⟩
      split
      · next z =>
        have bl := bW_len z
        rw [show (wds 18).length = 2 by decide] at bl
        exact ⟨by omega, by omega, by have := (bW_t.mp z).1; omega, by omega, by decide⟩
      next z1 z2 =>
      rw [if_neg z1, if_neg z2] at c1
      exact absurd rfl c1
    obtain ⟨a1, a2, a3, a4, a5⟩ := cj
    cases h
    obtain ⟨s1, s2, s3, s4, s5, s6⟩ := SI (bnd (cjO T q)) a5
    obtain ⟨n1, n2⟩ := SN (bnd (cjO T q)) a5
    generalize stl (bnd (cjO T q)) pl cf nc = w at *
    obtain ⟨p1, cf1, nc1⟩ := w
    simp only at s1 s2 s3 s4 s5 s6 n1 n2
    refine ⟨by show 0 ≤ 4; omega, ?_, i3, ⟨fun z => absurd (n1.symm.trans z) n5, s1⟩, fun _ => ?_, i6, ?_, CV_up s4 (CVc_op (by omega) (by omega)), fun x hx z => ?_⟩
    · show (if 31 ≤ cjO T q then 1 else 0) + nb p1 ≤ op
      rw [if_neg (by omega)]; omega
    · show (if 31 ≤ cjO T q then cjO T q else inn p1) ≠ 32
      rw [if_neg (by omega), n1]; exact n5
    · show nc1 + 1 + ((cjO T q, nc1) :: p1).length < tBe T q
      rw [List.length_cons]; omega
    · cases hx with
      | head =>
        show 20 ≤ (up1 cf1 nc1 (cjO T q, 0) nc1).1
        rw [up1_s]; show 20 ≤ cjO T q; omega
      | tail _ hx => exact JP_up _ s5 s6 x hx z
