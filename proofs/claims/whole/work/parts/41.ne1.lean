/-! ===== the least, and the lowest that is so ===== -/
theorem itd_min {P : Nat → Prop} {g : Int32 → Nat → Int32} (h1 : ∀ x o, P o → g x o = nI o) (h2 : ∀ x o, ¬ P o → g x o = x) : ∀ (m : Nat) (x : Int32), (∃ j, j < m ∧ P j ∧ (∀ i, i < j → ¬ P i) ∧ itd g m x = nI j) ∨ ((∀ j, j < m → ¬ P j) ∧ itd g m x = x)
  | 0, x => Or.inr ⟨fun j hj => absurd hj (Nat.not_lt_zero j), rfl⟩
  | m + 1, x => by
    rw [itd_s]
    rcases itd_min h1 h2 m (g x m) with ⟨j, a, b, c, e⟩ | ⟨a, e⟩
    · exact Or.inl ⟨j, by omega, b, c, e⟩
    · by_cases c : P m
      · exact Or.inl ⟨m, by omega, c, a, by rw [e, h1 _ _ c]⟩
      · refine Or.inr ⟨fun j hj => ?_, by rw [e, h2 _ _ c]⟩
        by_cases q : j = m
        · rw [q]; exact c
        · exact a j (by omega)
/-- how the program looks for it -/
def tlG (p : RW) (r : Nat) (s : Int32) (q : Int32 × Int32 × Int32) (o : Nat) : Int32 × Int32 × Int32 :=
  (if mBy p r o < q.1 then mBy p r o else q.1, if bt s o = nI 1 ∧ mBy p r o < q.2.1 then (mBy p r o, nI o) else q.2)
def tlR (p : RW) (r : Nat) (s : Int32) : Int32 × Int32 × Int32 := itr (tlG p r s) 0 7 (nI 9999, nI 9999, -1)
theorem x_l_takesLeast (d n r : Nat) (hr : r < 7) (s : Int32) {h : MH} {p : RW} (hS : NeS h n) (hV : NeV h n p) (Q : RT) (lm : Nat × Nat) : ∀ (m k : Nat) (x la lo : Int32) (w : Option Value), k + m = 7 → WP cd_Ne_takesLeast (callD (d + 2)) Q lm 15 [] [some (.ref n), some (.int (nI r)), some (.int s), some (.int x), some (.int la), some (.int lo), some (.int (nI k)), w] h =
      if (itr (tlG p r s) k m (x, la, lo)).2.2 = -1 ∨ (itr (tlG p r s) k m (x, la, lo)).1 < (itr (tlG p r s) k m (x, la, lo)).2.1 then Q (some (.int (nI 0))) h else Q (some (.int (nI 1))) (sIA (sIA h (n + 4) (up1 (hia h (n + 4)) r (itr (tlG p r s) k m (x, la, lo)).1)) (n + 6) (up1 (hia h (n + 6)) r (itr (tlG p r s) k m (x, la, lo)).2.2))
  | 0, k, x, la, lo, w, hk => by
    obtain ⟨sh, h24⟩ := hS.all
    have n4 : 24 ≤ n + 4 := by omega
    have n6 : 24 ≤ n + 6 := by omega
    obtain rfl : k = 7 := by omega
    rw [itr_0, U_Ne_takesLeast_15 (cm _)]
    by_cases c : lo = -1
    · rw [if_pos (Or.inl c)]
      simp (disch := omega) only [U_Ne_takesLeast (cm _), SA, SB, SG, SV, leI, c, Nat.le_refl, true_implies, not_true_eq_false, false_implies, and_true, true_or, true_and]
    · by_cases c2 : x < la
      · have c2' : ¬ la ≤ x := Int32.not_le.mpr c2
        rw [if_pos (Or.inr c2)]
        simp (disch := omega) only [U_Ne_takesLeast (cm _), SA, SB, SG, SV, leI, c, c2', Nat.le_refl, true_implies, not_true_eq_false, not_false_eq_true, false_implies, and_true, true_or, true_and]
      · have c2' : la ≤ x := Int32.not_lt.mp c2
        rw [if_neg (fun q => q.elim c c2)]
        simp (disch := omega) only [U_Ne_takesLeast (cm _), SA, SB, SG, SV, leI, c, c2', n4, n6, sh, nI_clamp, in_eq, up1_n, sIA_c, Nat.le_refl, true_implies, not_true_eq_false, not_false_eq_true, false_implies, and_true, or_true, true_and]
  | m + 1, k, x, la, lo, w, hk => by
    obtain ⟨sh, -⟩ := hS.all
    have hk7 : ¬ 7 ≤ k := by omega
    have ih := fun x la lo w => x_l_takesLeast d n r hr s hS hV Q lm m (k + 1) x la lo w (by omega)
    rw [itr_s, U_Ne_takesLeast_15 (cm _)]
    by_cases c : bt s k = nI 1
    · by_cases c2 : mBy p r k < la
      · have c2' : ¬ la ≤ mBy p r k := Int32.not_le.mpr c2
        have e : tlG p r s (x, la, lo) k = (if mBy p r k < x then mBy p r k else x, mBy p r k, nI k) := by unfold tlG; rw [if_pos (show bt s k = nI 1 ∧ mBy p r k < la from ⟨c, c2⟩)]
        rw [e]
        unfold bt at c
        simp (disch := omega) only [U_Ne_takesLeast (cm _), SA, SB, SC1, SC2, SG, SV, leI, hk7, sh, x_by d n r k hr (by omega) hS hV, e_min, c, c2', nI_add, true_implies, not_true_eq_false, not_false_eq_true, false_implies, and_true, true_and, ih]
      · have c2' : la ≤ mBy p r k := Int32.not_lt.mp c2
        have e : tlG p r s (x, la, lo) k = (if mBy p r k < x then mBy p r k else x, la, lo) := by unfold tlG; rw [if_neg (fun q : bt s k = nI 1 ∧ mBy p r k < la => c2 q.2)]
        rw [e]
        unfold bt at c
        simp (disch := omega) only [U_Ne_takesLeast (cm _), SA, SB, SC1, SC2, SG, SV, leI, hk7, sh, x_by d n r k hr (by omega) hS hV, e_min, c, c2', nI_add, true_implies, not_true_eq_false, not_false_eq_true, false_implies, and_true, true_and, ih]
    · have e : tlG p r s (x, la, lo) k = (if mBy p r k < x then mBy p r k else x, la, lo) := by unfold tlG; rw [if_neg (fun q : bt s k = nI 1 ∧ mBy p r k < la => c q.1)]
      rw [e]
      unfold bt at c
      simp (disch := omega) only [U_Ne_takesLeast (cm _), SA, SB, SC1, SC2, SG, SV, leI, hk7, sh, x_by d n r k hr (by omega) hS hV, e_min, c, nI_add, true_implies, not_true_eq_false, not_false_eq_true, false_implies, and_true, true_and, ih]
theorem x_takesLeast (d n r : Nat) (hr : r < 7) (s : Int32) {h : MH} {p : RW} (hS : NeS h n) (hV : NeV h n p) (Q : RT) : callD (d + 3) 37 [.ref n, .int (nI r), .int s] h Q = if (tlR p r s).2.2 = -1 ∨ (tlR p r s).1 < (tlR p r s).2.1 then Q (some (.int (nI 0))) h else Q (some (.int (nI 1))) (sIA (sIA h (n + 4) (up1 (hia h (n + 4)) r (tlR p r s).1)) (n + 6) (up1 (hia h (n + 6)) r (tlR p r s).2.2)) := by
  rw [E_Ne_takesLeast]
  simp only [U_Ne_takesLeast (cm _), SA, SB, SG, SV]
  exact x_l_takesLeast d n r hr s hS hV Q _ 7 0 _ _ _ _ rfl
/-- what the search finds -/
theorem tl_inv (p : RW) (r : Nat) (s : Int32) : ∀ (m k : Nat) (x la lo : Int32), k + m = 7 →
    ((∀ o, o < k → x.toInt ≤ (mBy p r o).toInt) ∧ x.toInt ≤ 9999 ∧ (x = nI 9999 ∨ ∃ o, o < k ∧ x = mBy p r o)) →
    ((∀ o, o < k → bt s o = nI 1 → la.toInt ≤ (mBy p r o).toInt) ∧ ((lo = -1 ∧ la = nI 9999) ∨ ∃ j, j < k ∧ lo = nI j ∧ bt s j = nI 1 ∧ mBy p r j = la ∧ la.toInt < 9999 ∧ ∀ i, i < j → bt s i = nI 1 → la.toInt < (mBy p r i).toInt)) →
    ∃ x' la' lo', itr (tlG p r s) k m (x, la, lo) = (x', la', lo') ∧ x' = itr (fun x o => if mBy p r o < x then mBy p r o else x) k m x ∧
    ((∀ o, o < 7 → x'.toInt ≤ (mBy p r o).toInt) ∧ x'.toInt ≤ 9999 ∧ (x' = nI 9999 ∨ ∃ o, o < 7 ∧ x' = mBy p r o)) ∧
    ((∀ o, o < 7 → bt s o = nI 1 → la'.toInt ≤ (mBy p r o).toInt) ∧ ((lo' = -1 ∧ la' = nI 9999) ∨ ∃ j, j < 7 ∧ lo' = nI j ∧ bt s j = nI 1 ∧ mBy p r j = la' ∧ la'.toInt < 9999 ∧ ∀ i, i < j → bt s i = nI 1 → la'.toInt < (mBy p r i).toInt))
  | 0, k, x, la, lo, hk, h1, h2 => by
    obtain rfl : k = 7 := by omega
    exact ⟨x, la, lo, rfl, rfl, h1, h2⟩
  | m + 1, k, x, la, lo, hk, ⟨a1, a2, a3⟩, ⟨b1, b2⟩ => by
    rw [itr_s, itr_s]
    have n9 : (nI 9999).toInt = 9999 := by decide
    have hx : (∀ o, o < k + 1 → (if mBy p r k < x then mBy p r k else x).toInt ≤ (mBy p r o).toInt) ∧ (if mBy p r k < x then mBy p r k else x).toInt ≤ 9999 ∧ ((if mBy p r k < x then mBy p r k else x) = nI 9999 ∨ ∃ o, o < k + 1 ∧ (if mBy p r k < x then mBy p r k else x) = mBy p r o) := by
      by_cases c : mBy p r k < x
      · rw [if_pos c]
        have c' := Int32.lt_iff_toInt_lt.mp c
        refine ⟨fun o ho => ?_, by omega, Or.inr ⟨k, by omega, rfl⟩⟩
        by_cases e : o = k
        · rw [e]; exact Int.le_refl _
        · have := a1 o (by omega); omega
      · rw [if_neg c]
        have c' := Int32.le_iff_toInt_le.mp (Int32.not_lt.mp c)
        refine ⟨fun o ho => ?_, a2, a3.imp id (fun ⟨o, h, e⟩ => ⟨o, by omega, e⟩)⟩
        by_cases e : o = k
        · rw [e]; exact c'
        · exact a1 o (by omega)
    by_cases c : bt s k = nI 1 ∧ mBy p r k < la
    · have e : tlG p r s (x, la, lo) k = (if mBy p r k < x then mBy p r k else x, mBy p r k, nI k) := by unfold tlG; rw [if_pos c]
      rw [e]
      have c' := Int32.lt_iff_toInt_lt.mp c.2
      have hla : la.toInt ≤ 9999 := by
        rcases b2 with ⟨-, e⟩ | ⟨j, -, -, -, -, e, -⟩
        · rw [e, n9]; exact Int.le_refl _
        · omega
      refine tl_inv p r s m (k + 1) _ _ _ (by omega) hx ⟨fun o ho hs => ?_, Or.inr ⟨k, by omega, rfl, c.1, rfl, by omega, fun i hi hs => ?_⟩⟩
      · by_cases e : o = k
        · rw [e]; exact Int.le_refl _
        · have := b1 o (by omega) hs; omega
      · have := b1 i hi hs; omega
    · have e : tlG p r s (x, la, lo) k = (if mBy p r k < x then mBy p r k else x, la, lo) := by unfold tlG; rw [if_neg c]
      rw [e]
      refine tl_inv p r s m (k + 1) _ _ _ (by omega) hx ⟨fun o ho hs => ?_, b2.imp id (fun ⟨j, h, z⟩ => ⟨j, by omega, z⟩)⟩
      by_cases e : o = k
      · subst e
        exact Int32.le_iff_toInt_le.mp (Int32.not_lt.mp (fun q => c ⟨hs, q⟩))
      · exact b1 o (by omega) hs
theorem tl_res (p : RW) (r : Nat) (s : Int32) : (tlR p r s).1 = mLeast p r ∧ ((∀ o, o < 7 → (mLeast p r).toInt ≤ (mBy p r o).toInt) ∧ (mLeast p r).toInt ≤ 9999 ∧ (mLeast p r = nI 9999 ∨ ∃ o, o < 7 ∧ mLeast p r = mBy p r o)) ∧ ((∀ o, o < 7 → bt s o = nI 1 → (tlR p r s).2.1.toInt ≤ (mBy p r o).toInt) ∧ (((tlR p r s).2.2 = -1 ∧ (tlR p r s).2.1 = nI 9999) ∨ ∃ j, j < 7 ∧ (tlR p r s).2.2 = nI j ∧ bt s j = nI 1 ∧ mBy p r j = (tlR p r s).2.1 ∧ (tlR p r s).2.1.toInt < 9999 ∧ ∀ i, i < j → bt s i = nI 1 → (tlR p r s).2.1.toInt < (mBy p r i).toInt)) := by
  obtain ⟨x, la, lo, e, e1, h1, h2⟩ := tl_inv p r s 7 0 (nI 9999) (nI 9999) (-1) rfl ⟨fun o h => absurd h (Nat.not_lt_zero o), by decide, Or.inl rfl⟩ ⟨fun o h => absurd h (Nat.not_lt_zero o), Or.inl ⟨rfl, rfl⟩⟩
  have e' : tlR p r s = (x, la, lo) := e
  rw [e']
  have e2 : x = mLeast p r := e1
  rw [← e2]
  exact ⟨rfl, h1, h2⟩
/-- the search among those for whom P holds is that of the reference -/
theorem tl_P (p : RW) (r : Nat) (s : Int32) {P : Nat → Prop} (hP : ∀ o, o < 7 → (bt s o = nI 1 ↔ P o)) {g : Int32 → Nat → Int32} (h1 : ∀ x o, (mLeast p r < nI 9999 ∧ mBy p r o = mLeast p r ∧ P o) → g x o = nI o) (h2 : ∀ x o, ¬ (mLeast p r < nI 9999 ∧ mBy p r o = mLeast p r ∧ P o) → g x o = x) :
    ((tlR p r s).2.2 = -1 ∨ (tlR p r s).1 < (tlR p r s).2.1 ↔ itd g 7 (-1) = -1) ∧ (¬ itd g 7 (-1) = -1 → (tlR p r s).2.2 = itd g 7 (-1) ∧ (tlR p r s).1 = mLeast p r ∧ ∃ j, j < 7 ∧ itd g 7 (-1) = nI j ∧ mBy p r j = mLeast p r) := by
  obtain ⟨t1, ⟨a1, a2, a3⟩, b1, b2⟩ := tl_res p r s
  have n9 : (nI 9999).toInt = 9999 := by decide
  rw [t1, Int32.lt_iff_toInt_lt]
  rcases itd_min h1 h2 7 (-1) with ⟨j, j1, ⟨j2, j3, j4⟩, j5, j6⟩ | ⟨j1, j2⟩
  · rw [j6, nI_m1 (by omega)]
    have jl := Int32.lt_iff_toInt_lt.mp j2
    have hj := b1 j j1 ((hP j j1).mpr j4)
    rw [j3] at hj
    rcases b2 with ⟨c1, c2⟩ | ⟨i, i1, i2, i3, i4, i5, i6⟩
    · rw [c2, n9] at hj; rw [n9] at jl; omega
    · have hi := a1 i i1
      rw [i4] at hi
      have hij : i = j := by
        rcases Nat.lt_trichotomy i j with q | q | q
        · exact absurd ⟨j2, by rw [i4]; exact Int32.toInt_inj.mp (by omega), (hP i i1).mp i3⟩ (j5 i q)
        · exact q
        · have := i6 j q ((hP j j1).mpr j4); rw [j3] at this; omega
      subst hij
      rw [i2, nI_m1 (by omega)]
      refine ⟨⟨fun q => ?_, fun q => q.elim⟩, fun _ => ⟨rfl, rfl, i, i1, rfl, j3⟩⟩
      rcases q with q | q
      · exact q
      · omega
  · rw [j2]
    refine ⟨⟨fun _ => rfl, fun _ => ?_⟩, fun q => absurd rfl q⟩
    rcases b2 with ⟨c1, c2⟩ | ⟨i, i1, i2, i3, i4, i5, i6⟩
    · exact Or.inl c1
    · refine Or.inr ?_
      have hi := a1 i i1
      rw [i4] at hi
      rcases Int.lt_or_eq_of_le hi with q | q
      · exact q
      · exact absurd ⟨Int32.lt_iff_toInt_lt.mpr (by omega), by rw [i4]; exact Int32.toInt_inj.mp q.symm, (hP i i1).mp i3⟩ (j1 i i1)
