/-! ===== the program's net beside the row ===== -/
def NeS (h : MH) (n : Nat) : Prop := hkd h n = 2 ∧ AF h n 0 (n + 1) 20 49 ∧ AF h n 1 (n + 2) 20 49 ∧ AF h n 2 (n + 3) 20 7 ∧ AF h n 3 (n + 4) 20 7 ∧ AF h n 4 (n + 5) 20 7 ∧ AF h n 5 (n + 6) 20 7 ∧ AF h n 6 (n + 7) 20 7 ∧ AF h n 7 (n + 8) 20 7 ∧ AF h n 8 (n + 9) 20 420 ∧ 24 ≤ n
theorem NeS.all {h : MH} {n : Nat} (s : NeS h n) : (hkd h n = 2 ∧ hfr h n 0 = some (n + 1) ∧ hkd h (n + 1) = 20 ∧ hln h (n + 1) = 49 ∧ hfr h n 1 = some (n + 2) ∧ hkd h (n + 2) = 20 ∧ hln h (n + 2) = 49 ∧ hfr h n 2 = some (n + 3) ∧ hkd h (n + 3) = 20 ∧ hln h (n + 3) = 7 ∧ hfr h n 3 = some (n + 4) ∧ hkd h (n + 4) = 20 ∧ hln h (n + 4) = 7 ∧ hfr h n 4 = some (n + 5) ∧ hkd h (n + 5) = 20 ∧ hln h (n + 5) = 7 ∧ hfr h n 5 = some (n + 6) ∧ hkd h (n + 6) = 20 ∧ hln h (n + 6) = 7 ∧ hfr h n 6 = some (n + 7) ∧ hkd h (n + 7) = 20 ∧ hln h (n + 7) = 7 ∧ hfr h n 7 = some (n + 8) ∧ hkd h (n + 8) = 20 ∧ hln h (n + 8) = 7 ∧ hfr h n 8 = some (n + 9) ∧ hkd h (n + 9) = 20 ∧ hln h (n + 9) = 420) ∧ 24 ≤ n := by
  obtain ⟨a, ⟨b1, b2, b3⟩, ⟨c1, c2, c3⟩, ⟨d1, d2, d3⟩, ⟨e1, e2, e3⟩, ⟨f1, f2, f3⟩, ⟨g1, g2, g3⟩, ⟨i1, i2, i3⟩, ⟨j1, j2, j3⟩, ⟨k1, k2, k3⟩, l⟩ := s
  exact ⟨⟨a, b1, b2, b3, c1, c2, c3, d1, d2, d3, e1, e2, e3, f1, f2, f3, g1, g2, g3, i1, i2, i3, j1, j2, j3, k1, k2, k3⟩, l⟩
/-- a message, packed -/
def pkm (k f t d : Int32) : Int32 := ((k ||| (f <<< (nI 2 &&& 31))) ||| (t <<< (nI 5 &&& 31))) ||| (d <<< (nI 8 &&& 31))
def pk (p : RW) (i : Nat) : Int32 := pkm (p (154 + 4 * i)) (p (154 + 4 * i + 1)) (p (154 + 4 * i + 2)) (p (154 + 4 * i + 3))
/-- the bits of the active ones, of the worse ones -/
def bits7 (x : Int32) (p : RW) (j : Nat) : Prop := ∃ m, m < 128 ∧ x = nI m ∧ ∀ r, r < 7 → bt x r = gR p r j
def NeV (h : MH) (n : Nat) (p : RW) : Prop :=
  (∀ r o, r < 7 → o < 7 → hia h (n + 1) (r * 7 + o) = gC p r o) ∧ (∀ r o, r < 7 → o < 7 → hia h (n + 2) (r * 7 + o) = gT p r o) ∧
  (∀ r, r < 7 → hia h (n + 3) r = mNb p r) ∧ (∀ r, r < 7 → hia h (n + 4) r = gR p r 0) ∧ (∀ r, r < 7 → hia h (n + 5) r = gR p r 1) ∧ (∀ r, r < 7 → hia h (n + 6) r = gR p r 2) ∧ (∀ r, r < 7 → hia h (n + 7) r = gR p r 4) ∧ (∀ r, r < 7 → hia h (n + 8) r = gR p r 5) ∧
  (∀ i, i < ql p → hia h (n + 9) i = pk p i) ∧ hfi h n 9 = p 6 ∧ bits7 (hfi h n 10) p 3 ∧ bits7 (hfi h n 11) p 6 ∧ hfi h n 12 = p 5
theorem e_min (d : Nat) (x y : Int32) (h : MH) (Q : RT) : callD (d + 1) 251 [.int x, .int y] h Q = Q (some (.int (if y < x then y else x))) h := by
  rw [E_J_min]
  by_cases c : y < x <;> simp only [U_J_min (cm _), SA, SB, SG, SV, c, if_true, if_false, true_implies, not_true_eq_false, not_false_eq_true, false_implies, and_true, true_and]
theorem e_bit (d : Nat) (x : Int32) (k : Nat) (h : MH) (Q : RT) : callD (d + 1) 115 [.int x, .int (nI k)] h Q = Q (some (.int (bt x k))) h := by
  rw [E_Di_bit]
  simp only [U_Di_bit (cm _), SA, SB, SG, SV, bt]
theorem x_by (d n r o : Nat) (hr : r < 7) (ho : o < 7) {h : MH} {p : RW} (hS : NeS h n) (hV : NeV h n p) (Q : RT) : callD (d + 2) 25 [.ref n, .int (nI r), .int (nI o)] h Q = Q (some (.int (mBy p r o))) h := by
  obtain ⟨sh, -⟩ := hS.all
  rw [E_Ne_by]
  unfold mBy
  by_cases c : gC p r o = nI 0
  · rw [if_pos (Or.inl c)]
    simp (disch := omega) only [U_Ne_by (cm _), SA, SB, SG, SV, sh, pk_mul, nI_add, nI_clamp, in_eq, hV.1 r o hr ho, c, true_implies, not_true_eq_false, not_false_eq_true, false_implies, and_true, true_and]
  · simp (disch := omega) only [U_Ne_by (cm _), SA, SB, SC1, SC2, SG, SV, sh, pk_mul, nI_add, nI_clamp, in_eq, hV.1 r o hr ho, hV.2.1 r o hr ho, c, e_min, true_implies, not_true_eq_false, not_false_eq_true, false_implies, and_true, true_and, false_or]
    by_cases c2 : nI 9999 < gT p r o + gC p r o
    · rw [if_pos c2, if_neg (fun q => Int32.lt_irrefl (Int32.lt_trans q c2))]
    · rw [if_neg c2]
      by_cases c3 : gT p r o + gC p r o < nI 9999
      · rw [if_pos c3]
      · rw [if_neg c3]
        exact congrArg (fun z => Q (some (.int z)) h) (Int32.le_antisymm (Int32.not_lt.mp c3) (Int32.not_lt.mp c2))
theorem x_l_leastBy (d n r : Nat) (hr : r < 7) {h : MH} {p : RW} (hS : NeS h n) (hV : NeV h n p) (Q : RT) (lm : Nat × Nat) : ∀ (m k : Nat) (x : Int32), k + m = 7 → WP cd_Ne_leastBy (callD (d + 2)) Q lm 6 [] [some (.ref n), some (.int (nI r)), some (.int x), some (.int (nI k))] h = Q (some (.int (itr (fun x o => if mBy p r o < x then mBy p r o else x) k m x))) h
  | 0, k, x, hk => by
    obtain rfl : k = 7 := by omega
    rw [U_Ne_leastBy_6 (cm _)]
    simp (disch := omega) only [U_Ne_leastBy (cm _), SA, SB, SG, SV, leI, itr_0, Nat.le_refl, true_implies, not_true_eq_false, false_implies, and_true]
  | m + 1, k, x, hk => by
    obtain ⟨sh, -⟩ := hS.all
    have hk7 : ¬ 7 ≤ k := by omega
    rw [U_Ne_leastBy_6 (cm _), itr_s]
    simp (disch := first | omega | exact hS | exact hV) only [U_Ne_leastBy (cm _), SA, SB, SC1, SC2, SG, SV, leI, hk7, sh, x_by d n r k hr (by omega) hS hV, e_min, nI_add, true_implies, not_true_eq_false, not_false_eq_true, false_implies, and_true, true_and, x_l_leastBy d n r hr hS hV Q lm m (k + 1) _ (by omega)]
theorem x_leastBy (d n r : Nat) (hr : r < 7) {h : MH} {p : RW} (hS : NeS h n) (hV : NeV h n p) (Q : RT) : callD (d + 3) 26 [.ref n, .int (nI r)] h Q = Q (some (.int (mLeast p r))) h := by
  rw [E_Ne_leastBy]
  simp only [U_Ne_leastBy (cm _), SA, SB, SG, SV, x_l_leastBy d n r hr hS hV Q _ 7 0 _ rfl, mLeast]
/-- the feasible ones, as bits -/
def mFs (p : RW) (r : Nat) : Int32 := itr (fun x o => if bt (mNb p r) o = nI 1 ∧ gT p r o < gR p r 1 then x ||| sh1 o else x) 0 7 (nI 0)
theorem x_l_feasible (d n r : Nat) (hr : r < 7) {h : MH} {p : RW} (hS : NeS h n) (hV : NeV h n p) (Q : RT) (lm : Nat × Nat) : ∀ (m k : Nat) (x : Int32) (w : Option Value), k + m = 7 → WP cd_Ne_feasible (callD d) Q lm 4 [] [some (.ref n), some (.int (nI r)), some (.int x), some (.int (nI k)), w] h = Q (some (.int (itr (fun x o => if bt (mNb p r) o = nI 1 ∧ gT p r o < gR p r 1 then x ||| sh1 o else x) k m x))) h
  | 0, k, x, w, hk => by
    obtain rfl : k = 7 := by omega
    rw [U_Ne_feasible_4 (cm _)]
    simp (disch := omega) only [U_Ne_feasible (cm _), SA, SB, SG, SV, leI, itr_0, Nat.le_refl, true_implies, not_true_eq_false, false_implies, and_true]
  | m + 1, k, x, w, hk => by
    obtain ⟨sh, -⟩ := hS.all
    have hk7 : ¬ 7 ≤ k := by omega
    have ih := fun x w => x_l_feasible d n r hr hS hV Q lm m (k + 1) x w (by omega)
    have e1 := hV.2.1 r k hr (by omega)
    have e2 := hV.2.2.1 r hr
    have e3 := hV.2.2.2.2.1 r hr
    rw [U_Ne_feasible_4 (cm _), itr_s]
    by_cases c : bt (mNb p r) k = nI 1
    · by_cases c2 : gT p r k < gR p r 1
      · rw [if_pos ⟨c, c2⟩]
        have c2' : ¬ gR p r 1 ≤ gT p r k := Int32.not_le.mpr c2
        unfold bt at c
        simp (disch := omega) only [U_Ne_feasible (cm _), SA, SB, SG, SV, leI, hk7, sh, e1, e2, e3, c, c2', eqI, pk_mul, nI_add, nI_clamp, in_eq, sh1, Nat.one_ne_zero, true_implies, not_true_eq_false, not_false_eq_true, false_implies, and_true, true_and, ih]
      · rw [if_neg (fun q => c2 q.2)]
        have c2' : gR p r 1 ≤ gT p r k := Int32.not_lt.mp c2
        unfold bt at c
        simp (disch := omega) only [U_Ne_feasible (cm _), SA, SB, SG, SV, leI, hk7, sh, e1, e2, e3, c, c2', eqI, pk_mul, nI_add, nI_clamp, in_eq, Nat.one_ne_zero, true_implies, not_true_eq_false, not_false_eq_true, false_implies, and_true, true_and, ih]
    · rw [if_neg (fun q => c q.1)]
      unfold bt at c
      simp (disch := omega) only [U_Ne_feasible (cm _), SA, SB, SG, SV, leI, hk7, sh, e1, e2, e3, c, eqI, pk_mul, nI_add, nI_clamp, in_eq, true_implies, not_true_eq_false, not_false_eq_true, false_implies, and_true, true_and, ih]
theorem x_feasible (d n r : Nat) (hr : r < 7) {h : MH} {p : RW} (hS : NeS h n) (hV : NeV h n p) (Q : RT) : callD (d + 1) 27 [.ref n, .int (nI r)] h Q = Q (some (.int (mFs p r))) h := by
  rw [E_Ne_feasible]
  simp only [U_Ne_feasible (cm _), SA, SB, SG, SV, x_l_feasible d n r hr hS hV Q _ 7 0 _ _ rfl, mFs]
