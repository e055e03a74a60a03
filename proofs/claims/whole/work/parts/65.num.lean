/-! ===== whole numbers in 32 and 64 bits ===== -/
def iI (x : Int) : Int32 := Int32.ofInt x
def jI (x : Int) : Int64 := Int64.ofInt x
theorem iI_n (n : Nat) : iI (n : Int) = nI n := Int32.ofInt_eq_ofNat
theorem jI_n (n : Nat) : jI (n : Int) = lN n := Int64.ofInt_eq_ofNat
theorem iI_m1 : iI (-1) = -1 := by decide
theorem iI_t {x : Int} (h : -2147483648 ≤ x ∧ x < 2147483648) : (iI x).toInt = x := Int32.toInt_ofInt_of_le (by omega) (by omega)
theorem jI_t {x : Int} (h : -9223372036854775808 ≤ x ∧ x < 9223372036854775808) : (jI x).toInt = x := Int64.toInt_ofInt_of_le (by omega) (by omega)
theorem iI_j {x : Int} (h : -2147483648 ≤ x ∧ x < 2147483648) : (iI x).toInt64 = jI x := Int64.toInt_inj.mp (by rw [Int32.toInt_toInt64, iI_t h, jI_t (by omega)])
theorem jI_i (x : Int) : (jI x).toInt32 = iI x := Int64.toInt32_ofInt
theorem jI_add (x y : Int) : jI x + jI y = jI (x + y) := (Int64.ofInt_add x y).symm
theorem jI_sub (x y : Int) : jI x - jI y = jI (x - y) := (Int64.ofInt_sub x y).symm
theorem jI_mul (x y : Int) : jI x * jI y = jI (x * y) := (Int64.ofInt_mul x y).symm
theorem iI_add (x y : Int) : iI x + iI y = iI (x + y) := (Int32.ofInt_add x y).symm
theorem iI_sub (x y : Int) : iI x - iI y = iI (x - y) := (Int32.ofInt_sub x y).symm
theorem iI_mul (x y : Int) : iI x * iI y = iI (x * y) := (Int32.ofInt_mul x y).symm
theorem iI_div {x y : Int} (hx : -2147483648 ≤ x ∧ x < 2147483648) (hy : -2147483648 ≤ y ∧ y < 2147483648) : iI x / iI y = iI (x.tdiv y) := by
  have e1 : Int32.minValue.toInt = -2147483648 := by decide
  have e2 : Int32.maxValue.toInt = 2147483647 := by decide
  exact (Int32.ofInt_tdiv (by omega) (by omega) (by omega) (by omega)).symm
theorem jI_div {x y : Int} (hx : -9223372036854775808 ≤ x ∧ x < 9223372036854775808) (hy : -9223372036854775808 ≤ y ∧ y < 9223372036854775808) : jI x / jI y = jI (x.tdiv y) := by
  have e1 : Int64.minValue.toInt = -9223372036854775808 := by decide
  have e2 : Int64.maxValue.toInt = 9223372036854775807 := by decide
  exact (Int64.ofInt_tdiv (by omega) (by omega) (by omega) (by omega)).symm
theorem iI_rem {x y : Int} (hx : -2147483648 ≤ x ∧ x < 2147483648) (hy : -2147483648 ≤ y ∧ y < 2147483648) : iI x - iI x / iI y * iI y = iI (x.tmod y) := by
  rw [iI_div hx hy, iI_mul, iI_sub, Int.tmod_def, Int.mul_comm]
theorem jI_rem {x y : Int} (hx : -9223372036854775808 ≤ x ∧ x < 9223372036854775808) (hy : -9223372036854775808 ≤ y ∧ y < 9223372036854775808) : jI x - jI x / jI y * jI y = jI (x.tmod y) := by
  rw [jI_div hx hy, jI_mul, jI_sub, Int.tmod_def, Int.mul_comm]
theorem iI_eq {x y : Int} (hx : -2147483648 ≤ x ∧ x < 2147483648) (hy : -2147483648 ≤ y ∧ y < 2147483648) : (iI x = iI y) = (x = y) := propext ⟨fun h => by
  have := congrArg Int32.toInt h
  rw [iI_t hx, iI_t hy] at this
  exact this, fun h => by rw [h]⟩
theorem iI_lt {x y : Int} (hx : -2147483648 ≤ x ∧ x < 2147483648) (hy : -2147483648 ≤ y ∧ y < 2147483648) : (iI x < iI y) = (x < y) := propext (by rw [Int32.lt_iff_toInt_lt, iI_t hx, iI_t hy])
theorem iI_le {x y : Int} (hx : -2147483648 ≤ x ∧ x < 2147483648) (hy : -2147483648 ≤ y ∧ y < 2147483648) : (iI x ≤ iI y) = (x ≤ y) := propext (by rw [Int32.le_iff_toInt_le, iI_t hx, iI_t hy])
theorem jI_eq {x y : Int} (hx : -9223372036854775808 ≤ x ∧ x < 9223372036854775808) (hy : -9223372036854775808 ≤ y ∧ y < 9223372036854775808) : (jI x = jI y) = (x = y) := propext ⟨fun h => by
  have := congrArg Int64.toInt h
  rw [jI_t hx, jI_t hy] at this
  exact this, fun h => by rw [h]⟩
theorem jI_lt {x y : Int} (hx : -9223372036854775808 ≤ x ∧ x < 9223372036854775808) (hy : -9223372036854775808 ≤ y ∧ y < 9223372036854775808) : (jI x < jI y) = (x < y) := propext (by rw [Int64.lt_iff_toInt_lt, jI_t hx, jI_t hy])
theorem jI_le {x y : Int} (hx : -9223372036854775808 ≤ x ∧ x < 9223372036854775808) (hy : -9223372036854775808 ≤ y ∧ y < 9223372036854775808) : (jI x ≤ jI y) = (x ≤ y) := propext (by rw [Int64.le_iff_toInt_le, jI_t hx, jI_t hy])
/-- what a comparison of longs lays down, asked of by the branches behind it -/
def lc (x y : Int64) : Int32 := if x < y then -1 else if x = y then nI 0 else nI 1
theorem SL (G : GT) (R : RT) (lm : Nat × Nat) (X : KT) (nx a b : Nat) (i : Int32) (j : Int64) (t : List Nat) (x y : Int64) (st : List Value) (ls : LT) (h : MH) : stp G R lm (35, nx, a, b, i, j, t) X (.long y :: .long x :: st) ls h = X nx (.int (lc x y) :: st) ls h := rfl
theorem lc_lt (x y : Int64) : ((lc x y) < nI 0) = (x < y) := propext (by
  unfold lc
  by_cases c : x < y
  · rw [if_pos c]; exact ⟨fun _ => c, fun _ => by decide⟩
  · rw [if_neg c]
    by_cases c2 : x = y
    · rw [if_pos c2]; exact ⟨fun q => absurd q (by decide), fun q => absurd q c⟩
    · rw [if_neg c2]; exact ⟨fun q => absurd q (by decide), fun q => absurd q c⟩)
theorem lc_le (x y : Int64) : ((lc x y) ≤ nI 0) = (x ≤ y) := propext (by
  unfold lc
  by_cases c : x < y
  · rw [if_pos c]; exact ⟨fun _ => Int64.le_of_lt c, fun _ => by decide⟩
  · rw [if_neg c]
    by_cases c2 : x = y
    · rw [if_pos c2]; exact ⟨fun _ => by rw [c2]; exact Int64.le_refl _, fun _ => by decide⟩
    · rw [if_neg c2]
      refine ⟨fun q => absurd q (by decide), fun q => ?_⟩
      rw [Int64.le_iff_toInt_le] at q
      rw [Int64.lt_iff_toInt_lt] at c
      exact absurd (Int64.toInt_inj.mp (by omega)) c2)
theorem lc_gt (x y : Int64) : (nI 0 < (lc x y)) = (y < x) := propext (by
  have h := lc_le x y
  have h1 : (nI 0 < (lc x y)) ↔ ¬ ((lc x y) ≤ nI 0) := Int32.not_le.symm
  rw [h1, h, Int64.not_le])
theorem lc_ge (x y : Int64) : (nI 0 ≤ (lc x y)) = (y ≤ x) := propext (by
  have h := lc_lt x y
  have h1 : (nI 0 ≤ (lc x y)) ↔ ¬ ((lc x y) < nI 0) := Int32.not_lt.symm
  rw [h1, h, Int64.not_lt])
theorem lc_eq (x y : Int64) : ((lc x y) = nI 0) = (x = y) := propext (by
  unfold lc
  by_cases c : x < y
  · rw [if_pos c]
    refine ⟨fun q => absurd q (by decide), fun q => ?_⟩
    rw [q] at c
    exact absurd c Int64.lt_irrefl
  · rw [if_neg c]
    by_cases c2 : x = y
    · rw [if_pos c2]; exact ⟨fun _ => c2, fun _ => rfl⟩
    · rw [if_neg c2]; exact ⟨fun q => absurd q (by decide), fun q => absurd q c2⟩)
theorem LC : (∀ x y : Int64, ((lc x y) < nI 0) = (x < y)) ∧ (∀ x y : Int64, ((lc x y) ≤ nI 0) = (x ≤ y)) ∧ (∀ x y : Int64, (nI 0 < (lc x y)) = (y < x)) ∧ (∀ x y : Int64, (nI 0 ≤ (lc x y)) = (y ≤ x)) ∧ (∀ x y : Int64, ((lc x y) = nI 0) = (x = y)) := ⟨lc_lt, lc_le, lc_gt, lc_ge, lc_eq⟩
/-- a switch that hits, one that misses -/
theorem tsw_hit {P : Prop} {F : Nat → Prop} {n : Nat} {x i : Int} (k0 : Nat) (h : x = i + k0) (hk : k0 < n) : ((x < i ∨ i + n ≤ x → P) ∧ ∀ k : Nat, k < n → x = i + k → F k) = F k0 := propext ⟨fun q => q.2 k0 hk h, fun q => ⟨fun z => by omega, fun k _ e => by
  have : k = k0 := by omega
  rw [this]; exact q⟩⟩
theorem tsw_miss {P : Prop} {F : Nat → Prop} {n : Nat} {x i : Int} (h : x < i ∨ i + n ≤ x) : ((x < i ∨ i + n ≤ x → P) ∧ ∀ k : Nat, k < n → x = i + k → F k) = P := propext ⟨fun q => q.1 h, fun q => ⟨fun _ => q, fun k _ e => by omega⟩⟩
def vI : Option Int → Int32
  | none => nI 2000000000
  | some x => iI x
theorem x_j146 (d : Nat) (a b c : Option Value) {w : Int} (hw : -9223372036854775808 ≤ w ∧ w < 9223372036854775808) (h : MH) (Q : RT) (lm : Nat × Nat) : WP cd_Ju_joins (callD d) Q lm 146 [] [a, b, c, some (.long (jI w)), none] h = Q (some (.int (vI (cl w)))) h := by
  have e1 : (-1000000000 : Int64) = jI (-1000000000) := by decide
  have e2 : lN 1000000000 = jI 1000000000 := by decide
  have l1 := jI_lt hw (y := -1000000000) (by omega)
  have l2 := jI_le hw (y := 1000000000) (by omega)
  unfold cl
  by_cases c1 : w < -1000000000
  · rw [if_neg (by omega)]
    simp only [U_Ju_joins (cm _), SA, SB, SV, e1, e2, ↓SL, LC, l1, l2, c1, true_implies, not_true_eq_false, not_false_eq_true, false_implies, true_and, and_true, vI]
  · by_cases c2 : w ≤ 1000000000
    · rw [if_pos (by omega)]
      simp only [U_Ju_joins (cm _), SA, SB, SV, e1, e2, ↓SL, LC, l1, l2, c1, c2, jI_i, true_implies, not_true_eq_false, not_false_eq_true, false_implies, true_and, and_true, vI]
    · rw [if_neg (by omega)]
      simp only [U_Ju_joins (cm _), SA, SB, SV, e1, e2, ↓SL, LC, l1, l2, c1, c2, true_implies, not_true_eq_false, not_false_eq_true, false_implies, true_and, and_true, vI]
theorem mul_bd {x y : Int} (hx : bd x) (hy : bd y) : -1000000000000000000 ≤ x * y ∧ x * y ≤ 1000000000000000000 := by
  obtain ⟨x1, x2⟩ := hx
  obtain ⟨y1, y2⟩ := hy
  have hx' : x.natAbs ≤ 1000000000 := by omega
  have hy' : y.natAbs ≤ 1000000000 := by omega
  have h := Nat.mul_le_mul hx' hy'
  rw [← Int.natAbs_mul] at h
  omega
theorem tdiv_bd {x y : Int} (hx : bd x) : bd (x.tdiv y) := by
  obtain ⟨x1, x2⟩ := hx
  have h : (x.tdiv y).natAbs ≤ x.natAbs := by
    rw [Int.natAbs_tdiv]
    exact Nat.div_le_self _ _
  constructor <;> omega
theorem tmod_bd {x y : Int} (hx : bd x) : bd (x.tmod y) := by
  obtain ⟨x1, x2⟩ := hx
  have h : (x.tmod y).natAbs ≤ x.natAbs := by
    rw [Int.natAbs_tmod]
    exact Nat.mod_le _ _
  constructor <;> omega
theorem cl_of {x : Int} (h : bd x) : cl x = some x := if_pos h
theorem cl_big : cl 2000000000 = none := if_neg (by omega)
theorem op_range {op : Nat} (h6 : 6 ≤ op) (h13 : op ≤ 13) : op = 6 ∨ op = 7 ∨ op = 8 ∨ op = 9 ∨ op = 10 ∨ op = 11 ∨ op = 12 ∨ op = 13 := by omega
theorem nI_tc (n : Nat) (h : n < 2 ^ 31 := by omega) : (nI n).toInt = (n : Int) := nI_toInt h
set_option maxRecDepth 20000 in
theorem UC_Ju_joins_146 {G : GT} (hG : Gmono G) (R : RT) (lm : Nat × Nat) : WP cd_Ju_joins G R lm 0 = stp G R lm (1, 1, 0, 0, 0, 0, []) (WP cd_Ju_joins G R lm) ∧ WP cd_Ju_joins G R lm 1 = stp G R lm (55, 135, 0, 0, 6, 0, [44, 53, 62, 71, 89, 107, 121]) (WP cd_Ju_joins G R lm) ∧ WP cd_Ju_joins G R lm 44 = stp G R lm (1, 45, 1, 0, 0, 0, []) (WP cd_Ju_joins G R lm) ∧ WP cd_Ju_joins G R lm 45 = stp G R lm (33, 46, 0, 0, 0, 0, []) (WP cd_Ju_joins G R lm) ∧ WP cd_Ju_joins G R lm 46 = stp G R lm (1, 47, 2, 0, 0, 0, []) (WP cd_Ju_joins G R lm) ∧ WP cd_Ju_joins G R lm 47 = stp G R lm (33, 48, 0, 0, 0, 0, []) (WP cd_Ju_joins G R lm) ∧ WP cd_Ju_joins G R lm 48 = stp G R lm (24, 49, 0, 0, 0, 0, []) (WP cd_Ju_joins G R lm) ∧ WP cd_Ju_joins G R lm 49 = stp G R lm (6, 50, 3, 0, 0, 0, []) (WP cd_Ju_joins G R lm) ∧ WP cd_Ju_joins G R lm 50 = stp G R lm (40, 146, 0, 0, 0, 0, []) (WP cd_Ju_joins G R lm) ∧ WP cd_Ju_joins G R lm 53 = stp G R lm (1, 54, 1, 0, 0, 0, []) (WP cd_Ju_joins G R lm) ∧ WP cd_Ju_joins G R lm 54 = stp G R lm (33, 55, 0, 0, 0, 0, []) (WP cd_Ju_joins G R lm) ∧ WP cd_Ju_joins G R lm 55 = stp G R lm (1, 56, 2, 0, 0, 0, []) (WP cd_Ju_joins G R lm) ∧ WP cd_Ju_joins G R lm 56 = stp G R lm (33, 57, 0, 0, 0, 0, []) (WP cd_Ju_joins G R lm) ∧ WP cd_Ju_joins G R lm 57 = stp G R lm (25, 58, 0, 0, 0, 0, []) (WP cd_Ju_joins G R lm) ∧ WP cd_Ju_joins G R lm 58 = stp G R lm (6, 59, 3, 0, 0, 0, []) (WP cd_Ju_joins G R lm) ∧ WP cd_Ju_joins G R lm 59 = stp G R lm (40, 146, 0, 0, 0, 0, []) (WP cd_Ju_joins G R lm) ∧ WP cd_Ju_joins G R lm 62 = stp G R lm (1, 63, 1, 0, 0, 0, []) (WP cd_Ju_joins G R lm) ∧ WP cd_Ju_joins G R lm 63 = stp G R lm (33, 64, 0, 0, 0, 0, []) (WP cd_Ju_joins G R lm) ∧ WP cd_Ju_joins G R lm 64 = stp G R lm (1, 65, 2, 0, 0, 0, []) (WP cd_Ju_joins G R lm) ∧ WP cd_Ju_joins G R lm 65 = stp G R lm (33, 66, 0, 0, 0, 0, []) (WP cd_Ju_joins G R lm) ∧ WP cd_Ju_joins G R lm 66 = stp G R lm (26, 67, 0, 0, 0, 0, []) (WP cd_Ju_joins G R lm) ∧ WP cd_Ju_joins G R lm 67 = stp G R lm (6, 68, 3, 0, 0, 0, []) (WP cd_Ju_joins G R lm) ∧ WP cd_Ju_joins G R lm 68 = stp G R lm (40, 146, 0, 0, 0, 0, []) (WP cd_Ju_joins G R lm) ∧ WP cd_Ju_joins G R lm 71 = stp G R lm (1, 72, 2, 0, 0, 0, []) (WP cd_Ju_joins G R lm) ∧ WP cd_Ju_joins G R lm 72 = stp G R lm (48, 75, 81, 0, 0, 0, []) (WP cd_Ju_joins G R lm) ∧ WP cd_Ju_joins G R lm 75 = stp G R lm (8, 78, 0, 0, 0, lN 2000000000, []) (WP cd_Ju_joins G R lm) ∧ WP cd_Ju_joins G R lm 78 = stp G R lm (40, 85, 0, 0, 0, 0, []) (WP cd_Ju_joins G R lm) ∧ WP cd_Ju_joins G R lm 81 = stp G R lm (1, 82, 1, 0, 0, 0, []) (WP cd_Ju_joins G R lm) ∧ WP cd_Ju_joins G R lm 82 = stp G R lm (1, 83, 2, 0, 0, 0, []) (WP cd_Ju_joins G R lm) ∧ WP cd_Ju_joins G R lm 83 = stp G R lm (15, 84, 0, 0, 0, 0, []) (WP cd_Ju_joins G R lm) ∧ WP cd_Ju_joins G R lm 84 = stp G R lm (33, 85, 0, 0, 0, 0, []) (WP cd_Ju_joins G R lm) ∧ WP cd_Ju_joins G R lm 85 = stp G R lm (6, 86, 3, 0, 0, 0, []) (WP cd_Ju_joins G R lm) ∧ WP cd_Ju_joins G R lm 86 = stp G R lm (40, 146, 0, 0, 0, 0, []) (WP cd_Ju_joins G R lm) ∧ WP cd_Ju_joins G R lm 89 = stp G R lm (1, 90, 2, 0, 0, 0, []) (WP cd_Ju_joins G R lm) ∧ WP cd_Ju_joins G R lm 90 = stp G R lm (48, 93, 99, 0, 0, 0, []) (WP cd_Ju_joins G R lm) ∧ WP cd_Ju_joins G R lm 93 = stp G R lm (8, 96, 0, 0, 0, lN 2000000000, []) (WP cd_Ju_joins G R lm) ∧ WP cd_Ju_joins G R lm 96 = stp G R lm (40, 103, 0, 0, 0, 0, []) (WP cd_Ju_joins G R lm) ∧ WP cd_Ju_joins G R lm 99 = stp G R lm (1, 100, 1, 0, 0, 0, []) (WP cd_Ju_joins G R lm) ∧ WP cd_Ju_joins G R lm 100 = stp G R lm (1, 101, 2, 0, 0, 0, []) (WP cd_Ju_joins G R lm) ∧ WP cd_Ju_joins G R lm 101 = stp G R lm (16, 102, 0, 0, 0, 0, []) (WP cd_Ju_joins G R lm) ∧ WP cd_Ju_joins G R lm 102 = stp G R lm (33, 103, 0, 0, 0, 0, []) (WP cd_Ju_joins G R lm) ∧ WP cd_Ju_joins G R lm 103 = stp G R lm (6, 104, 3, 0, 0, 0, []) (WP cd_Ju_joins G R lm) ∧ WP cd_Ju_joins G R lm 104 = stp G R lm (40, 146, 0, 0, 0, 0, []) (WP cd_Ju_joins G R lm) ∧ WP cd_Ju_joins G R lm 107 = stp G R lm (1, 108, 1, 0, 0, 0, []) (WP cd_Ju_joins G R lm) ∧ WP cd_Ju_joins G R lm 108 = stp G R lm (1, 109, 2, 0, 0, 0, []) (WP cd_Ju_joins G R lm) ∧ WP cd_Ju_joins G R lm 109 = stp G R lm (44, 112, 116, 0, 0, 0, []) (WP cd_Ju_joins G R lm) ∧ WP cd_Ju_joins G R lm 112 = stp G R lm (8, 113, 0, 0, 0, lN 1, []) (WP cd_Ju_joins G R lm) ∧ WP cd_Ju_joins G R lm 113 = stp G R lm (40, 117, 0, 0, 0, 0, []) (WP cd_Ju_joins G R lm) ∧ WP cd_Ju_joins G R lm 116 = stp G R lm (8, 117, 0, 0, 0, lN 0, []) (WP cd_Ju_joins G R lm) ∧ WP cd_Ju_joins G R lm 117 = stp G R lm (6, 118, 3, 0, 0, 0, []) (WP cd_Ju_joins G R lm) ∧ WP cd_Ju_joins G R lm 118 = stp G R lm (40, 146, 0, 0, 0, 0, []) (WP cd_Ju_joins G R lm) ∧ WP cd_Ju_joins G R lm 121 = stp G R lm (1, 122, 1, 0, 0, 0, []) (WP cd_Ju_joins G R lm) ∧ WP cd_Ju_joins G R lm 122 = stp G R lm (1, 123, 2, 0, 0, 0, []) (WP cd_Ju_joins G R lm) ∧ WP cd_Ju_joins G R lm 123 = stp G R lm (46, 126, 130, 0, 0, 0, []) (WP cd_Ju_joins G R lm) ∧ WP cd_Ju_joins G R lm 126 = stp G R lm (8, 127, 0, 0, 0, lN 1, []) (WP cd_Ju_joins G R lm) ∧ WP cd_Ju_joins G R lm 127 = stp G R lm (40, 131, 0, 0, 0, 0, []) (WP cd_Ju_joins G R lm) ∧ WP cd_Ju_joins G R lm 130 = stp G R lm (8, 131, 0, 0, 0, lN 0, []) (WP cd_Ju_joins G R lm) ∧ WP cd_Ju_joins G R lm 131 = stp G R lm (6, 132, 3, 0, 0, 0, []) (WP cd_Ju_joins G R lm) ∧ WP cd_Ju_joins G R lm 132 = stp G R lm (40, 146, 0, 0, 0, 0, []) (WP cd_Ju_joins G R lm) ∧ WP cd_Ju_joins G R lm 135 = stp G R lm (1, 136, 1, 0, 0, 0, []) (WP cd_Ju_joins G R lm) ∧ WP cd_Ju_joins G R lm 136 = stp G R lm (1, 137, 2, 0, 0, 0, []) (WP cd_Ju_joins G R lm) ∧ WP cd_Ju_joins G R lm 137 = stp G R lm (42, 140, 144, 0, 0, 0, []) (WP cd_Ju_joins G R lm) ∧ WP cd_Ju_joins G R lm 140 = stp G R lm (8, 141, 0, 0, 0, lN 1, []) (WP cd_Ju_joins G R lm) ∧ WP cd_Ju_joins G R lm 141 = stp G R lm (40, 145, 0, 0, 0, 0, []) (WP cd_Ju_joins G R lm) ∧ WP cd_Ju_joins G R lm 144 = stp G R lm (8, 145, 0, 0, 0, lN 0, []) (WP cd_Ju_joins G R lm) ∧ WP cd_Ju_joins G R lm 145 = stp G R lm (6, 146, 3, 0, 0, 0, []) (WP cd_Ju_joins G R lm) ∧ WP cd_Ju_joins G R lm 147 = stp G R lm (8, 150, 0, 0, 0, (-1000000000), []) (WP cd_Ju_joins G R lm) ∧ WP cd_Ju_joins G R lm 150 = stp G R lm (35, 151, 0, 0, 0, 0, []) (WP cd_Ju_joins G R lm) ∧ WP cd_Ju_joins G R lm 151 = stp G R lm (49, 154, 162, 0, 0, 0, []) (WP cd_Ju_joins G R lm) ∧ WP cd_Ju_joins G R lm 154 = stp G R lm (3, 155, 3, 0, 0, 0, []) (WP cd_Ju_joins G R lm) ∧ WP cd_Ju_joins G R lm 155 = stp G R lm (8, 158, 0, 0, 0, lN 1000000000, []) (WP cd_Ju_joins G R lm) ∧ WP cd_Ju_joins G R lm 158 = stp G R lm (35, 159, 0, 0, 0, 0, []) (WP cd_Ju_joins G R lm) ∧ WP cd_Ju_joins G R lm 159 = stp G R lm (52, 162, 167, 0, 0, 0, []) (WP cd_Ju_joins G R lm) ∧ WP cd_Ju_joins G R lm 162 = stp G R lm (7, 164, 0, 0, nI 2000000000, 0, []) (WP cd_Ju_joins G R lm) ∧ WP cd_Ju_joins G R lm 164 = stp G R lm (40, 169, 0, 0, 0, 0, []) (WP cd_Ju_joins G R lm) ∧ WP cd_Ju_joins G R lm 167 = stp G R lm (3, 168, 3, 0, 0, 0, []) (WP cd_Ju_joins G R lm) ∧ WP cd_Ju_joins G R lm 168 = stp G R lm (34, 169, 0, 0, 0, 0, []) (WP cd_Ju_joins G R lm) ∧ WP cd_Ju_joins G R lm 169 = stp G R lm (81, 170, 0, 0, 0, 0, []) (WP cd_Ju_joins G R lm) := ⟨WP_eq hG rfl, WP_eq hG rfl, WP_eq hG rfl, WP_eq hG rfl, WP_eq hG rfl, WP_eq hG rfl, WP_eq hG rfl, WP_eq hG rfl, WP_eq hG rfl, WP_eq hG rfl, WP_eq hG rfl, WP_eq hG rfl, WP_eq hG rfl, WP_eq hG rfl, WP_eq hG rfl, WP_eq hG rfl, WP_eq hG rfl, WP_eq hG rfl, WP_eq hG rfl, WP_eq hG rfl, WP_eq hG rfl, WP_eq hG rfl, WP_eq hG rfl, WP_eq hG rfl, WP_eq hG rfl, WP_eq hG rfl, WP_eq hG rfl, WP_eq hG rfl, WP_eq hG rfl, WP_eq hG rfl, WP_eq hG rfl, WP_eq hG rfl, WP_eq hG rfl, WP_eq hG rfl, WP_eq hG rfl, WP_eq hG rfl, WP_eq hG rfl, WP_eq hG rfl, WP_eq hG rfl, WP_eq hG rfl, WP_eq hG rfl, WP_eq hG rfl, WP_eq hG rfl, WP_eq hG rfl, WP_eq hG rfl, WP_eq hG rfl, WP_eq hG rfl, WP_eq hG rfl, WP_eq hG rfl, WP_eq hG rfl, WP_eq hG rfl, WP_eq hG rfl, WP_eq hG rfl, WP_eq hG rfl, WP_eq hG rfl, WP_eq hG rfl, WP_eq hG rfl, WP_eq hG rfl, WP_eq hG rfl, WP_eq hG rfl, WP_eq hG rfl, WP_eq hG rfl, WP_eq hG rfl, WP_eq hG rfl, WP_eq hG rfl, WP_eq hG rfl, WP_eq hG rfl, WP_eq hG rfl, WP_eq hG rfl, WP_eq hG rfl, WP_eq hG rfl, WP_eq hG rfl, WP_eq hG rfl, WP_eq hG rfl, WP_eq hG rfl, WP_eq hG rfl, WP_eq hG rfl, WP_eq hG rfl⟩
set_option maxHeartbeats 2000000 in
theorem x_joins (d op : Nat) {x y : Int} (h6 : 6 ≤ op) (h13 : op ≤ 13) (hx : bd x) (hy : bd y) (h : MH) (Q : RT) : callD (d + 1) 15 [.int (nI op), .int (iI x), .int (iI y)] h Q = Q (some (.int (vI (aOp op x y)))) h := by
  have rx : -2147483648 ≤ x ∧ x < 2147483648 := ⟨by have := hx.1; omega, by have := hx.2; omega⟩
  have ry : -2147483648 ≤ y ∧ y < 2147483648 := ⟨by have := hy.1; omega, by have := hy.2; omega⟩
  have z0 : nI 0 = iI 0 := by decide
  have ey := iI_eq ry (y := 0) (by omega)
  have eb : lN 2000000000 = jI 2000000000 := by decide
  have eb0 : lN 0 = jI 0 := by decide
  have eb1 : lN 1 = jI 1 := by decide
  rw [E_Ju_joins]
  simp only [UC_Ju_joins_146 (cm _), SA, SB]
  have J := fun (w : Int) (hw : -9223372036854775808 ≤ w ∧ w < 9223372036854775808) (a b c : Option Value) (lm : Nat × Nat) => x_j146 d a b c hw h Q lm
  rcases op_range h6 h13 with rfl | rfl | rfl | rfl | rfl | rfl | rfl | rfl
  · rw [tsw_hit 0 (by decide) (by decide)]
    simp (disch := omega) only [List.getD_cons_zero, List.getD_cons_succ, UC_Ju_joins_146 (cm _), SA, SB, SV, iI_j, jI_add]
    rw [J (x + y) (by omega)]
    rfl
  · rw [tsw_hit 1 (by decide) (by decide)]
    simp (disch := omega) only [List.getD_cons_zero, List.getD_cons_succ, UC_Ju_joins_146 (cm _), SA, SB, SV, iI_j, jI_sub]
    rw [J (x - y) (by omega)]
    rfl
  · rw [tsw_hit 2 (by decide) (by decide)]
    have hm := mul_bd hx hy
    simp (disch := omega) only [List.getD_cons_zero, List.getD_cons_succ, UC_Ju_joins_146 (cm _), SA, SB, SV, iI_j, jI_mul]
    rw [J (x * y) (by omega)]
    rfl
  · rw [tsw_hit 3 (by decide) (by decide)]
    have hd := tdiv_bd (y := y) hx
    unfold bd at hd
    by_cases c : y = 0
    · subst c
      simp (disch := omega) only [List.getD_cons_zero, List.getD_cons_succ, UC_Ju_joins_146 (cm _), SA, SB, SV, z0, eb, true_implies, not_true_eq_false, not_false_eq_true, false_implies, true_and, and_true]
      rw [J 2000000000 (by omega), cl_big]
      rfl
    · simp (disch := omega) only [List.getD_cons_zero, List.getD_cons_succ, UC_Ju_joins_146 (cm _), SA, SB, SV, z0, ey, c, iI_div rx ry, iI_j, true_implies, not_true_eq_false, not_false_eq_true, false_implies, true_and, and_true]
      rw [J (x.tdiv y) (by omega)]
      unfold aOp
      rw [if_neg (by omega), if_neg (by omega), if_neg (by omega), if_pos rfl, if_neg c]
  · rw [tsw_hit 4 (by decide) (by decide)]
    have hd := tmod_bd (y := y) hx
    unfold bd at hd
    by_cases c : y = 0
    · subst c
      simp (disch := omega) only [List.getD_cons_zero, List.getD_cons_succ, UC_Ju_joins_146 (cm _), SA, SB, SV, z0, eb, true_implies, not_true_eq_false, not_false_eq_true, false_implies, true_and, and_true]
      rw [J 2000000000 (by omega), cl_big]
      rfl
    · simp (disch := omega) only [List.getD_cons_zero, List.getD_cons_succ, UC_Ju_joins_146 (cm _), SA, SB, SV, z0, ey, c, iI_rem rx ry, iI_j, true_implies, not_true_eq_false, not_false_eq_true, false_implies, true_and, and_true]
      rw [J (x.tmod y) (by omega)]
      unfold aOp
      rw [if_neg (by omega), if_neg (by omega), if_neg (by omega), if_neg (by omega), if_pos rfl, if_neg c]
  · rw [tsw_hit 5 (by decide) (by decide)]
    by_cases c : x < y
    · simp (disch := omega) only [List.getD_cons_zero, List.getD_cons_succ, UC_Ju_joins_146 (cm _), SA, SB, SV, iI_le, show ¬ y ≤ x by omega, eb1, true_implies, not_true_eq_false, not_false_eq_true, false_implies, true_and, and_true]
      rw [J 1 (by omega)]
      unfold aOp
      simp only [c]
      rfl
    · simp (disch := omega) only [List.getD_cons_zero, List.getD_cons_succ, UC_Ju_joins_146 (cm _), SA, SB, SV, iI_le, show y ≤ x by omega, eb0, true_implies, not_true_eq_false, not_false_eq_true, false_implies, true_and, and_true]
      rw [J 0 (by omega)]
      unfold aOp
      simp only [c]
      rfl
  · rw [tsw_hit 6 (by decide) (by decide)]
    by_cases c : y < x
    · simp (disch := omega) only [List.getD_cons_zero, List.getD_cons_succ, UC_Ju_joins_146 (cm _), SA, SB, SV, iI_le, show ¬ x ≤ y by omega, eb1, true_implies, not_true_eq_false, not_false_eq_true, false_implies, true_and, and_true]
      rw [J 1 (by omega)]
      unfold aOp
      simp only [c]
      rfl
    · simp (disch := omega) only [List.getD_cons_zero, List.getD_cons_succ, UC_Ju_joins_146 (cm _), SA, SB, SV, iI_le, show x ≤ y by omega, eb0, true_implies, not_true_eq_false, not_false_eq_true, false_implies, true_and, and_true]
      rw [J 0 (by omega)]
      unfold aOp
      simp only [c]
      rfl
  · rw [tsw_miss (Or.inr (by decide))]
    by_cases c : x = y
    · simp (disch := omega) only [UC_Ju_joins_146 (cm _), SA, SB, SV, iI_eq, c, eb1, true_implies, not_true_eq_false, not_false_eq_true, false_implies, true_and, and_true]
      rw [J 1 (by omega)]
      unfold aOp
      simp only [c]
      rfl
    · simp (disch := omega) only [UC_Ju_joins_146 (cm _), SA, SB, SV, iI_eq, c, eb0, true_implies, not_true_eq_false, not_false_eq_true, false_implies, true_and, and_true]
      rw [J 0 (by omega)]
      unfold aOp
      simp only [c]
      rfl
