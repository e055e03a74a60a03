/-! ===== tokens ===== -/
def skp (f : Nat → Bool) (c : Nat → Nat) : Nat → Nat → Nat
  | 0, i => i
  | m + 1, i => if f (c i) = true then skp f c m (i + 1) else i
def cL (x : Nat) : Bool := decide (97 ≤ x ∧ x ≤ 122)
def cD (x : Nat) : Bool := decide (48 ≤ x ∧ x ≤ 57)
def cS (x : Nat) : Bool := decide (x = 32)
theorem skp_le (f : Nat → Bool) (c : Nat → Nat) : ∀ (m i : Nat), i ≤ skp f c m i ∧ skp f c m i ≤ i + m
  | 0, i => ⟨Nat.le_refl _, by show i ≤ i + 0; omega⟩
  | m + 1, i => by
    show i ≤ (if f (c i) = true then skp f c m (i + 1) else i) ∧ (if f (c i) = true then skp f c m (i + 1) else i) ≤ i + (m + 1)
    have := skp_le f c m (i + 1)
    split <;> omega
theorem skp_all (f : Nat → Bool) (c : Nat → Nat) : ∀ (m i j : Nat), i ≤ j → j < skp f c m i → f (c j) = true
  | 0, i, j, h1, h2 => by
    have : skp f c 0 i = i := rfl
    omega
  | m + 1, i, j, h1, h2 => by
    by_cases e : f (c i) = true
    · rw [show skp f c (m + 1) i = skp f c m (i + 1) from if_pos e] at h2
      by_cases e2 : i = j
      · subst e2; exact e
      · exact skp_all f c m (i + 1) j (by omega) h2
    · rw [show skp f c (m + 1) i = i from if_neg e] at h2
      omega
abbrev TP : Type := (Nat → Nat) × Nat
def tAt (T : TP) (q : Nat) : Nat := skp cS T.1 (T.2 - q) q
def tTy (T : TP) (q : Nat) : Nat := if tAt T q < T.2 then (if cL (T.1 (tAt T q)) = true then 1 else if cD (T.1 (tAt T q)) = true then 2 else 3) else 0
def tBe (T : TP) (q : Nat) : Nat := if tTy T q = 1 then skp cL T.1 (T.2 - tAt T q) (tAt T q) else if tTy T q = 2 then skp cD T.1 (T.2 - tAt T q) (tAt T q) else if tTy T q = 3 then tAt T q + 1 else tAt T q
/-- decimal digits from a on, k of them; the program's number stays at 10000 -/
def dv (c : Nat → Nat) (a : Nat) : Nat → Nat
  | 0 => 0
  | k + 1 => dv c a k * 10 + (c (a + k) - 48)
def dvx (c : Nat → Nat) (a : Nat) : Nat → Nat
  | 0 => 0
  | k + 1 => if dvx c a k * 10 + (c (a + k) - 48) < 10000 then dvx c a k * 10 + (c (a + k) - 48) else 10000
theorem dvx_dv (c : Nat → Nat) (a : Nat) : ∀ k, (dv c a k < 10000 → dvx c a k = dv c a k) ∧ (10000 ≤ dv c a k → dvx c a k = 10000)
  | 0 => ⟨fun _ => rfl, fun h => by have : dv c a 0 = 0 := rfl; omega⟩
  | k + 1 => by
    have ih := dvx_dv c a k
    have e1 : dv c a (k + 1) = dv c a k * 10 + (c (a + k) - 48) := rfl
    have e2 : dvx c a (k + 1) = if dvx c a k * 10 + (c (a + k) - 48) < 10000 then dvx c a k * 10 + (c (a + k) - 48) else 10000 := rfl
    rw [e1, e2]
    by_cases h : dv c a k < 10000
    · rw [ih.1 h]
      refine ⟨fun z => if_pos z, fun z => if_neg (by omega)⟩
    · rw [ih.2 (by omega)]
      refine ⟨fun z => by omega, fun z => if_neg (by omega)⟩
def nmX (T : TP) (q : Nat) : Nat := if tTy T q = 2 then dvx T.1 (tAt T q) (tBe T q - tAt T q) else 0
def nmV (T : TP) (q : Nat) : Nat := dv T.1 (tAt T q) (tBe T q - tAt T q)
theorem dvx_le (c : Nat → Nat) (a : Nat) : ∀ k, dvx c a k ≤ 10000
  | 0 => Nat.zero_le _
  | k + 1 => by
    show (if dvx c a k * 10 + (c (a + k) - 48) < 10000 then dvx c a k * 10 + (c (a + k) - 48) else 10000) ≤ 10000
    split <;> omega
/-- the tape's bytes -/
def TB (b : Nat → Int32) (T : TP) : Prop := T.2 ≤ 400 ∧ ∀ i, i < T.2 → b i = nI (T.1 i) ∧ T.1 i < 256
theorem tAt_le (T : TP) (q : Nat) : q ≤ tAt T q := (skp_le cS T.1 (T.2 - q) q).1
theorem tAt_N (T : TP) {q : Nat} (h : q ≤ T.2) : tAt T q ≤ T.2 := by
  have := (skp_le cS T.1 (T.2 - q) q).2
  unfold tAt
  omega
theorem tBe_le (T : TP) (q : Nat) : tAt T q ≤ tBe T q := by
  unfold tBe
  split
  · exact (skp_le ..).1
  · split
    · exact (skp_le ..).1
    · split <;> omega
theorem tBe_N (T : TP) {q : Nat} (h : q ≤ T.2) : tBe T q ≤ T.2 := by
  have h1 := tAt_N T h
  unfold tBe
  split
  · have := (skp_le cL T.1 (T.2 - tAt T q) (tAt T q)).2; omega
  · split
    · have := (skp_le cD T.1 (T.2 - tAt T q) (tAt T q)).2; omega
    · split
      · next e =>
        unfold tTy at e
        split at e
        · omega
        · omega
      · exact h1
theorem tBe_lt (T : TP) {q : Nat} (h : tTy T q ≠ 0) : tAt T q < tBe T q := by
  have hN : tAt T q < T.2 := by
    unfold tTy at h
    split at h
    · assumption
    · exact absurd rfl h
  obtain ⟨m, hm⟩ : ∃ m, T.2 - tAt T q = m + 1 := ⟨T.2 - tAt T q - 1, by omega⟩
  unfold tBe
  split
  · next e =>
    have el : cL (T.1 (tAt T q)) = true := by
      unfold tTy at e
      rw [if_pos hN] at e
      by_cases z : cL (T.1 (tAt T q)) = true
      · exact z
      · rw [if_neg z] at e; split at e <;> omega
    rw [hm, show skp cL T.1 (m + 1) (tAt T q) = skp cL T.1 m (tAt T q + 1) from if_pos el]
    exact (skp_le ..).1
  · split
    · next e1 e =>
      have el : cD (T.1 (tAt T q)) = true := by
        unfold tTy at e
        rw [if_pos hN] at e
        by_cases z : cL (T.1 (tAt T q)) = true
        · rw [if_pos z] at e; omega
        · rw [if_neg z] at e
          by_cases z2 : cD (T.1 (tAt T q)) = true
          · exact z2
          · rw [if_neg z2] at e; omega
      rw [hm, show skp cD T.1 (m + 1) (tAt T q) = skp cD T.1 m (tAt T q + 1) from if_pos el]
      exact (skp_le ..).1
    · split
      · omega
      · next e1 e2 e3 =>
        exfalso
        unfold tTy at e1 e2 e3
        rw [if_pos hN] at e1 e2 e3
        split at e1
        · omega
        · next z =>
          rw [if_neg z] at e2 e3
          split at e2
          · omega
          · next z2 => rw [if_neg z2] at e3; omega
/-! ===== the program's tape ===== -/
theorem xt_isLetter (d x : Nat) (hx : x < 256) (h : MH) (Q : RT) : callD (d + 1) 68 [.int (nI x)] h Q = Q (some (.int (b01 (cL x = true)))) h := by
  rw [E_Ta_isLetter]
  unfold cL
  by_cases c1 : x < 97
  · rw [b01_f (by simp; omega)]
    simp (disch := omega) only [U_Ta_isLetter (cm _), SA, SB, SG, SV, ltI, c1, true_or, or_true, true_implies, not_true_eq_false, not_false_eq_true, false_implies, true_and, and_true]
  · by_cases c2 : 122 < x
    · rw [b01_f (by simp; omega)]
      simp (disch := omega) only [U_Ta_isLetter (cm _), SA, SB, SG, SV, ltI, c1, c2, true_or, or_true, true_implies, not_true_eq_false, not_false_eq_true, false_implies, true_and, and_true]
    · rw [b01_t (by simp; omega)]
      simp (disch := omega) only [U_Ta_isLetter (cm _), SA, SB, SG, SV, ltI, c1, c2, true_or, or_true, true_implies, not_true_eq_false, not_false_eq_true, false_implies, true_and, and_true]
theorem xt_isDigit (d x : Nat) (hx : x < 256) (h : MH) (Q : RT) : callD (d + 1) 69 [.int (nI x)] h Q = Q (some (.int (b01 (cD x = true)))) h := by
  rw [E_Ta_isDigit]
  unfold cD
  by_cases c1 : x < 48
  · rw [b01_f (by simp; omega)]
    simp (disch := omega) only [U_Ta_isDigit (cm _), SA, SB, SG, SV, ltI, c1, true_or, or_true, true_implies, not_true_eq_false, not_false_eq_true, false_implies, true_and, and_true]
  · by_cases c2 : 57 < x
    · rw [b01_f (by simp; omega)]
      simp (disch := omega) only [U_Ta_isDigit (cm _), SA, SB, SG, SV, ltI, c1, c2, true_or, or_true, true_implies, not_true_eq_false, not_false_eq_true, false_implies, true_and, and_true]
    · rw [b01_t (by simp; omega)]
      simp (disch := omega) only [U_Ta_isDigit (cm _), SA, SB, SG, SV, ltI, c1, c2, true_or, or_true, true_implies, not_true_eq_false, not_false_eq_true, false_implies, true_and, and_true]
def TaS (h : MH) : Prop := hkd h 214 = 5 ∧ hfr h 214 0 = some 215 ∧ hkd h 215 = 20 ∧ hln h 215 = 400
set_option maxRecDepth 20000 in
theorem UC_Ta_advances_46 {G : GT} (hG : Gmono G) (R : RT) (lm : Nat × Nat) : WP cd_Ta_advances G R lm 0 = stp G R lm (2, 1, 0, 0, 0, 0, []) (WP cd_Ta_advances G R lm) ∧ WP cd_Ta_advances G R lm 1 = stp G R lm (2, 2, 0, 0, 0, 0, []) (WP cd_Ta_advances G R lm) ∧ WP cd_Ta_advances G R lm 2 = stp G R lm (56, 5, 5, 3, 0, 0, []) (WP cd_Ta_advances G R lm) ∧ WP cd_Ta_advances G R lm 5 = stp G R lm (59, 8, 5, 2, 0, 0, []) (WP cd_Ta_advances G R lm) ∧ WP cd_Ta_advances G R lm 9 = stp G R lm (56, 12, 5, 2, 0, 0, []) (WP cd_Ta_advances G R lm) ∧ WP cd_Ta_advances G R lm 12 = stp G R lm (2, 13, 0, 0, 0, 0, []) (WP cd_Ta_advances G R lm) ∧ WP cd_Ta_advances G R lm 13 = stp G R lm (56, 16, 5, 1, 0, 0, []) (WP cd_Ta_advances G R lm) ∧ WP cd_Ta_advances G R lm 16 = stp G R lm (44, 19, 46, 0, 0, 0, []) (WP cd_Ta_advances G R lm) ∧ WP cd_Ta_advances G R lm 19 = stp G R lm (2, 20, 0, 0, 0, 0, []) (WP cd_Ta_advances G R lm) ∧ WP cd_Ta_advances G R lm 20 = stp G R lm (58, 23, 5, 0, 0, 0, []) (WP cd_Ta_advances G R lm) ∧ WP cd_Ta_advances G R lm 23 = stp G R lm (2, 24, 0, 0, 0, 0, []) (WP cd_Ta_advances G R lm) ∧ WP cd_Ta_advances G R lm 24 = stp G R lm (56, 27, 5, 2, 0, 0, []) (WP cd_Ta_advances G R lm) ∧ WP cd_Ta_advances G R lm 27 = stp G R lm (62, 28, 0, 0, 0, 0, []) (WP cd_Ta_advances G R lm) ∧ WP cd_Ta_advances G R lm 28 = stp G R lm (7, 30, 0, 0, nI 32, 0, []) (WP cd_Ta_advances G R lm) ∧ WP cd_Ta_advances G R lm 30 = stp G R lm (42, 33, 46, 0, 0, 0, []) (WP cd_Ta_advances G R lm) ∧ WP cd_Ta_advances G R lm 33 = stp G R lm (2, 34, 0, 0, 0, 0, []) (WP cd_Ta_advances G R lm) ∧ WP cd_Ta_advances G R lm 34 = stp G R lm (37, 35, 0, 0, 0, 0, []) (WP cd_Ta_advances G R lm) ∧ WP cd_Ta_advances G R lm 35 = stp G R lm (56, 38, 5, 2, 0, 0, []) (WP cd_Ta_advances G R lm) ∧ WP cd_Ta_advances G R lm 38 = stp G R lm (7, 39, 0, 0, nI 1, 0, []) (WP cd_Ta_advances G R lm) ∧ WP cd_Ta_advances G R lm 39 = stp G R lm (12, 40, 0, 0, 0, 0, []) (WP cd_Ta_advances G R lm) ∧ WP cd_Ta_advances G R lm 40 = stp G R lm (59, 43, 5, 2, 0, 0, []) (WP cd_Ta_advances G R lm) ∧ WP cd_Ta_advances G R lm 43 = stp G R lm (40, 8, 0, 0, 0, 0, []) (WP cd_Ta_advances G R lm) ∧ WP cd_Ta_advances G R lm 47 = stp G R lm (2, 48, 0, 0, 0, 0, []) (WP cd_Ta_advances G R lm) ∧ WP cd_Ta_advances G R lm 48 = stp G R lm (56, 51, 5, 2, 0, 0, []) (WP cd_Ta_advances G R lm) ∧ WP cd_Ta_advances G R lm 51 = stp G R lm (59, 54, 5, 3, 0, 0, []) (WP cd_Ta_advances G R lm) ∧ WP cd_Ta_advances G R lm 54 = stp G R lm (2, 55, 0, 0, 0, 0, []) (WP cd_Ta_advances G R lm) ∧ WP cd_Ta_advances G R lm 55 = stp G R lm (7, 56, 0, 0, nI 0, 0, []) (WP cd_Ta_advances G R lm) ∧ WP cd_Ta_advances G R lm 56 = stp G R lm (59, 59, 5, 5, 0, 0, []) (WP cd_Ta_advances G R lm) ∧ WP cd_Ta_advances G R lm 59 = stp G R lm (2, 60, 0, 0, 0, 0, []) (WP cd_Ta_advances G R lm) ∧ WP cd_Ta_advances G R lm 60 = stp G R lm (56, 63, 5, 2, 0, 0, []) (WP cd_Ta_advances G R lm) ∧ WP cd_Ta_advances G R lm 63 = stp G R lm (2, 64, 0, 0, 0, 0, []) (WP cd_Ta_advances G R lm) ∧ WP cd_Ta_advances G R lm 64 = stp G R lm (56, 67, 5, 1, 0, 0, []) (WP cd_Ta_advances G R lm) ∧ WP cd_Ta_advances G R lm 67 = stp G R lm (43, 70, 78, 0, 0, 0, []) (WP cd_Ta_advances G R lm) ∧ WP cd_Ta_advances G R lm 70 = stp G R lm (2, 71, 0, 0, 0, 0, []) (WP cd_Ta_advances G R lm) ∧ WP cd_Ta_advances G R lm 71 = stp G R lm (7, 72, 0, 0, nI 0, 0, []) (WP cd_Ta_advances G R lm) ∧ WP cd_Ta_advances G R lm 72 = stp G R lm (59, 75, 5, 4, 0, 0, []) (WP cd_Ta_advances G R lm) ∧ WP cd_Ta_advances G R lm 75 = stp G R lm (40, 241, 0, 0, 0, 0, []) (WP cd_Ta_advances G R lm) ∧ WP cd_Ta_advances G R lm 78 = stp G R lm (2, 79, 0, 0, 0, 0, []) (WP cd_Ta_advances G R lm) ∧ WP cd_Ta_advances G R lm 79 = stp G R lm (58, 82, 5, 0, 0, 0, []) (WP cd_Ta_advances G R lm) ∧ WP cd_Ta_advances G R lm 82 = stp G R lm (2, 83, 0, 0, 0, 0, []) (WP cd_Ta_advances G R lm) ∧ WP cd_Ta_advances G R lm 83 = stp G R lm (56, 86, 5, 2, 0, 0, []) (WP cd_Ta_advances G R lm) ∧ WP cd_Ta_advances G R lm 86 = stp G R lm (62, 87, 0, 0, 0, 0, []) (WP cd_Ta_advances G R lm) ∧ WP cd_Ta_advances G R lm 87 = stp G R lm (76, 90, 68, 1, 0, 0, []) (WP cd_Ta_advances G R lm) ∧ WP cd_Ta_advances G R lm 90 = stp G R lm (47, 93, 137, 0, 0, 0, []) (WP cd_Ta_advances G R lm) ∧ WP cd_Ta_advances G R lm 93 = stp G R lm (2, 94, 0, 0, 0, 0, []) (WP cd_Ta_advances G R lm) ∧ WP cd_Ta_advances G R lm 94 = stp G R lm (7, 95, 0, 0, nI 1, 0, []) (WP cd_Ta_advances G R lm) ∧ WP cd_Ta_advances G R lm 95 = stp G R lm (59, 98, 5, 4, 0, 0, []) (WP cd_Ta_advances G R lm) ∧ WP cd_Ta_advances G R lm 99 = stp G R lm (56, 102, 5, 3, 0, 0, []) (WP cd_Ta_advances G R lm) ∧ WP cd_Ta_advances G R lm 102 = stp G R lm (2, 103, 0, 0, 0, 0, []) (WP cd_Ta_advances G R lm) ∧ WP cd_Ta_advances G R lm 103 = stp G R lm (56, 106, 5, 1, 0, 0, []) (WP cd_Ta_advances G R lm) ∧ WP cd_Ta_advances G R lm 106 = stp G R lm (44, 109, 241, 0, 0, 0, []) (WP cd_Ta_advances G R lm) ∧ WP cd_Ta_advances G R lm 109 = stp G R lm (2, 110, 0, 0, 0, 0, []) (WP cd_Ta_advances G R lm) ∧ WP cd_Ta_advances G R lm 110 = stp G R lm (58, 113, 5, 0, 0, 0, []) (WP cd_Ta_advances G R lm) ∧ WP cd_Ta_advances G R lm 113 = stp G R lm (2, 114, 0, 0, 0, 0, []) (WP cd_Ta_advances G R lm) ∧ WP cd_Ta_advances G R lm 114 = stp G R lm (56, 117, 5, 3, 0, 0, []) (WP cd_Ta_advances G R lm) ∧ WP cd_Ta_advances G R lm 117 = stp G R lm (62, 118, 0, 0, 0, 0, []) (WP cd_Ta_advances G R lm) ∧ WP cd_Ta_advances G R lm 118 = stp G R lm (76, 121, 68, 1, 0, 0, []) (WP cd_Ta_advances G R lm) ∧ WP cd_Ta_advances G R lm 121 = stp G R lm (47, 124, 241, 0, 0, 0, []) (WP cd_Ta_advances G R lm) ∧ WP cd_Ta_advances G R lm 124 = stp G R lm (2, 125, 0, 0, 0, 0, []) (WP cd_Ta_advances G R lm) ∧ WP cd_Ta_advances G R lm 125 = stp G R lm (37, 126, 0, 0, 0, 0, []) (WP cd_Ta_advances G R lm) ∧ WP cd_Ta_advances G R lm 126 = stp G R lm (56, 129, 5, 3, 0, 0, []) (WP cd_Ta_advances G R lm) ∧ WP cd_Ta_advances G R lm 129 = stp G R lm (7, 130, 0, 0, nI 1, 0, []) (WP cd_Ta_advances G R lm) ∧ WP cd_Ta_advances G R lm 130 = stp G R lm (12, 131, 0, 0, 0, 0, []) (WP cd_Ta_advances G R lm) ∧ WP cd_Ta_advances G R lm 131 = stp G R lm (59, 134, 5, 3, 0, 0, []) (WP cd_Ta_advances G R lm) ∧ WP cd_Ta_advances G R lm 134 = stp G R lm (40, 98, 0, 0, 0, 0, []) (WP cd_Ta_advances G R lm) ∧ WP cd_Ta_advances G R lm 137 = stp G R lm (2, 138, 0, 0, 0, 0, []) (WP cd_Ta_advances G R lm) ∧ WP cd_Ta_advances G R lm 138 = stp G R lm (58, 141, 5, 0, 0, 0, []) (WP cd_Ta_advances G R lm) ∧ WP cd_Ta_advances G R lm 141 = stp G R lm (2, 142, 0, 0, 0, 0, []) (WP cd_Ta_advances G R lm) ∧ WP cd_Ta_advances G R lm 142 = stp G R lm (56, 145, 5, 2, 0, 0, []) (WP cd_Ta_advances G R lm) ∧ WP cd_Ta_advances G R lm 145 = stp G R lm (62, 146, 0, 0, 0, 0, []) (WP cd_Ta_advances G R lm) ∧ WP cd_Ta_advances G R lm 146 = stp G R lm (76, 149, 69, 1, 0, 0, []) (WP cd_Ta_advances G R lm) ∧ WP cd_Ta_advances G R lm 149 = stp G R lm (47, 152, 226, 0, 0, 0, []) (WP cd_Ta_advances G R lm) ∧ WP cd_Ta_advances G R lm 152 = stp G R lm (2, 153, 0, 0, 0, 0, []) (WP cd_Ta_advances G R lm) ∧ WP cd_Ta_advances G R lm 153 = stp G R lm (7, 154, 0, 0, nI 2, 0, []) (WP cd_Ta_advances G R lm) ∧ WP cd_Ta_advances G R lm 154 = stp G R lm (59, 157, 5, 4, 0, 0, []) (WP cd_Ta_advances G R lm) ∧ WP cd_Ta_advances G R lm 158 = stp G R lm (56, 161, 5, 3, 0, 0, []) (WP cd_Ta_advances G R lm) ∧ WP cd_Ta_advances G R lm 161 = stp G R lm (2, 162, 0, 0, 0, 0, []) (WP cd_Ta_advances G R lm) ∧ WP cd_Ta_advances G R lm 162 = stp G R lm (56, 165, 5, 1, 0, 0, []) (WP cd_Ta_advances G R lm) ∧ WP cd_Ta_advances G R lm 165 = stp G R lm (44, 168, 241, 0, 0, 0, []) (WP cd_Ta_advances G R lm) ∧ WP cd_Ta_advances G R lm 168 = stp G R lm (2, 169, 0, 0, 0, 0, []) (WP cd_Ta_advances G R lm) ∧ WP cd_Ta_advances G R lm 169 = stp G R lm (58, 172, 5, 0, 0, 0, []) (WP cd_Ta_advances G R lm) ∧ WP cd_Ta_advances G R lm 172 = stp G R lm (2, 173, 0, 0, 0, 0, []) (WP cd_Ta_advances G R lm) ∧ WP cd_Ta_advances G R lm 173 = stp G R lm (56, 176, 5, 3, 0, 0, []) (WP cd_Ta_advances G R lm) ∧ WP cd_Ta_advances G R lm 176 = stp G R lm (62, 177, 0, 0, 0, 0, []) (WP cd_Ta_advances G R lm) ∧ WP cd_Ta_advances G R lm 177 = stp G R lm (76, 180, 69, 1, 0, 0, []) (WP cd_Ta_advances G R lm) ∧ WP cd_Ta_advances G R lm 180 = stp G R lm (47, 183, 241, 0, 0, 0, []) (WP cd_Ta_advances G R lm) ∧ WP cd_Ta_advances G R lm 183 = stp G R lm (2, 184, 0, 0, 0, 0, []) (WP cd_Ta_advances G R lm) ∧ WP cd_Ta_advances G R lm 184 = stp G R lm (7, 187, 0, 0, nI 10000, 0, []) (WP cd_Ta_advances G R lm) ∧ WP cd_Ta_advances G R lm 187 = stp G R lm (2, 188, 0, 0, 0, 0, []) (WP cd_Ta_advances G R lm) ∧ WP cd_Ta_advances G R lm 188 = stp G R lm (56, 191, 5, 5, 0, 0, []) (WP cd_Ta_advances G R lm) ∧ WP cd_Ta_advances G R lm 191 = stp G R lm (7, 193, 0, 0, nI 10, 0, []) (WP cd_Ta_advances G R lm) ∧ WP cd_Ta_advances G R lm 193 = stp G R lm (14, 194, 0, 0, 0, 0, []) (WP cd_Ta_advances G R lm) ∧ WP cd_Ta_advances G R lm 194 = stp G R lm (2, 195, 0, 0, 0, 0, []) (WP cd_Ta_advances G R lm) ∧ WP cd_Ta_advances G R lm 195 = stp G R lm (58, 198, 5, 0, 0, 0, []) (WP cd_Ta_advances G R lm) ∧ WP cd_Ta_advances G R lm 198 = stp G R lm (2, 199, 0, 0, 0, 0, []) (WP cd_Ta_advances G R lm) ∧ WP cd_Ta_advances G R lm 199 = stp G R lm (56, 202, 5, 3, 0, 0, []) (WP cd_Ta_advances G R lm) ∧ WP cd_Ta_advances G R lm 202 = stp G R lm (62, 203, 0, 0, 0, 0, []) (WP cd_Ta_advances G R lm) ∧ WP cd_Ta_advances G R lm 203 = stp G R lm (12, 204, 0, 0, 0, 0, []) (WP cd_Ta_advances G R lm) ∧ WP cd_Ta_advances G R lm 204 = stp G R lm (7, 206, 0, 0, nI 48, 0, []) (WP cd_Ta_advances G R lm) ∧ WP cd_Ta_advances G R lm 206 = stp G R lm (13, 207, 0, 0, 0, 0, []) (WP cd_Ta_advances G R lm) ∧ WP cd_Ta_advances G R lm 207 = stp G R lm (76, 210, 251, 2, 0, 0, []) (WP cd_Ta_advances G R lm) ∧ WP cd_Ta_advances G R lm 210 = stp G R lm (59, 213, 5, 5, 0, 0, []) (WP cd_Ta_advances G R lm) ∧ WP cd_Ta_advances G R lm 213 = stp G R lm (2, 214, 0, 0, 0, 0, []) (WP cd_Ta_advances G R lm) ∧ WP cd_Ta_advances G R lm 214 = stp G R lm (37, 215, 0, 0, 0, 0, []) (WP cd_Ta_advances G R lm) ∧ WP cd_Ta_advances G R lm 215 = stp G R lm (56, 218, 5, 3, 0, 0, []) (WP cd_Ta_advances G R lm) ∧ WP cd_Ta_advances G R lm 218 = stp G R lm (7, 219, 0, 0, nI 1, 0, []) (WP cd_Ta_advances G R lm) ∧ WP cd_Ta_advances G R lm 219 = stp G R lm (12, 220, 0, 0, 0, 0, []) (WP cd_Ta_advances G R lm) ∧ WP cd_Ta_advances G R lm 220 = stp G R lm (59, 223, 5, 3, 0, 0, []) (WP cd_Ta_advances G R lm) ∧ WP cd_Ta_advances G R lm 223 = stp G R lm (40, 157, 0, 0, 0, 0, []) (WP cd_Ta_advances G R lm) ∧ WP cd_Ta_advances G R lm 226 = stp G R lm (2, 227, 0, 0, 0, 0, []) (WP cd_Ta_advances G R lm) ∧ WP cd_Ta_advances G R lm 227 = stp G R lm (7, 228, 0, 0, nI 3, 0, []) (WP cd_Ta_advances G R lm) ∧ WP cd_Ta_advances G R lm 228 = stp G R lm (59, 231, 5, 4, 0, 0, []) (WP cd_Ta_advances G R lm) ∧ WP cd_Ta_advances G R lm 231 = stp G R lm (2, 232, 0, 0, 0, 0, []) (WP cd_Ta_advances G R lm) ∧ WP cd_Ta_advances G R lm 232 = stp G R lm (37, 233, 0, 0, 0, 0, []) (WP cd_Ta_advances G R lm) ∧ WP cd_Ta_advances G R lm 233 = stp G R lm (56, 236, 5, 3, 0, 0, []) (WP cd_Ta_advances G R lm) ∧ WP cd_Ta_advances G R lm 236 = stp G R lm (7, 237, 0, 0, nI 1, 0, []) (WP cd_Ta_advances G R lm) ∧ WP cd_Ta_advances G R lm 237 = stp G R lm (12, 238, 0, 0, 0, 0, []) (WP cd_Ta_advances G R lm) ∧ WP cd_Ta_advances G R lm 238 = stp G R lm (59, 241, 5, 3, 0, 0, []) (WP cd_Ta_advances G R lm) ∧ WP cd_Ta_advances G R lm 241 = stp G R lm (84, 242, 0, 0, 0, 0, []) (WP cd_Ta_advances G R lm) := ⟨WP_eq hG rfl, WP_eq hG rfl, WP_eq hG rfl, WP_eq hG rfl, WP_eq hG rfl, WP_eq hG rfl, WP_eq hG rfl, WP_eq hG rfl, WP_eq hG rfl, WP_eq hG rfl, WP_eq hG rfl, WP_eq hG rfl, WP_eq hG rfl, WP_eq hG rfl, WP_eq hG rfl, WP_eq hG rfl, WP_eq hG rfl, WP_eq hG rfl, WP_eq hG rfl, WP_eq hG rfl, WP_eq hG rfl, WP_eq hG rfl, WP_eq hG rfl, WP_eq hG rfl, WP_eq hG rfl, WP_eq hG rfl, WP_eq hG rfl, WP_eq hG rfl, WP_eq hG rfl, WP_eq hG rfl, WP_eq hG rfl, WP_eq hG rfl, WP_eq hG rfl, WP_eq hG rfl, WP_eq hG rfl, WP_eq hG rfl, WP_eq hG rfl, WP_eq hG rfl, WP_eq hG rfl, WP_eq hG rfl, WP_eq hG rfl, WP_eq hG rfl, WP_eq hG rfl, WP_eq hG rfl, WP_eq hG rfl, WP_eq hG rfl, WP_eq hG rfl, WP_eq hG rfl, WP_eq hG rfl, WP_eq hG rfl, WP_eq hG rfl, WP_eq hG rfl, WP_eq hG rfl, WP_eq hG rfl, WP_eq hG rfl, WP_eq hG rfl, WP_eq hG rfl, WP_eq hG rfl, WP_eq hG rfl, WP_eq hG rfl, WP_eq hG rfl, WP_eq hG rfl, WP_eq hG rfl, WP_eq hG rfl, WP_eq hG rfl, WP_eq hG rfl, WP_eq hG rfl, WP_eq hG rfl, WP_eq hG rfl, WP_eq hG rfl, WP_eq hG rfl, WP_eq hG rfl, WP_eq hG rfl, WP_eq hG rfl, WP_eq hG rfl, WP_eq hG rfl, WP_eq hG rfl, WP_eq hG rfl, WP_eq hG rfl, WP_eq hG rfl, WP_eq hG rfl, WP_eq hG rfl, WP_eq hG rfl, WP_eq hG rfl, WP_eq hG rfl, WP_eq hG rfl, WP_eq hG rfl, WP_eq hG rfl, WP_eq hG rfl, WP_eq hG rfl, WP_eq hG rfl, WP_eq hG rfl, WP_eq hG rfl, WP_eq hG rfl, WP_eq hG rfl, WP_eq hG rfl, WP_eq hG rfl, WP_eq hG rfl, WP_eq hG rfl, WP_eq hG rfl, WP_eq hG rfl, WP_eq hG rfl, WP_eq hG rfl, WP_eq hG rfl, WP_eq hG rfl, WP_eq hG rfl, WP_eq hG rfl, WP_eq hG rfl, WP_eq hG rfl, WP_eq hG rfl, WP_eq hG rfl, WP_eq hG rfl, WP_eq hG rfl, WP_eq hG rfl, WP_eq hG rfl, WP_eq hG rfl, WP_eq hG rfl, WP_eq hG rfl, WP_eq hG rfl⟩
theorem x_sp (d : Nat) {h : MH} {T : TP} (s : TaS h) (hb : TB (hia h 215) T) (Q : RT) (lm : Nat × Nat) : ∀ (m i : Nat) (g : Nat → Int32), g 1 = nI T.2 → g 2 = nI i → i + m = T.2 → WP cd_Ta_advances (callD d) Q lm 8 [] [some (.ref 214)] (sFI h 214 g) = WP cd_Ta_advances (callD d) Q lm 46 [] [some (.ref 214)] (sFI h 214 (up1 g 2 (nI (skp cS T.1 m i))))
  | 0, i, g, g1, g2, hi => by
    unfold TaS at s
    have n4 := hb.1
    rw [show up1 g 2 (nI (skp cS T.1 0 i)) = g from up1_same g2, U_Ta_advances_8 (cm _)]
    simp (disch := omega) only [UC_Ta_advances_46 (cm _), SA, SB, SG, SV, s, g1, g2, up1_s, leI, show T.2 ≤ i by omega, true_implies, not_true_eq_false, not_false_eq_true, false_implies, true_and, and_true]
  | m + 1, i, g, g1, g2, hi => by
    have s' := s
    unfold TaS at s
    have n4 := hb.1
    obtain ⟨b1, b2⟩ := hb.2 i (by omega)
    rw [U_Ta_advances_8 (cm _)]
    by_cases c : T.1 i = 32
    · have ih := x_sp d s' hb Q lm m (i + 1) (up1 g 2 (nI (i + 1))) (by rw [up1_n _ _ (by omega)]; exact g1) (up1_s _ _ _) (by omega)
      rw [up1_up1] at ih
      rw [show skp cS T.1 (m + 1) i = skp cS T.1 m (i + 1) from if_pos (by unfold cS; simp [c])]
      rw [← ih]
      simp (disch := omega) only [UC_Ta_advances_46 (cm _), SA, SB, SG, SV, SK, s, g1, g2, b1, c, up1_s, leI, show ¬ T.2 ≤ i by omega, nI_add, nI_clamp, in_eq, true_implies, not_true_eq_false, not_false_eq_true, false_implies, true_and, and_true]
    · rw [show skp cS T.1 (m + 1) i = i from if_neg (by unfold cS; simp [c]), show up1 g 2 (nI i) = g from up1_same g2]
      simp (disch := omega) only [UC_Ta_advances_46 (cm _), SA, SB, SG, SV, SK, s, g1, g2, b1, eqI, c, up1_s, leI, show ¬ T.2 ≤ i by omega, nI_add, nI_clamp, in_eq, true_implies, not_true_eq_false, not_false_eq_true, false_implies, true_and, and_true]
