/-! ===== the law in force; one more act that can be taken back ===== -/
theorem WV_law {h : MH} {p : RW} (w : WV h 25 p) : ∃ Lo lv, LV h p Lo lv ∧ FO p Lo := by
  obtain ⟨-, -, ⟨w4, w5, w6, w7, w8⟩, ⟨nl, l1, l2, l3, l4⟩, -, rn, -⟩ := w
  rcases l3 with z | ⟨f, hf, z⟩
  · exact ⟨none, .null, ⟨w5, w8, rn, z, rfl⟩, z⟩
  · obtain ⟨a, L, y1, y2, y3, y4, y5⟩ := l4 f hf
    exact ⟨some L, .ref a, ⟨w5, w8, rn, f, nl, a, z, hf, l1, w4.trans l2, y1, rfl, y4.P⟩, f, z, y5⟩
theorem ka_18 {u : Nat → Int32} {p : RW} {x : Nat} (h1 : 5 ≤ x) (h2 : x < 1754) : ka u p (31482 + (x - 5)) = p x := by
  unfold ka cpyF
  rw [if_pos (by omega), show 5 + (31482 + (x - 5) - 31482) = x by omega]
theorem ka_lo {u : Nat → Int32} {p : RW} {x : Nat} (h : x < 31482) : ka u p x = u x := by
  unfold ka cpyF
  rw [if_neg (by omega)]
theorem rmU_row {u : Nat → Int32} {p : RW} {n j x : Nat} (hn : n ≤ 16) (h1 : 5 ≤ x) (h2 : x < 1754) : (n < 16 → j < n → uR (rmU (ka u p) n) j x = uR u j x) ∧ (n < 16 → uR (rmU (ka u p) n) n x = p x) ∧ (n = 16 → j < 15 → uR (rmU (ka u p) n) j x = uR u (j + 1) x) ∧ (n = 16 → uR (rmU (ka u p) n) 15 x = p x) := by
  unfold uR rmU
  refine ⟨fun a b => ?_, fun a => ?_, fun a b => ?_, fun a => ?_⟩
  · rw [if_neg (by omega)]
    unfold cpyF
    rw [if_neg (by omega), ka_lo (by omega)]
  · rw [if_neg (by omega)]
    unfold cpyF
    rw [if_pos (by omega), show 31482 + (1749 * n + (x - 5) - 1749 * n) = 31482 + (x - 5) by omega, ka_18 h1 h2]
  · rw [if_pos a]
    unfold cpyF
    rw [if_neg (by omega)]
    unfold shF
    rw [if_pos (by omega), ka_lo (by omega), show 1749 * j + (x - 5) + 1749 = 1749 * (j + 1) + (x - 5) by omega]
  · rw [if_pos a]
    unfold cpyF
    rw [if_pos (by omega), show 31482 + (1749 * 15 + (x - 5) - 1749 * 15) = 31482 + (x - 5) by omega, ka_18 h1 h2]
theorem RgV_push {h h2 : MH} {nx n kd : Nat} {p : RW} (hkd3 : kd < 3) (r : RgV h nx n) (iv : IV p) (e40 : hfi h2 40 2 = nI ((nx + 1) % 17) ∧ hfi h2 40 3 = nI (min 16 (n + 1))) (e8 : hfi h2 273 8 = nI (rmN n)) (eo : ∀ i, i < 17 → i ≠ nx → hfi h2 (43 + 10 * i) = hfi h (43 + 10 * i) ∧ ∀ a, 43 + 10 * i < a → a ≤ 43 + 10 * i + 9 → hia h2 a = hia h a) (en : NeV h2 (43 + 10 * nx) p) (e42 : hia h2 42 = up1 (hia h 42) nx (nI kd)) (e278 : hia h2 278 = rmU (ka (hia h 278) p) n) (e279 : hia h2 279 = rmO (hia h 279) n (nI kd)) : RgV h2 ((nx + 1) % 17) (rmN n) := by
  obtain ⟨r1, r2, r3, r4, r5, r6⟩ := r
  have nn' : min 16 (n + 1) = rmN n := by unfold rmN; split <;> omega
  refine ⟨Nat.mod_lt _ (by omega), by unfold rmN; split <;> omega, e40.1, by rw [← nn']; exact e40.2, e8, fun j hj => ?_⟩
  rw [e278, e279, e42]
  by_cases c16 : n = 16
  · have rn : rmN n = 16 := by unfold rmN; rw [if_pos c16]
    rw [rn] at hj ⊢
    by_cases cj : j = 15
    · subst cj
      have pl : rgP ((nx + 1) % 17) 16 15 = nx := by unfold rgP; omega
      have row : ∀ x, 5 ≤ x → x < 1754 → uR (rmU (ka (hia h 278) p) n) 15 x = p x := fun x h1 h2 => (rmU_row (j := 0) r2 h1 h2).2.2.2 c16
      rw [pl]
      refine ⟨NeV_c row iv.q en, IV_c row iv, ?_, kd, hkd3, ?_⟩
      · rw [up1_s]; unfold rmO; rw [if_pos c16, up1_s]
      · unfold rmO; rw [if_pos c16, up1_s]
    · have pl : rgP ((nx + 1) % 17) 16 j = rgP nx n (j + 1) := by rw [c16]; unfold rgP; omega
      have ne : rgP nx n (j + 1) ≠ nx := by rw [c16]; unfold rgP; omega
      obtain ⟨x1, x2, x3, x4⟩ := r6 (j + 1) (by omega)
      have row : ∀ x, 5 ≤ x → x < 1754 → uR (rmU (ka (hia h 278) p) n) j x = uR (hia h 278) (j + 1) x := fun x h1 h2 => (rmU_row r2 h1 h2).2.2.1 c16 (by omega)
      rw [pl]
      obtain ⟨o1, o2⟩ := eo (rgP nx n (j + 1)) (rgP_lt _ _ _) ne
      have so : rmO (hia h 279) n (nI kd) j = hia h 279 (j + 1) := by
        unfold rmO
        rw [if_pos c16, up1_n _ _ (by omega)]
        unfold shF
        rw [if_pos (by omega)]
      refine ⟨NeV_c row x2.q (NeV_a o1 o2 x1), IV_c row x2, ?_, ?_⟩
      · rw [up1_n _ _ ne, so]; exact x3
      · rw [so]; exact x4
  · have rn : rmN n = n + 1 := by unfold rmN; rw [if_neg c16]
    rw [rn] at hj ⊢
    by_cases cj : j = n
    · subst cj
      have pl : rgP ((nx + 1) % 17) (j + 1) j = nx := by unfold rgP; omega
      have row : ∀ x, 5 ≤ x → x < 1754 → uR (rmU (ka (hia h 278) p) j) j x = p x := fun x h1 h2 => (rmU_row (j := 0) r2 h1 h2).2.1 (by omega)
      rw [pl]
      refine ⟨NeV_c row iv.q en, IV_c row iv, ?_, kd, hkd3, ?_⟩
      · rw [up1_s]; unfold rmO; rw [if_neg c16, up1_s]
      · unfold rmO; rw [if_neg c16, up1_s]
    · have pl : rgP ((nx + 1) % 17) (n + 1) j = rgP nx n j := by unfold rgP; omega
      have ne : rgP nx n j ≠ nx := by unfold rgP; omega
      obtain ⟨x1, x2, x3, x4⟩ := r6 j (by omega)
      have row : ∀ x, 5 ≤ x → x < 1754 → uR (rmU (ka (hia h 278) p) n) j x = uR (hia h 278) j x := fun x h1 h2 => (rmU_row r2 h1 h2).1 (by omega) (by omega)
      rw [pl]
      obtain ⟨o1, o2⟩ := eo (rgP nx n j) (rgP_lt _ _ _) ne
      have so : rmO (hia h 279) n (nI kd) j = hia h 279 j := by
        unfold rmO
        rw [if_neg c16, up1_n _ _ cj]
      refine ⟨NeV_c row x2.q (NeV_a o1 o2 x1), IV_c row x2, ?_, ?_⟩
      · rw [up1_n _ _ ne, so]; exact x3
      · rw [so]; exact x4
