/-! ===== the reference is made: its first row ===== -/
set_option maxRecDepth 20000 in
theorem US_Mo_init_337 {G : GT} (hG : Gmono G) (R : RT) (lm : Nat × Nat) : WP cd_Mo_init G R lm 337 = stp G R lm (2, 338, 0, 0, 0, 0, []) (WP cd_Mo_init G R lm) ∧ WP cd_Mo_init G R lm 338 = stp G R lm (58, 341, 8, 3, 0, 0, []) (WP cd_Mo_init G R lm) ∧ WP cd_Mo_init G R lm 341 = stp G R lm (7, 342, 0, 0, nI 2, 0, []) (WP cd_Mo_init G R lm) ∧ WP cd_Mo_init G R lm 342 = stp G R lm (7, 343, 0, 0, (-1), 0, []) (WP cd_Mo_init G R lm) ∧ WP cd_Mo_init G R lm 343 = stp G R lm (66, 344, 0, 0, 0, 0, []) (WP cd_Mo_init G R lm) ∧ WP cd_Mo_init G R lm 344 = stp G R lm (2, 345, 0, 0, 0, 0, []) (WP cd_Mo_init G R lm) ∧ WP cd_Mo_init G R lm 345 = stp G R lm (58, 348, 8, 3, 0, 0, []) (WP cd_Mo_init G R lm) ∧ WP cd_Mo_init G R lm 348 = stp G R lm (7, 349, 0, 0, nI 3, 0, []) (WP cd_Mo_init G R lm) ∧ WP cd_Mo_init G R lm 349 = stp G R lm (7, 350, 0, 0, nI 1, 0, []) (WP cd_Mo_init G R lm) ∧ WP cd_Mo_init G R lm 350 = stp G R lm (66, 351, 0, 0, 0, 0, []) (WP cd_Mo_init G R lm) ∧ WP cd_Mo_init G R lm 351 = stp G R lm (7, 352, 0, 0, nI 0, 0, []) (WP cd_Mo_init G R lm) ∧ WP cd_Mo_init G R lm 352 = stp G R lm (4, 353, 1, 0, 0, 0, []) (WP cd_Mo_init G R lm) := ⟨WP_eq hG rfl, WP_eq hG rfl, WP_eq hG rfl, WP_eq hG rfl, WP_eq hG rfl, WP_eq hG rfl, WP_eq hG rfl, WP_eq hG rfl, WP_eq hG rfl, WP_eq hG rfl, WP_eq hG rfl, WP_eq hG rfl⟩
set_option maxRecDepth 20000 in
theorem US_Mo_init_354 {G : GT} (hG : Gmono G) (R : RT) (lm : Nat × Nat) : WP cd_Mo_init G R lm 354 = stp G R lm (7, 356, 0, 0, nI 49, 0, []) (WP cd_Mo_init G R lm) ∧ WP cd_Mo_init G R lm 356 = stp G R lm (44, 359, 377, 0, 0, 0, []) (WP cd_Mo_init G R lm) ∧ WP cd_Mo_init G R lm 359 = stp G R lm (2, 360, 0, 0, 0, 0, []) (WP cd_Mo_init G R lm) ∧ WP cd_Mo_init G R lm 360 = stp G R lm (58, 363, 8, 3, 0, 0, []) (WP cd_Mo_init G R lm) ∧ WP cd_Mo_init G R lm 363 = stp G R lm (7, 365, 0, 0, nI 56, 0, []) (WP cd_Mo_init G R lm) ∧ WP cd_Mo_init G R lm 365 = stp G R lm (1, 366, 1, 0, 0, 0, []) (WP cd_Mo_init G R lm) ∧ WP cd_Mo_init G R lm 366 = stp G R lm (12, 367, 0, 0, 0, 0, []) (WP cd_Mo_init G R lm) ∧ WP cd_Mo_init G R lm 367 = stp G R lm (7, 370, 0, 0, nI 9999, 0, []) (WP cd_Mo_init G R lm) ∧ WP cd_Mo_init G R lm 370 = stp G R lm (66, 371, 0, 0, 0, 0, []) (WP cd_Mo_init G R lm) ∧ WP cd_Mo_init G R lm 371 = stp G R lm (11, 374, 1, 0, nI 1, 0, []) (WP cd_Mo_init G R lm) ∧ WP cd_Mo_init G R lm 374 = stp G R lm (40, 353, 0, 0, 0, 0, []) (WP cd_Mo_init G R lm) ∧ WP cd_Mo_init G R lm 377 = stp G R lm (7, 378, 0, 0, nI 0, 0, []) (WP cd_Mo_init G R lm) ∧ WP cd_Mo_init G R lm 378 = stp G R lm (4, 379, 1, 0, 0, 0, []) (WP cd_Mo_init G R lm) := ⟨WP_eq hG rfl, WP_eq hG rfl, WP_eq hG rfl, WP_eq hG rfl, WP_eq hG rfl, WP_eq hG rfl, WP_eq hG rfl, WP_eq hG rfl, WP_eq hG rfl, WP_eq hG rfl, WP_eq hG rfl, WP_eq hG rfl, WP_eq hG rfl⟩
set_option maxRecDepth 20000 in
theorem US_Mo_init_380 {G : GT} (hG : Gmono G) (R : RT) (lm : Nat × Nat) : WP cd_Mo_init G R lm 380 = stp G R lm (7, 382, 0, 0, nI 7, 0, []) (WP cd_Mo_init G R lm) ∧ WP cd_Mo_init G R lm 382 = stp G R lm (44, 385, 441, 0, 0, 0, []) (WP cd_Mo_init G R lm) ∧ WP cd_Mo_init G R lm 385 = stp G R lm (1, 386, 1, 0, 0, 0, []) (WP cd_Mo_init G R lm) ∧ WP cd_Mo_init G R lm 386 = stp G R lm (76, 389, 142, 1, 0, 0, []) (WP cd_Mo_init G R lm) ∧ WP cd_Mo_init G R lm 389 = stp G R lm (4, 390, 2, 0, 0, 0, []) (WP cd_Mo_init G R lm) ∧ WP cd_Mo_init G R lm 390 = stp G R lm (2, 391, 0, 0, 0, 0, []) (WP cd_Mo_init G R lm) ∧ WP cd_Mo_init G R lm 391 = stp G R lm (58, 394, 8, 3, 0, 0, []) (WP cd_Mo_init G R lm) ∧ WP cd_Mo_init G R lm 394 = stp G R lm (1, 395, 2, 0, 0, 0, []) (WP cd_Mo_init G R lm) ∧ WP cd_Mo_init G R lm 395 = stp G R lm (1, 396, 1, 0, 0, 0, []) (WP cd_Mo_init G R lm) ∧ WP cd_Mo_init G R lm 396 = stp G R lm (48, 399, 403, 0, 0, 0, []) (WP cd_Mo_init G R lm) ∧ WP cd_Mo_init G R lm 399 = stp G R lm (7, 400, 0, 0, nI 0, 0, []) (WP cd_Mo_init G R lm) ∧ WP cd_Mo_init G R lm 400 = stp G R lm (40, 406, 0, 0, 0, 0, []) (WP cd_Mo_init G R lm) ∧ WP cd_Mo_init G R lm 403 = stp G R lm (7, 406, 0, 0, nI 9999, 0, []) (WP cd_Mo_init G R lm) ∧ WP cd_Mo_init G R lm 406 = stp G R lm (66, 407, 0, 0, 0, 0, []) (WP cd_Mo_init G R lm) ∧ WP cd_Mo_init G R lm 407 = stp G R lm (2, 408, 0, 0, 0, 0, []) (WP cd_Mo_init G R lm) ∧ WP cd_Mo_init G R lm 408 = stp G R lm (58, 411, 8, 3, 0, 0, []) (WP cd_Mo_init G R lm) ∧ WP cd_Mo_init G R lm 411 = stp G R lm (1, 412, 2, 0, 0, 0, []) (WP cd_Mo_init G R lm) ∧ WP cd_Mo_init G R lm 412 = stp G R lm (7, 413, 0, 0, nI 1, 0, []) (WP cd_Mo_init G R lm) ∧ WP cd_Mo_init G R lm 413 = stp G R lm (12, 414, 0, 0, 0, 0, []) (WP cd_Mo_init G R lm) ∧ WP cd_Mo_init G R lm 414 = stp G R lm (1, 415, 1, 0, 0, 0, []) (WP cd_Mo_init G R lm) ∧ WP cd_Mo_init G R lm 415 = stp G R lm (48, 418, 422, 0, 0, 0, []) (WP cd_Mo_init G R lm) ∧ WP cd_Mo_init G R lm 418 = stp G R lm (7, 419, 0, 0, nI 0, 0, []) (WP cd_Mo_init G R lm) ∧ WP cd_Mo_init G R lm 419 = stp G R lm (40, 425, 0, 0, 0, 0, []) (WP cd_Mo_init G R lm) ∧ WP cd_Mo_init G R lm 422 = stp G R lm (7, 425, 0, 0, nI 9999, 0, []) (WP cd_Mo_init G R lm) ∧ WP cd_Mo_init G R lm 425 = stp G R lm (66, 426, 0, 0, 0, 0, []) (WP cd_Mo_init G R lm) ∧ WP cd_Mo_init G R lm 426 = stp G R lm (2, 427, 0, 0, 0, 0, []) (WP cd_Mo_init G R lm) ∧ WP cd_Mo_init G R lm 427 = stp G R lm (58, 430, 8, 3, 0, 0, []) (WP cd_Mo_init G R lm) ∧ WP cd_Mo_init G R lm 430 = stp G R lm (1, 431, 2, 0, 0, 0, []) (WP cd_Mo_init G R lm) ∧ WP cd_Mo_init G R lm 431 = stp G R lm (7, 432, 0, 0, nI 2, 0, []) (WP cd_Mo_init G R lm) ∧ WP cd_Mo_init G R lm 432 = stp G R lm (12, 433, 0, 0, 0, 0, []) (WP cd_Mo_init G R lm) ∧ WP cd_Mo_init G R lm 433 = stp G R lm (7, 434, 0, 0, (-1), 0, []) (WP cd_Mo_init G R lm) ∧ WP cd_Mo_init G R lm 434 = stp G R lm (66, 435, 0, 0, 0, 0, []) (WP cd_Mo_init G R lm) ∧ WP cd_Mo_init G R lm 435 = stp G R lm (11, 438, 1, 0, nI 1, 0, []) (WP cd_Mo_init G R lm) ∧ WP cd_Mo_init G R lm 438 = stp G R lm (40, 379, 0, 0, 0, 0, []) (WP cd_Mo_init G R lm) ∧ WP cd_Mo_init G R lm 441 = stp G R lm (84, 442, 0, 0, 0, 0, []) (WP cd_Mo_init G R lm) := ⟨WP_eq hG rfl, WP_eq hG rfl, WP_eq hG rfl, WP_eq hG rfl, WP_eq hG rfl, WP_eq hG rfl, WP_eq hG rfl, WP_eq hG rfl, WP_eq hG rfl, WP_eq hG rfl, WP_eq hG rfl, WP_eq hG rfl, WP_eq hG rfl, WP_eq hG rfl, WP_eq hG rfl, WP_eq hG rfl, WP_eq hG rfl, WP_eq hG rfl, WP_eq hG rfl, WP_eq hG rfl, WP_eq hG rfl, WP_eq hG rfl, WP_eq hG rfl, WP_eq hG rfl, WP_eq hG rfl, WP_eq hG rfl, WP_eq hG rfl, WP_eq hG rfl, WP_eq hG rfl, WP_eq hG rfl, WP_eq hG rfl, WP_eq hG rfl, WP_eq hG rfl, WP_eq hG rfl, WP_eq hG rfl⟩
def inA (k x : Nat) : Int32 := if 56 ≤ x ∧ x < 56 + k then nI 9999 else if x = 2 then -1 else if x = 3 then nI 1 else nI 0
def inB (r x : Nat) : Int32 := if 105 ≤ x ∧ x < 105 + 7 * r then (if (x - 105) % 7 = 2 then -1 else if (x - 105) % 7 < 2 then (if x < 112 then nI 0 else nI 9999) else nI 0) else inA 49 x
theorem inA_s (k : Nat) : up1 (inA k) (56 + k) (nI 9999) = inA (k + 1) := funext fun x => by
  by_cases c : x = 56 + k
  · rw [c, up1_s]; unfold inA; rw [if_pos (by omega)]
  · rw [up1_n _ _ c]
    unfold inA
    by_cases c2 : 56 ≤ x ∧ x < 56 + k
    · rw [if_pos c2, if_pos (show 56 ≤ x ∧ x < 56 + (k + 1) by omega)]
    · rw [if_neg c2, if_neg (show ¬ (56 ≤ x ∧ x < 56 + (k + 1)) by omega)]
theorem inB_o (r j : Nat) (hj : j < 2) : inB (r + 1) (105 + 7 * r + j) = if r = 0 then nI 0 else nI 9999 := by
  unfold inB
  rw [if_pos (show 105 ≤ 105 + 7 * r + j ∧ 105 + 7 * r + j < 105 + 7 * (r + 1) by omega), if_neg (show ¬ (105 + 7 * r + j - 105) % 7 = 2 by omega), if_pos (show (105 + 7 * r + j - 105) % 7 < 2 by omega)]
  by_cases c : r = 0
  · rw [if_pos c, if_pos (show 105 + 7 * r + j < 112 by omega)]
  · rw [if_neg c, if_neg (show ¬ 105 + 7 * r + j < 112 by omega)]
theorem inB_s (r : Nat) (hr : r < 7) : up1 (up1 (up1 (inB r) (105 + 7 * r) (if r = 0 then nI 0 else nI 9999)) (105 + 7 * r + 1) (if r = 0 then nI 0 else nI 9999)) (105 + 7 * r + 2) (-1) = inB (r + 1) := funext fun x => by
  by_cases c2 : x = 105 + 7 * r + 2
  · rw [c2, up1_s]
    unfold inB
    rw [if_pos (show 105 ≤ 105 + 7 * r + 2 ∧ 105 + 7 * r + 2 < 105 + 7 * (r + 1) by omega), if_pos (show (105 + 7 * r + 2 - 105) % 7 = 2 by omega)]
  · rw [up1_n _ _ c2]
    by_cases c1 : x = 105 + 7 * r + 1
    · rw [c1, up1_s, inB_o r 1 (by omega)]
    · rw [up1_n _ _ c1]
      by_cases c0 : x = 105 + 7 * r
      · have e : inB (r + 1) (105 + 7 * r) = if r = 0 then nI 0 else nI 9999 := inB_o r 0 (by omega)
        rw [c0, up1_s, e]
      · rw [up1_n _ _ c0]
        unfold inB
        by_cases c3 : 105 ≤ x ∧ x < 105 + 7 * r
        · rw [if_pos c3, if_pos (show 105 ≤ x ∧ x < 105 + 7 * (r + 1) by omega)]
        · rw [if_neg c3]
          by_cases c4 : 105 ≤ x ∧ x < 105 + 7 * (r + 1)
          · rw [if_pos c4, if_neg (show ¬ (x - 105) % 7 = 2 by omega), if_neg (show ¬ (x - 105) % 7 < 2 by omega)]
            unfold inA
            rw [if_neg (show ¬ (56 ≤ x ∧ x < 56 + 49) by omega), if_neg (show ¬ x = 2 by omega), if_neg (show ¬ x = 3 by omega)]
          · rw [if_neg c4]
theorem inB_7 : inB 7 = ini := funext fun x => by
  unfold inB ini inA
  by_cases c : 105 ≤ x ∧ x < 154
  · rw [if_pos (by omega), if_neg (show ¬ x = 2 by omega), if_neg (show ¬ x = 3 by omega), if_neg (show ¬ (56 ≤ x ∧ x < 105) by omega), if_pos c]
  · rw [if_neg (show ¬ (105 ≤ x ∧ x < 105 + 7 * 7) by omega)]
    by_cases c2 : 56 ≤ x ∧ x < 105
    · rw [if_pos (by omega), if_neg (show ¬ x = 2 by omega), if_neg (show ¬ x = 3 by omega), if_pos c2]
    · rw [if_neg (show ¬ (56 ≤ x ∧ x < 56 + 49) by omega), if_neg c2, if_neg c]
