/-! ===== the reference reads a law ===== -/
def pBh (T : TP) (om m q k : Nat) : Except Nat (List CLA) := if tTy T q = 0 then .ok [] else if bG T q 59 = true then pTx T om m (tBe T q) k else .error (tAt T q)
theorem pTx_s (T : TP) (om m q k : Nat) : pTx T om (m + 1) q k = match pCl T om q k with
    | .error f => Except.error f
    | .ok (c, q1, k1) => match pBh T om m q1 k1 with
      | .error f => Except.error f
      | .ok cs => Except.ok (c :: cs) := by
  show (match pCl T om q k with
    | .error f => Except.error f
    | .ok (c, q1, k1) => if tTy T q1 = 0 then Except.ok [c] else if bG T q1 59 = true then (match pTx T om m (tBe T q1) k1 with
      | .error f => Except.error f
      | .ok cs => Except.ok (c :: cs)) else Except.error (tAt T q1)) = _
  cases pCl T om q k with
  | error f => rfl
  | ok w =>
    obtain ⟨c, q1, k1⟩ := w
    simp only
    unfold pBh
    by_cases t : tTy T q1 = 0
    · rw [if_pos t, if_pos t]
    · rw [if_neg t, if_neg t]
      by_cases g : bG T q1 59 = true
      · rw [if_pos g, if_pos g]
      · rw [if_neg g, if_neg g]
def TxK (om : Nat) (C : MH → CFt → Nat → Nat → CLA → Prop) (h0 : MH) (cs0 : List CLA) (P : MH → Prop) : Except Nat (List CLA) → Prop
  | .error f => ∀ h', MTG h0 h' → hfi h' 273 19 = nI 1 → hfi h' 273 18 = nI f → hfi h' 273 13 = nI 0 → hfi h' 273 20 = nI 0 → P h'
  | .ok cs => ∀ h' cf nc, MTG h0 h' → hfi h' 273 19 = nI 0 → hfi h' 273 18 = -1 → hfi h' 273 13 = nI 0 → hfi h' 273 20 = nI 0 → hfi h' 273 21 = nI (cs0 ++ cs).length → hfi h' 273 23 = nI nc → (∀ i, i < nc → hia h' 284 i = nI (cf i).1 ∧ hia h' 285 i = nI (cf i).2) → CV om cf nc → nc ≤ 400 → (∀ j x, (cs0 ++ cs)[j]? = some x → C h' cf nc j x) → P h'
theorem TxK_er {om : Nat} {C : MH → CFt → Nat → Nat → CLA → Prop} {h0 h : MH} {cs0 : List CLA} {P : MH → Prop} {f : Nat} (F : MTG h0 h) (e : MErz h f) (K : TxK om C h0 cs0 P (.error f)) : P (etH h) :=
  K _ (F.trans (MTG_et h)) (by rw [et_g, up1_n _ _ (by omega), up1_n _ _ (by omega)]; exact e.1) (by rw [et_g, up1_n _ _ (by omega), up1_n _ _ (by omega)]; exact e.2.1) (by rw [et_g, up1_s]) (by rw [et_g, up1_n _ _ (by omega), up1_s])
theorem TxK_ok {om : Nat} {C : MH → CFt → Nat → Nat → CLA → Prop} {h0 h : MH} {cs0 : List CLA} {P : MH → Prop} {T : TP} {q : Nat} {cf : CFt} {nc k : Nat} (F : MTG h0 h) (r : MRz h T om q cf nc k) (cv : CV om cf nc) (h21 : hfi h 273 21 = nI cs0.length) (X : ∀ j x, cs0[j]? = some x → C (etH h) cf nc j x) (K : TxK om C h0 cs0 P (.ok [])) : P (etH h) := by
  refine K _ cf nc (F.trans (MTG_et h)) (by rw [et_g, up1_n _ _ (by omega), up1_n _ _ (by omega)]; exact r.2.2.2.1) (by rw [et_g, up1_n _ _ (by omega), up1_n _ _ (by omega)]; exact r.2.2.2.2.2.2) (by rw [et_g, up1_s]) (by rw [et_g, up1_n _ _ (by omega), up1_s]) (by rw [et_g, up1_n _ _ (by omega), up1_n _ _ (by omega), List.append_nil]; exact h21) (by rw [et_g, up1_n _ _ (by omega), up1_n _ _ (by omega)]; exact r.2.1.2.1) r.2.1.2.2.1 cv r.2.1.2.2.2 (fun j x hj => ?_)
  rw [List.append_nil] at hj
  exact X j x hj
theorem app1 {cs0 : List CLA} {c x : CLA} {i j : Nat} (hcs : cs0.length = i) (hj : (cs0 ++ [c])[j]? = some x) : (j < i ∧ cs0[j]? = some x) ∨ (j = i ∧ c = x) := by
  by_cases jl : j < i
  · rw [List.getElem?_append_left (by omega)] at hj
    exact Or.inl ⟨jl, hj⟩
  · rw [List.getElem?_append_right (by omega), hcs] at hj
    have j0 : j - i = 0 := by
      refine Decidable.byContradiction (fun z => ?_)
      rw [List.getElem?_eq_none (by show 1 ≤ j - i; omega)] at hj
      cases hj
    rw [j0] at hj
    exact Or.inr ⟨by omega, by injection hj⟩
def CLw (h : MH) (cf : CFt) (nc j : Nat) (x : CLA) : Prop := MClL (hia h 283) cf nc (8 * j) x
set_option maxRecDepth 20000 in
theorem UC_Mo_law_68 {G : GT} (hG : Gmono G) (R : RT) (lm : Nat × Nat) : WP cd_Mo_law G R lm 0 = stp G R lm (2, 1, 0, 0, 0, 0, []) (WP cd_Mo_law G R lm) ∧ WP cd_Mo_law G R lm 1 = stp G R lm (7, 2, 0, 0, nI 0, 0, []) (WP cd_Mo_law G R lm) ∧ WP cd_Mo_law G R lm 2 = stp G R lm (59, 5, 8, 0, 0, 0, []) (WP cd_Mo_law G R lm) ∧ WP cd_Mo_law G R lm 5 = stp G R lm (2, 6, 0, 0, 0, 0, []) (WP cd_Mo_law G R lm) ∧ WP cd_Mo_law G R lm 6 = stp G R lm (58, 9, 8, 3, 0, 0, []) (WP cd_Mo_law G R lm) ∧ WP cd_Mo_law G R lm 9 = stp G R lm (7, 10, 0, 0, nI 1, 0, []) (WP cd_Mo_law G R lm) ∧ WP cd_Mo_law G R lm 10 = stp G R lm (62, 11, 0, 0, 0, 0, []) (WP cd_Mo_law G R lm) ∧ WP cd_Mo_law G R lm 11 = stp G R lm (7, 13, 0, 0, nI 6, 0, []) (WP cd_Mo_law G R lm) ∧ WP cd_Mo_law G R lm 13 = stp G R lm (42, 16, 28, 0, 0, 0, []) (WP cd_Mo_law G R lm) ∧ WP cd_Mo_law G R lm 16 = stp G R lm (2, 17, 0, 0, 0, 0, []) (WP cd_Mo_law G R lm) ∧ WP cd_Mo_law G R lm 17 = stp G R lm (7, 18, 0, 0, nI 0, 0, []) (WP cd_Mo_law G R lm) ∧ WP cd_Mo_law G R lm 18 = stp G R lm (59, 21, 8, 13, 0, 0, []) (WP cd_Mo_law G R lm) ∧ WP cd_Mo_law G R lm 21 = stp G R lm (2, 22, 0, 0, 0, 0, []) (WP cd_Mo_law G R lm) ∧ WP cd_Mo_law G R lm 22 = stp G R lm (7, 24, 0, 0, (-5), 0, []) (WP cd_Mo_law G R lm) ∧ WP cd_Mo_law G R lm 24 = stp G R lm (86, 27, 133, 1, 0, 0, [8]) (WP cd_Mo_law G R lm) ∧ WP cd_Mo_law G R lm 27 = stp G R lm (81, 28, 0, 0, 0, 0, []) (WP cd_Mo_law G R lm) ∧ WP cd_Mo_law G R lm 28 = stp G R lm (2, 29, 0, 0, 0, 0, []) (WP cd_Mo_law G R lm) ∧ WP cd_Mo_law G R lm 29 = stp G R lm (7, 30, 0, 0, nI 0, 0, []) (WP cd_Mo_law G R lm) ∧ WP cd_Mo_law G R lm 30 = stp G R lm (86, 33, 187, 1, 0, 0, [8]) (WP cd_Mo_law G R lm) ∧ WP cd_Mo_law G R lm 33 = stp G R lm (2, 34, 0, 0, 0, 0, []) (WP cd_Mo_law G R lm) ∧ WP cd_Mo_law G R lm 34 = stp G R lm (86, 37, 189, 0, 0, 0, [8]) (WP cd_Mo_law G R lm) ∧ WP cd_Mo_law G R lm 38 = stp G R lm (56, 41, 8, 19, 0, 0, []) (WP cd_Mo_law G R lm) ∧ WP cd_Mo_law G R lm 41 = stp G R lm (48, 44, 64, 0, 0, 0, []) (WP cd_Mo_law G R lm) ∧ WP cd_Mo_law G R lm 44 = stp G R lm (2, 45, 0, 0, 0, 0, []) (WP cd_Mo_law G R lm) ∧ WP cd_Mo_law G R lm 45 = stp G R lm (7, 47, 0, 0, nI 59, 0, []) (WP cd_Mo_law G R lm) ∧ WP cd_Mo_law G R lm 47 = stp G R lm (86, 50, 168, 1, 0, 0, [8]) (WP cd_Mo_law G R lm) ∧ WP cd_Mo_law G R lm 50 = stp G R lm (47, 53, 64, 0, 0, 0, []) (WP cd_Mo_law G R lm) ∧ WP cd_Mo_law G R lm 53 = stp G R lm (2, 54, 0, 0, 0, 0, []) (WP cd_Mo_law G R lm) ∧ WP cd_Mo_law G R lm 54 = stp G R lm (86, 57, 166, 0, 0, 0, [8]) (WP cd_Mo_law G R lm) ∧ WP cd_Mo_law G R lm 57 = stp G R lm (2, 58, 0, 0, 0, 0, []) (WP cd_Mo_law G R lm) ∧ WP cd_Mo_law G R lm 58 = stp G R lm (86, 61, 189, 0, 0, 0, [8]) (WP cd_Mo_law G R lm) ∧ WP cd_Mo_law G R lm 61 = stp G R lm (40, 37, 0, 0, 0, 0, []) (WP cd_Mo_law G R lm) ∧ WP cd_Mo_law G R lm 64 = stp G R lm (2, 65, 0, 0, 0, 0, []) (WP cd_Mo_law G R lm) ∧ WP cd_Mo_law G R lm 65 = stp G R lm (86, 68, 188, 0, 0, 0, [8]) (WP cd_Mo_law G R lm) ∧ WP cd_Mo_law G R lm 69 = stp G R lm (56, 72, 8, 19, 0, 0, []) (WP cd_Mo_law G R lm) ∧ WP cd_Mo_law G R lm 72 = stp G R lm (47, 75, 82, 0, 0, 0, []) (WP cd_Mo_law G R lm) ∧ WP cd_Mo_law G R lm 75 = stp G R lm (2, 76, 0, 0, 0, 0, []) (WP cd_Mo_law G R lm) ∧ WP cd_Mo_law G R lm 76 = stp G R lm (7, 78, 0, 0, (-6), 0, []) (WP cd_Mo_law G R lm) ∧ WP cd_Mo_law G R lm 78 = stp G R lm (86, 81, 133, 1, 0, 0, [8]) (WP cd_Mo_law G R lm) ∧ WP cd_Mo_law G R lm 81 = stp G R lm (81, 82, 0, 0, 0, 0, []) (WP cd_Mo_law G R lm) ∧ WP cd_Mo_law G R lm 82 = stp G R lm (7, 85, 0, 0, nI 2022, 0, []) (WP cd_Mo_law G R lm) ∧ WP cd_Mo_law G R lm 85 = stp G R lm (7, 88, 0, 0, nI 900, 0, []) (WP cd_Mo_law G R lm) ∧ WP cd_Mo_law G R lm 88 = stp G R lm (2, 89, 0, 0, 0, 0, []) (WP cd_Mo_law G R lm) ∧ WP cd_Mo_law G R lm 89 = stp G R lm (58, 92, 8, 3, 0, 0, []) (WP cd_Mo_law G R lm) ∧ WP cd_Mo_law G R lm 92 = stp G R lm (7, 93, 0, 0, nI 1, 0, []) (WP cd_Mo_law G R lm) ∧ WP cd_Mo_law G R lm 93 = stp G R lm (62, 94, 0, 0, 0, 0, []) (WP cd_Mo_law G R lm) ∧ WP cd_Mo_law G R lm 94 = stp G R lm (14, 95, 0, 0, 0, 0, []) (WP cd_Mo_law G R lm) ∧ WP cd_Mo_law G R lm 95 = stp G R lm (12, 96, 0, 0, 0, 0, []) (WP cd_Mo_law G R lm) ∧ WP cd_Mo_law G R lm 96 = stp G R lm (4, 97, 1, 0, 0, 0, []) (WP cd_Mo_law G R lm) ∧ WP cd_Mo_law G R lm 97 = stp G R lm (2, 98, 0, 0, 0, 0, []) (WP cd_Mo_law G R lm) ∧ WP cd_Mo_law G R lm 98 = stp G R lm (58, 101, 8, 3, 0, 0, []) (WP cd_Mo_law G R lm) ∧ WP cd_Mo_law G R lm 101 = stp G R lm (1, 102, 1, 0, 0, 0, []) (WP cd_Mo_law G R lm) ∧ WP cd_Mo_law G R lm 102 = stp G R lm (7, 103, 0, 0, nI 1, 0, []) (WP cd_Mo_law G R lm) ∧ WP cd_Mo_law G R lm 103 = stp G R lm (12, 104, 0, 0, 0, 0, []) (WP cd_Mo_law G R lm) ∧ WP cd_Mo_law G R lm 104 = stp G R lm (2, 105, 0, 0, 0, 0, []) (WP cd_Mo_law G R lm) ∧ WP cd_Mo_law G R lm 105 = stp G R lm (56, 108, 8, 21, 0, 0, []) (WP cd_Mo_law G R lm) ∧ WP cd_Mo_law G R lm 108 = stp G R lm (66, 109, 0, 0, 0, 0, []) (WP cd_Mo_law G R lm) ∧ WP cd_Mo_law G R lm 109 = stp G R lm (7, 110, 0, 0, nI 0, 0, []) (WP cd_Mo_law G R lm) ∧ WP cd_Mo_law G R lm 110 = stp G R lm (4, 111, 2, 0, 0, 0, []) (WP cd_Mo_law G R lm) ∧ WP cd_Mo_law G R lm 112 = stp G R lm (7, 114, 0, 0, nI 8, 0, []) (WP cd_Mo_law G R lm) ∧ WP cd_Mo_law G R lm 114 = stp G R lm (2, 115, 0, 0, 0, 0, []) (WP cd_Mo_law G R lm) ∧ WP cd_Mo_law G R lm 115 = stp G R lm (56, 118, 8, 21, 0, 0, []) (WP cd_Mo_law G R lm) ∧ WP cd_Mo_law G R lm 118 = stp G R lm (14, 119, 0, 0, 0, 0, []) (WP cd_Mo_law G R lm) ∧ WP cd_Mo_law G R lm 119 = stp G R lm (44, 122, 144, 0, 0, 0, []) (WP cd_Mo_law G R lm) ∧ WP cd_Mo_law G R lm 122 = stp G R lm (2, 123, 0, 0, 0, 0, []) (WP cd_Mo_law G R lm) ∧ WP cd_Mo_law G R lm 123 = stp G R lm (58, 126, 8, 3, 0, 0, []) (WP cd_Mo_law G R lm) ∧ WP cd_Mo_law G R lm 126 = stp G R lm (1, 127, 1, 0, 0, 0, []) (WP cd_Mo_law G R lm) ∧ WP cd_Mo_law G R lm 127 = stp G R lm (7, 128, 0, 0, nI 2, 0, []) (WP cd_Mo_law G R lm) ∧ WP cd_Mo_law G R lm 128 = stp G R lm (12, 129, 0, 0, 0, 0, []) (WP cd_Mo_law G R lm) ∧ WP cd_Mo_law G R lm 129 = stp G R lm (1, 130, 2, 0, 0, 0, []) (WP cd_Mo_law G R lm) ∧ WP cd_Mo_law G R lm 130 = stp G R lm (12, 131, 0, 0, 0, 0, []) (WP cd_Mo_law G R lm) ∧ WP cd_Mo_law G R lm 131 = stp G R lm (2, 132, 0, 0, 0, 0, []) (WP cd_Mo_law G R lm) ∧ WP cd_Mo_law G R lm 132 = stp G R lm (58, 135, 8, 22, 0, 0, []) (WP cd_Mo_law G R lm) ∧ WP cd_Mo_law G R lm 135 = stp G R lm (1, 136, 2, 0, 0, 0, []) (WP cd_Mo_law G R lm) ∧ WP cd_Mo_law G R lm 136 = stp G R lm (62, 137, 0, 0, 0, 0, []) (WP cd_Mo_law G R lm) ∧ WP cd_Mo_law G R lm 137 = stp G R lm (66, 138, 0, 0, 0, 0, []) (WP cd_Mo_law G R lm) ∧ WP cd_Mo_law G R lm 138 = stp G R lm (11, 141, 2, 0, nI 1, 0, []) (WP cd_Mo_law G R lm) ∧ WP cd_Mo_law G R lm 141 = stp G R lm (40, 111, 0, 0, 0, 0, []) (WP cd_Mo_law G R lm) ∧ WP cd_Mo_law G R lm 144 = stp G R lm (7, 145, 0, 0, nI 0, 0, []) (WP cd_Mo_law G R lm) ∧ WP cd_Mo_law G R lm 145 = stp G R lm (4, 146, 2, 0, 0, 0, []) (WP cd_Mo_law G R lm) ∧ WP cd_Mo_law G R lm 147 = stp G R lm (2, 148, 0, 0, 0, 0, []) (WP cd_Mo_law G R lm) ∧ WP cd_Mo_law G R lm 148 = stp G R lm (56, 151, 8, 23, 0, 0, []) (WP cd_Mo_law G R lm) ∧ WP cd_Mo_law G R lm 151 = stp G R lm (44, 154, 200, 0, 0, 0, []) (WP cd_Mo_law G R lm) ∧ WP cd_Mo_law G R lm 154 = stp G R lm (2, 155, 0, 0, 0, 0, []) (WP cd_Mo_law G R lm) ∧ WP cd_Mo_law G R lm 155 = stp G R lm (58, 158, 8, 3, 0, 0, []) (WP cd_Mo_law G R lm) ∧ WP cd_Mo_law G R lm 158 = stp G R lm (1, 159, 1, 0, 0, 0, []) (WP cd_Mo_law G R lm) ∧ WP cd_Mo_law G R lm 159 = stp G R lm (7, 161, 0, 0, nI 98, 0, []) (WP cd_Mo_law G R lm) ∧ WP cd_Mo_law G R lm 161 = stp G R lm (12, 162, 0, 0, 0, 0, []) (WP cd_Mo_law G R lm) ∧ WP cd_Mo_law G R lm 162 = stp G R lm (7, 163, 0, 0, nI 2, 0, []) (WP cd_Mo_law G R lm) ∧ WP cd_Mo_law G R lm 163 = stp G R lm (1, 164, 2, 0, 0, 0, []) (WP cd_Mo_law G R lm) ∧ WP cd_Mo_law G R lm 164 = stp G R lm (14, 165, 0, 0, 0, 0, []) (WP cd_Mo_law G R lm) ∧ WP cd_Mo_law G R lm 165 = stp G R lm (12, 166, 0, 0, 0, 0, []) (WP cd_Mo_law G R lm) ∧ WP cd_Mo_law G R lm 166 = stp G R lm (2, 167, 0, 0, 0, 0, []) (WP cd_Mo_law G R lm) ∧ WP cd_Mo_law G R lm 167 = stp G R lm (58, 170, 8, 24, 0, 0, []) (WP cd_Mo_law G R lm) ∧ WP cd_Mo_law G R lm 170 = stp G R lm (1, 171, 2, 0, 0, 0, []) (WP cd_Mo_law G R lm) ∧ WP cd_Mo_law G R lm 171 = stp G R lm (62, 172, 0, 0, 0, 0, []) (WP cd_Mo_law G R lm) ∧ WP cd_Mo_law G R lm 172 = stp G R lm (66, 173, 0, 0, 0, 0, []) (WP cd_Mo_law G R lm) ∧ WP cd_Mo_law G R lm 173 = stp G R lm (2, 174, 0, 0, 0, 0, []) (WP cd_Mo_law G R lm) ∧ WP cd_Mo_law G R lm 174 = stp G R lm (58, 177, 8, 3, 0, 0, []) (WP cd_Mo_law G R lm) ∧ WP cd_Mo_law G R lm 177 = stp G R lm (1, 178, 1, 0, 0, 0, []) (WP cd_Mo_law G R lm) ∧ WP cd_Mo_law G R lm 178 = stp G R lm (7, 180, 0, 0, nI 98, 0, []) (WP cd_Mo_law G R lm) ∧ WP cd_Mo_law G R lm 180 = stp G R lm (12, 181, 0, 0, 0, 0, []) (WP cd_Mo_law G R lm) ∧ WP cd_Mo_law G R lm 181 = stp G R lm (7, 182, 0, 0, nI 2, 0, []) (WP cd_Mo_law G R lm) ∧ WP cd_Mo_law G R lm 182 = stp G R lm (1, 183, 2, 0, 0, 0, []) (WP cd_Mo_law G R lm) ∧ WP cd_Mo_law G R lm 183 = stp G R lm (14, 184, 0, 0, 0, 0, []) (WP cd_Mo_law G R lm) ∧ WP cd_Mo_law G R lm 184 = stp G R lm (12, 185, 0, 0, 0, 0, []) (WP cd_Mo_law G R lm) ∧ WP cd_Mo_law G R lm 185 = stp G R lm (7, 186, 0, 0, nI 1, 0, []) (WP cd_Mo_law G R lm) ∧ WP cd_Mo_law G R lm 186 = stp G R lm (12, 187, 0, 0, 0, 0, []) (WP cd_Mo_law G R lm) ∧ WP cd_Mo_law G R lm 187 = stp G R lm (2, 188, 0, 0, 0, 0, []) (WP cd_Mo_law G R lm) ∧ WP cd_Mo_law G R lm 188 = stp G R lm (58, 191, 8, 25, 0, 0, []) (WP cd_Mo_law G R lm) ∧ WP cd_Mo_law G R lm 191 = stp G R lm (1, 192, 2, 0, 0, 0, []) (WP cd_Mo_law G R lm) ∧ WP cd_Mo_law G R lm 192 = stp G R lm (62, 193, 0, 0, 0, 0, []) (WP cd_Mo_law G R lm) ∧ WP cd_Mo_law G R lm 193 = stp G R lm (66, 194, 0, 0, 0, 0, []) (WP cd_Mo_law G R lm) ∧ WP cd_Mo_law G R lm 194 = stp G R lm (11, 197, 2, 0, nI 1, 0, []) (WP cd_Mo_law G R lm) ∧ WP cd_Mo_law G R lm 197 = stp G R lm (40, 146, 0, 0, 0, 0, []) (WP cd_Mo_law G R lm) ∧ WP cd_Mo_law G R lm 200 = stp G R lm (2, 201, 0, 0, 0, 0, []) (WP cd_Mo_law G R lm) ∧ WP cd_Mo_law G R lm 201 = stp G R lm (58, 204, 8, 3, 0, 0, []) (WP cd_Mo_law G R lm) ∧ WP cd_Mo_law G R lm 204 = stp G R lm (7, 205, 0, 0, nI 1, 0, []) (WP cd_Mo_law G R lm) ∧ WP cd_Mo_law G R lm 205 = stp G R lm (38, 206, 0, 0, 0, 0, []) (WP cd_Mo_law G R lm) ∧ WP cd_Mo_law G R lm 206 = stp G R lm (62, 207, 0, 0, 0, 0, []) (WP cd_Mo_law G R lm) ∧ WP cd_Mo_law G R lm 207 = stp G R lm (7, 208, 0, 0, nI 1, 0, []) (WP cd_Mo_law G R lm) ∧ WP cd_Mo_law G R lm 208 = stp G R lm (12, 209, 0, 0, 0, 0, []) (WP cd_Mo_law G R lm) ∧ WP cd_Mo_law G R lm 209 = stp G R lm (66, 210, 0, 0, 0, 0, []) (WP cd_Mo_law G R lm) ∧ WP cd_Mo_law G R lm 210 = stp G R lm (2, 211, 0, 0, 0, 0, []) (WP cd_Mo_law G R lm) ∧ WP cd_Mo_law G R lm 211 = stp G R lm (2, 212, 0, 0, 0, 0, []) (WP cd_Mo_law G R lm) ∧ WP cd_Mo_law G R lm 212 = stp G R lm (58, 215, 8, 3, 0, 0, []) (WP cd_Mo_law G R lm) ∧ WP cd_Mo_law G R lm 215 = stp G R lm (7, 216, 0, 0, nI 1, 0, []) (WP cd_Mo_law G R lm) ∧ WP cd_Mo_law G R lm 216 = stp G R lm (62, 217, 0, 0, 0, 0, []) (WP cd_Mo_law G R lm) ∧ WP cd_Mo_law G R lm 217 = stp G R lm (7, 218, 0, 0, nI 1, 0, []) (WP cd_Mo_law G R lm) ∧ WP cd_Mo_law G R lm 218 = stp G R lm (13, 219, 0, 0, 0, 0, []) (WP cd_Mo_law G R lm) ∧ WP cd_Mo_law G R lm 219 = stp G R lm (86, 222, 133, 1, 0, 0, [8]) (WP cd_Mo_law G R lm) ∧ WP cd_Mo_law G R lm 222 = stp G R lm (81, 223, 0, 0, 0, 0, []) (WP cd_Mo_law G R lm) := ⟨WP_eq hG rfl, WP_eq hG rfl, WP_eq hG rfl, WP_eq hG rfl, WP_eq hG rfl, WP_eq hG rfl, WP_eq hG rfl, WP_eq hG rfl, WP_eq hG rfl, WP_eq hG rfl, WP_eq hG rfl, WP_eq hG rfl, WP_eq hG rfl, WP_eq hG rfl, WP_eq hG rfl, WP_eq hG rfl, WP_eq hG rfl, WP_eq hG rfl, WP_eq hG rfl, WP_eq hG rfl, WP_eq hG rfl, WP_eq hG rfl, WP_eq hG rfl, WP_eq hG rfl, WP_eq hG rfl, WP_eq hG rfl, WP_eq hG rfl, WP_eq hG rfl, WP_eq hG rfl, WP_eq hG rfl, WP_eq hG rfl, WP_eq hG rfl, WP_eq hG rfl, WP_eq hG rfl, WP_eq hG rfl, WP_eq hG rfl, WP_eq hG rfl, WP_eq hG rfl, WP_eq hG rfl, WP_eq hG rfl, WP_eq hG rfl, WP_eq hG rfl, WP_eq hG rfl, WP_eq hG rfl, WP_eq hG rfl, WP_eq hG rfl, WP_eq hG rfl, WP_eq hG rfl, WP_eq hG rfl, WP_eq hG rfl, WP_eq hG rfl, WP_eq hG rfl, WP_eq hG rfl, WP_eq hG rfl, WP_eq hG rfl, WP_eq hG rfl, WP_eq hG rfl, WP_eq hG rfl, WP_eq hG rfl, WP_eq hG rfl, WP_eq hG rfl, WP_eq hG rfl, WP_eq hG rfl, WP_eq hG rfl, WP_eq hG rfl, WP_eq hG rfl, WP_eq hG rfl, WP_eq hG rfl, WP_eq hG rfl, WP_eq hG rfl, WP_eq hG rfl, WP_eq hG rfl, WP_eq hG rfl, WP_eq hG rfl, WP_eq hG rfl, WP_eq hG rfl, WP_eq hG rfl, WP_eq hG rfl, WP_eq hG rfl, WP_eq hG rfl, WP_eq hG rfl, WP_eq hG rfl, WP_eq hG rfl, WP_eq hG rfl, WP_eq hG rfl, WP_eq hG rfl, WP_eq hG rfl, WP_eq hG rfl, WP_eq hG rfl, WP_eq hG rfl, WP_eq hG rfl, WP_eq hG rfl, WP_eq hG rfl, WP_eq hG rfl, WP_eq hG rfl, WP_eq hG rfl, WP_eq hG rfl, WP_eq hG rfl, WP_eq hG rfl, WP_eq hG rfl, WP_eq hG rfl, WP_eq hG rfl, WP_eq hG rfl, WP_eq hG rfl, WP_eq hG rfl, WP_eq hG rfl, WP_eq hG rfl, WP_eq hG rfl, WP_eq hG rfl, WP_eq hG rfl, WP_eq hG rfl, WP_eq hG rfl, WP_eq hG rfl, WP_eq hG rfl, WP_eq hG rfl, WP_eq hG rfl, WP_eq hG rfl, WP_eq hG rfl, WP_eq hG rfl, WP_eq hG rfl, WP_eq hG rfl, WP_eq hG rfl, WP_eq hG rfl, WP_eq hG rfl, WP_eq hG rfl, WP_eq hG rfl, WP_eq hG rfl, WP_eq hG rfl, WP_eq hG rfl, WP_eq hG rfl, WP_eq hG rfl, WP_eq hG rfl⟩
theorem m_lw37E (d : Nat) {h : MH} {f : Nat} (e : MErz h f) (lm : Nat × Nat) (Q : RT) (Y : WP cd_Mo_law (callD (d + 1)) Q lm 68 [] [some (.ref 273), none, none] (etH h)) : WP cd_Mo_law (callD (d + 1)) Q lm 37 [] [some (.ref 273), none, none] h := by
  have k8 := e.2.2.cls.1
  have b := e.1
  have ET := fun Q => m_endTextE d e Q
  generalize etH h = h2 at *
  rw [U_Mo_law_37 (cm _)]
  simp (disch := omega) only [UC_Mo_law_68 (cm _), SA, SB, SC1, SC2, SG, SV, k8, b, ET, eqI, Nat.one_ne_zero, true_implies, not_true_eq_false, not_false_eq_true, false_implies, true_and, and_true]
  exact Y
theorem m_l_law37 (d : Nat) {T : TP} {h0 : MH} (Q : RT) (lm : Nat × Nat) : ∀ (m i q k : Nat) (cf : CFt) (nc : Nat) (h : MH) (cs0 : List CLA), i + m = 12 → cs0.length = i → MTG h0 h → HDM h → MRz h T 0 q cf nc k → k ≤ 50 → nc < q → CV 0 cf nc → hfi h 273 21 = nI i → (∀ j x, cs0[j]? = some x → CLw h cf nc j x) → TxK 0 CLw h0 cs0 (fun h' => WP cd_Mo_law (callD (d + 8)) Q lm 68 [] [some (.ref 273), none, none] h') (pBh T 0 m q k) → WP cd_Mo_law (callD (d + 8)) Q lm 37 [] [some (.ref 273), none, none] h := by
  intro m
  induction m using Nat.strongRecOn with
  | _ m ih =>
  intro i q k cf nc h cs0 him hcs F0 hd r hk hn cv h21 X K
  have k8 := r.1.1.1
  have b := r.2.2.2.1
  have hq := r.1.2.2.1
  have S := fun Q => m_isSign (d + 7) q 59 (by omega) r.1 Q
  have ET := fun Q => m_endText (d + 4) r Q
  unfold pBh at K
  rw [U_Mo_law_37 (cm _)]
  by_cases t : tTy T q = 0
  · rw [if_pos t] at K
    simp only [if_pos t] at ET
    have c : bG T q 59 = false := by
      cases z : bG T q 59 with
      | false => rfl
      | true => exact absurd t (bG_ty z)
    rw [c, b2_f] at S
    have Y := TxK_ok F0 r cv (by rw [h21, hcs]) (fun j x hj => X j x hj) K
    generalize etH h = h2 at *
    simp (disch := omega) only [UC_Mo_law_68 (cm _), SA, SB, SC1, SC2, SG, SV, k8, b, S, ET, eqI, Nat.one_ne_zero, true_implies, not_true_eq_false, not_false_eq_true, false_implies, true_and, and_true]
    exact Y
  · rw [if_neg t] at K
    simp only [if_neg t] at ET
    cases c : bG T q 59 with
    | false =>
      rw [if_neg (by rw [c]; decide)] at K
      rw [c, b2_f] at S
      obtain ⟨B1, B2⟩ := MRz_bd r
      have Y := TxK_er (F0.trans B2.T.G) B1 K
      generalize etH (bdH h) = h2 at *
      simp (disch := omega) only [UC_Mo_law_68 (cm _), SA, SB, SC1, SC2, SG, SV, k8, b, S, ET, eqI, Nat.one_ne_zero, true_implies, not_true_eq_false, not_false_eq_true, false_implies, true_and, and_true]
      exact Y
    | true =>
      rw [if_pos c] at K
      rw [c, b2_t] at S
      clear ET
      obtain ⟨a1, a2⟩ := q_adv hq (bG_ty c)
      obtain ⟨N1, N2⟩ := MRz_nx r
      have NM := fun Q => (m_next1 (d + 6) q r.1 Q).1
      have nk := N1.1.1.1
      have n21 := (MTF.f21 N2).trans h21
      have n283 : hia (nxH h T q) 283 = hia h 283 := N2.2.2.1 283 (by omega)
      have hd1 : HDM (nxH h T q) := hd
      have FF := F0.trans N2.T.G
      generalize nxH h T q = h1 at *
      simp (disch := omega) only [UC_Mo_law_68 (cm _), SA, SB, SC1, SC2, SG, SV, k8, nk, b, S, NM, eqI, Nat.one_ne_zero, true_implies, not_true_eq_false, not_false_eq_true, false_implies, true_and, and_true]
      refine m_readLaw d i (tBe T q) (by omega) N1 hd1 hk (by omega) cv n21 _ ?_
      clear NM S
      by_cases i12 : i < 12
      · rw [if_pos i12]
        obtain ⟨m', rfl⟩ : ∃ m', m = m' + 1 := ⟨m - 1, by omega⟩
        rw [pTx_s] at K
        cases hp : pCl T 0 (tBe T q) k with
        | error f =>
          rw [hp] at K
          intro h3 f3 e3
          simp (disch := omega) only [UC_Mo_law_68 (cm _), SA, SB, SC1, SC2, SG, SV]
          exact m_lw37E (d + 7) e3 lm Q (TxK_er (FF.trans f3.G) e3 K)
        | ok w =>
          obtain ⟨c1, q1, k1⟩ := w
          rw [hp] at K
          simp only at K
          intro h3 cf3 nc3 f3 r3 e21 cc cv3 nn3 n3 k3 kx mc
          simp (disch := omega) only [UC_Mo_law_68 (cm _), SA, SB, SC1, SC2, SG, SV]
          refine ih m' (by omega) (i + 1) q1 k1 cf3 nc3 h3 (cs0 ++ [c1]) (by omega) (by rw [List.length_append, hcs]; rfl) (FF.trans f3.G) (by have z := f3.1.2.2.2.2; unfold HDM; rw [z]; exact hd1) r3 k3 n3 cv3 e21 (fun j x hj => ?_) ?_
          · rcases app1 hcs hj with ⟨j1, j2⟩ | ⟨j1, j2⟩
            · exact (X j x j2).of (fun y y1 y2 => by rw [kx y (by omega), n283]) nn3 cc
            · subst j1 j2; exact mc
          · cases hb : pBh T 0 m' q1 k1 with
            | error f =>
              rw [hb] at K
              exact K
            | ok cs =>
              rw [hb] at K
              intro h4 cf4 nc4 g1 g2 g3 g4 g5 g6 g7 g8 g9 g10 g11
              rw [List.append_assoc] at g6 g11
              exact K h4 cf4 nc4 g1 g2 g3 g4 g5 g6 g7 g8 g9 g10 g11
      · rw [if_neg i12]
        have m0 : m = 0 := by omega
        subst m0
        intro h3 f3 e3
        simp (disch := omega) only [UC_Mo_law_68 (cm _), SA, SB, SC1, SC2, SG, SV]
        exact m_lw37E (d + 7) e3 lm Q (TxK_er (FF.trans f3.G) e3 K)
