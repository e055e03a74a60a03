/-! ===== sums: the reference's machine reads what the language says ===== -/
section Sim
variable {T : TP} {om : Nat} {test : Bool}
/-- what a reading of a sum's part must come to -/
def SimA (T : TP) (om : Nat) (test : Bool) (l : Nat) (st : MSx) (S : PLt) (cf : CFt) (nc op D : Nat) (r : PRs) (nj : Nat → Prop) : Prop := match r with
  | .error f => Rx T om test st (.error f)
  | .ok (v, q', k') => ∃ X cf' nc', Rx T om test st (.ok (q', 3, X ++ S, cf', nc', k', op)) ∧ (∀ x, x ∈ X → 20 ≤ x.1 ∧ x.1 ≤ 24) ∧ Fin' om l (X ++ S) cf' nc' S cf nc D v ∧ nj q'
theorem dM_ar {o b : Nat} (h1 : 20 ≤ o) (h2 : o ≤ 27) : dM om o b = (o - 14, b) := by
  unfold dM
  rw [if_neg (by omega), if_neg (by omega), if_pos (by omega)]
theorem Seg_c {cf cf' : CFt} {i j D : Nat} {v : VAL} (s : Seg (lM om cf) i j D v) (h : ∀ k, i ≤ k → k < j → cf' k = cf k) : Seg (lM om cf') i j D v := s.of (fun k h1 h2 => by unfold lM; rw [h k h1 h2])
theorem mSt1 (q : Nat) (pl : PLt) (cf : CFt) (nc k op : Nat) : mStp T om test (q, 1, pl, cf, nc, k, op) = sPart T om q pl cf nc k op := rfl
theorem mSt3 (q : Nat) (pl : PLt) (cf : CFt) (nc k op : Nat) : mStp T om test (q, 3, pl, cf, nc, k, op) = sSum T test q pl cf nc k op := rfl
theorem mSt0 (q : Nat) (pl : PLt) (cf : CFt) (nc k op : Nat) : mStp T om test (q, 0, pl, cf, nc, k, op) = sPlain T om q pl cf nc k op := rfl
theorem mSt2 (q : Nat) (pl : PLt) (cf : CFt) (nc k op : Nat) : mStp T om test (q, 2, pl, cf, nc, k, op) = sTest T q pl cf nc k op := rfl
theorem dM_w {w b : Nat} (hom : om ≤ 1) (h : w < 23) (h0 : om = 0 → w < 7) (h1 : om = 1 → w = 4 ∨ w = 5 ∨ w = 7 ∨ w = 8 ∨ w = 9 ∨ w = 16) : dM om (mW om w) b = (2, if om = 1 ∧ (w = 9 ∨ w = 16) then w + b else w) := by
  unfold dM mW
  rcases (show om = 0 ∨ om = 1 by omega) with rfl | rfl
  · have := h0 rfl
    rw [if_pos rfl, if_neg (by omega), if_pos (by omega), if_pos rfl, if_neg (by omega)]; rfl
  · rcases h1 rfl with rfl | rfl | rfl | rfl | rfl | rfl <;> simp
/-- how chains of sums are read by it -/
def HSa (T : TP) (om : Nat) (test : Bool) (n : Nat) : Prop := ∀ (lev op q k : Nat) (S : PLt) (cf : CFt) (nc : Nat), (lev = 2 ∨ lev = 3) → op ≤ 8 → 4 * (8 - op) + (4 - lev) ≤ n → q ≤ T.2 → low (if lev = 2 then 5 else 6) S → SimA T om test (if lev = 2 then 5 else 6) (q, 1, S, cf, nc, k, op) S cf nc op (dD lev op) (pCh T om n lev op q k) (fun q' => jnt T 3 q' = 0 ∧ (lev = 2 → jnt T 2 q' = 0))
theorem s_part (n op q k : Nat) (S : PLt) (cf : CFt) (nc : Nat) (hom : om ≤ 1) (HS : HSa T om test n) (hop : op ≤ 8) (hn : op < 8 → 4 * (8 - (op + 1)) + 2 ≤ n) (hq : q ≤ T.2) : match pPa T om (pCh T om n) op q k with
    | .error f => Rx T om test (q, 1, S, cf, nc, k, op) (.error f)
    | .ok (v, q', k') => ∃ cf' nc', Rx T om test (q, 1, S, cf, nc, k, op) (.ok (q', 3, S, cf', nc', k', op)) ∧ (∀ i, i < nc → cf' i = cf i) ∧ Seg (lM om cf') nc nc' (1 + 2 * (8 - op)) v := by
  unfold pPa
  by_cases g : bG T q 91 = true
  · rw [if_pos g]
    unfold pBr
    by_cases c8 : 8 ≤ op
    · rw [if_pos c8]
      refine Rx.step ?_
      rw [mSt1]
      unfold sPart
      rw [if_pos g, if_neg (by omega)]
    · rw [if_neg c8]
      have st : Rx T om test (q, 1, S, cf, nc, k, op) (.ok (tBe T q, 1, (32, 0) :: S, cf, nc, k, op + 1)) := Rx.step (by
        rw [mSt1]
        unfold sPart
        rw [if_pos g, if_pos (by omega)])
      have H := HS 2 (op + 1) (tBe T q) k ((32, 0) :: S) cf nc (Or.inl rfl) (by omega) (hn (by omega)) (q_adv hq (bG_ty g)).2 (low_c (by decide))
      unfold SimA at H
      cases hp : pCh T om n 2 (op + 1) (tBe T q) k with
      | error f => rw [hp] at H; exact st.trans H
      | ok w =>
        obtain ⟨v, q2, k2⟩ := w
        rw [hp] at H
        simp only at H ⊢
        obtain ⟨X, cf2, nc2, R2, hX, ⟨cf3, nc3, e3, a3, s3⟩, j3, j2⟩ := H
        simp only [if_true] at e3
        have ar := arS_of.2.2 (j2 trivial) j3
        have ii : inn (X ++ (32, 0) :: S) = 32 := by rw [(inn_ar hX _).1]; rfl
        by_cases g2 : bG T q2 93 = true
        · rw [if_pos g2]
          refine ⟨cf3, nc3, (st.trans R2).trans (Rx.step ?_), a3, s3.mono (by rw [dD_2]; omega)⟩
          rw [mSt3]
          unfold sSum
          rw [if_neg (by rw [ar]; exact fun z => z rfl), if_pos ii, if_pos g2, e3]
          rfl
        · rw [if_neg g2]
          refine (st.trans R2).trans (Rx.step ?_)
          rw [mSt3]
          unfold sSum
          rw [if_neg (by rw [ar]; exact fun z => z rfl), if_pos ii, if_neg g2]
  rw [if_neg g]
  by_cases cn : bN T q 0 1000 = true
  · rw [if_pos cn]
    by_cases ck : 50 ≤ k
    · rw [if_pos ck]
      refine Rx.step ?_
      rw [mSt1]
      unfold sPart
      rw [if_neg g, if_pos cn, if_pos ck]
    · rw [if_neg ck]
      obtain ⟨-, -, m3⟩ := nm_of (by omega) cn
      refine ⟨up1 cf nc (0, nmV T q), nc + 1, Rx.step ?_, fun i hi => up1_n _ _ (by omega), (seg_num ?_ m3).mono (by omega)⟩
      · rw [mSt1]
        unfold sPart
        rw [if_neg g, if_pos cn, if_neg ck]
      · unfold lM; rw [up1_s]; rfl
  · rw [if_neg cn]
    by_cases cw : wAt T om q = 99 ∨ 50 ≤ k
    · rw [if_pos cw]
      refine Rx.step ?_
      rw [mSt1]
      unfold sPart
      rw [if_neg g, if_neg cn, if_pos cw]
    · rw [if_neg cw]
      obtain ⟨cw1, cw2⟩ := not_or.mp cw
      obtain ⟨u1, u2, u3, u4⟩ := wAt_ok hom cw1
      by_cases c9 : wAt T om q = 9 ∨ wAt T om q = 16
      · rw [if_pos c9]
        by_cases c6 : bN T (tBe T q) 0 6 = true
        · rw [if_pos c6]
          refine ⟨up1 cf nc (mW om (wAt T om q), nmV T (tBe T q)), nc + 1, Rx.step ?_, fun i hi => up1_n _ _ (by omega), (seg_word ?_).mono (by omega)⟩
          · rw [mSt1]
            unfold sPart
            rw [if_neg g, if_neg cn, if_neg cw, if_pos c9, if_pos c6]
          · have o1 : om = 1 := by
              rcases (show om = 0 ∨ om = 1 by omega) with z | z
              · have := u3 z; omega
              · exact z
            unfold lM
            rw [up1_s]
            show dM om (mW om (wAt T om q)) (nmV T (tBe T q)) = _
            rw [dM_w hom u1 u3 u4, if_pos ⟨o1, c9⟩]
        · rw [if_neg c6]
          refine Rx.step ?_
          rw [mSt1]
          unfold sPart
          rw [if_neg g, if_neg cn, if_neg cw, if_pos c9, if_neg c6]
      · rw [if_neg c9]
        refine ⟨up1 cf nc (mW om (wAt T om q), 0), nc + 1, Rx.step ?_, fun i hi => up1_n _ _ (by omega), (seg_word ?_).mono (by omega)⟩
        · rw [mSt1]
          unfold sPart
          rw [if_neg g, if_neg cn, if_neg cw, if_neg c9]
        · unfold lM
          rw [up1_s]
          show dM om (mW om (wAt T om q)) 0 = _
          rw [dM_w hom u1 u3 u4, if_neg (fun z => c9 z.2)]
end Sim
