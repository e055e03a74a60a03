/-! ===== the language of expressions, read once and for all ===== -/
abbrev PRs : Type := Except Nat (VAL × Nat × Nat)
def jnt (T : TP) (lev q : Nat) : Nat := if lev = 0 then (if bW T q 18 = true then 4 else 0) else if lev = 1 then (if bW T q 19 = true then 5 else 0) else if lev = 2 then (if bG T q 43 = true then 6 else if bG T q 45 = true then 7 else 0) else (if bG T q 42 = true then 8 else if bG T q 47 = true then 9 else if bG T q 37 = true then 10 else 0)
/-- which word (99: none) -/
def wAt (T : TP) (om q : Nat) : Nat := if bW T q 8 = true then 5 else if bW T q 9 = true then 4 else if om = 1 then (if bW T q 10 = true then 7 else if bW T q 11 = true then 8 else if bW T q 12 = true then 9 else if bW T q 13 = true then 16 else 99) else (if bW T q 14 = true then 0 else if bW T q 15 = true then 1 else if bW T q 5 = true then 2 else if bW T q 16 = true then 3 else if bW T q 17 = true then 6 else 99)
def cmpAt (T : TP) (q : Nat) : Nat := if bG T q 60 = true then 11 else if bG T q 62 = true then 12 else if bG T q 61 = true then 13 else 0
def cmb (j : Nat) (a b : VAL) : VAL := if j ≤ 5 then vJn j a b else vBin j a b
def nts (T : TP) : Nat → Nat → Nat × Nat
  | 0, q => (0, q)
  | m + 1, q => if bW T q 7 = true then ((nts T m (tBe T q)).1 + 1, (nts T m (tBe T q)).2) else (0, q)
section Sp
variable (T : TP) (om : Nat) (P : Nat → Nat → Nat → Nat → PRs)
def pBr (lev cls op q k : Nat) : PRs := if 8 ≤ op then .error (tAt T q) else match P lev (op + 1) (tBe T q) k with
  | .error f => .error f
  | .ok (v, q2, k2) => if bG T q2 cls = true then .ok (v, tBe T q2, k2) else .error (tAt T q2)
def pCm (op q k : Nat) : PRs := match P 2 op q k with
  | .error f => .error f
  | .ok (v1, q1, k1) => if cmpAt T q1 = 0 then .error (tAt T q1) else match P 2 op (tBe T q1) k1 with
    | .error f => .error f
    | .ok (v2, q2, k2) => .ok (vBin (cmpAt T q1) v1 v2, q2, k2)
def pPl (op q k : Nat) : PRs := match (if bG T (nts T 400 q).2 40 = true then pBr T P 0 41 op (nts T 400 q).2 k else pCm T P op (nts T 400 q).2 k) with
  | .error f => .error f
  | .ok (v, q2, k2) => .ok (if (nts T 400 q).1 % 2 = 1 then vNot v else v, q2, k2)
def pPa (op q k : Nat) : PRs := if bG T q 91 = true then pBr T P 2 93 op q k
  else if bN T q 0 1000 = true then (if 50 ≤ k then .error (tAt T q) else .ok (vNum (nmV T q), tBe T q, k + 1))
  else if wAt T om q = 99 ∨ 50 ≤ k then .error (tAt T q)
  else if wAt T om q = 9 ∨ wAt T om q = 16 then (if bN T (tBe T q) 0 6 = true then .ok (vWord (wAt T om q + nmV T (tBe T q)), tBe T (tBe T q), k + 1) else .error (tAt T (tBe T q)))
  else .ok (vWord (wAt T om q), tBe T q, k + 1)
def pRd (lev op q k : Nat) : PRs := if lev = 0 then P 1 op q k else if lev = 1 then pPl T P op q k else if lev = 2 then P 3 op q k else pPa T om P op q k
def pLoop (lev op : Nat) : Nat → VAL → Nat → Nat → PRs
  | 0, _, q, _ => .error (tAt T q)
  | m + 1, v, q, k => if jnt T lev q = 0 then .ok (v, q, k) else match pRd T om P lev op (tBe T q) k with
    | .error f => .error f
    | .ok (v2, q2, k2) => pLoop lev op m (cmb (jnt T lev q) v v2) q2 k2
end Sp
def pCh (T : TP) (om : Nat) : Nat → Nat → Nat → Nat → Nat → PRs
  | 0 => fun _ _ _ _ => .error 0
  | n + 1 => fun lev op q k => match pRd T om (pCh T om n) lev op q k with
    | .error f => .error f
    | .ok (v, q1, k1) => pLoop T om (pCh T om n) lev op 401 v q1 k1
/-! ===== the program's code ===== -/
def lX (cf : Nat → Int32) : INS := fun i => (nn (cf i) / 4096, nn (cf i) % 4096)
def oW (om : Nat) (k : Nat) : Prop := k < 23 ∧ (om = 0 → k < 7) ∧ (om = 1 → k = 4 ∨ k = 5 ∨ 7 ≤ k)
def XSg (cf : Nat → Int32) (om i j D : Nat) (v : VAL) : Prop := Seg (lX cf) i j D v ∧ XC cf (lX cf) i j (oW om)
theorem XSg.of {cf cf' : Nat → Int32} {om i j D : Nat} {v : VAL} (s : XSg cf om i j D v) (h : ∀ k, i ≤ k → k < j → cf' k = cf k) : XSg cf' om i j D v := by
  have e : ∀ k, i ≤ k → k < j → lX cf' k = lX cf k := fun k h1 h2 => by unfold lX; rw [h k h1 h2]
  refine ⟨s.1.of e, fun k h1 h2 => ?_⟩
  obtain ⟨a, b, c⟩ := s.2 k h1 h2
  rw [h k h1 h2, e k h1 h2]
  exact ⟨a, b, c⟩
theorem XSg.mono {cf : Nat → Int32} {om i j D D' : Nat} {v : VAL} (s : XSg cf om i j D v) (h : D ≤ D') : XSg cf om i j D' v := ⟨s.1.mono h, s.2⟩
theorem lX_e {cf : Nat → Int32} {i o a : Nat} (ho : o ≤ 13) (ha : a < 4096) (h : cf i = nI (o * 4096 + a)) : lX cf i = (o, a) := by
  unfold lX
  rw [h, nn_n (by omega), show (o * 4096 + a) / 4096 = o by omega, show (o * 4096 + a) % 4096 = a by omega]
theorem XC_1 {cf : Nat → Int32} {i o a om : Nat} (ho : o ≤ 13) (ha : a < 4096) (h : cf i = nI (o * 4096 + a)) (hw : o = 2 → oW om a) : ∀ k, i ≤ k → k < i + 1 → cf k = nI ((lX cf k).1 * 4096 + (lX cf k).2) ∧ (lX cf k).2 < 4096 ∧ ((lX cf k).1 = 2 → oW om (lX cf k).2) := fun k h1 h2 => by
  obtain rfl : k = i := by omega
  rw [lX_e ho ha h]
  exact ⟨h, ha, hw⟩
theorem XC_j {cf : Nat → Int32} {l : INS} {i j k : Nat} {W : Nat → Prop} (a : XC cf l i j W) (b : XC cf l j k W) : XC cf l i k W := fun x h1 h2 => by
  by_cases c : x < j
  · exact a x h1 c
  · exact b x (by omega) h2
theorem xs_num {cf : Nat → Int32} {om i a : Nat} (h : cf i = nI (1 * 4096 + a)) (ha : a ≤ 1000) : XSg cf om i (i + 1) 0 (vNum a) := ⟨seg_num (lX_e (by omega) (by omega) h) ha, XC_1 (by omega) (by omega) h (fun z => by omega)⟩
theorem xs_word {cf : Nat → Int32} {om i a : Nat} (h : cf i = nI (2 * 4096 + a)) (hw : oW om a) : XSg cf om i (i + 1) 0 (vWord a) := ⟨seg_word (lX_e (by omega) (by have := hw.1; omega) h), XC_1 (by omega) (by have := hw.1; omega) h (fun _ => hw)⟩
theorem xs_bin {cf : Nat → Int32} {om i j k op D1 D2 D : Nat} {a b : VAL} (s1 : XSg cf om i j D1 a) (s2 : XSg cf om j k D2 b) (h : cf k = nI (op * 4096 + 0)) (h6 : 6 ≤ op) (h13 : op ≤ 13) (d1 : D1 ≤ D) (d2 : D2 + 1 ≤ D) (d3 : 2 ≤ D) : XSg cf om i (k + 1) D (vBin op a b) := ⟨seg_bin s1.1 s2.1 (lX_e h13 (by omega) h) h6 h13 d1 d2 d3, XC_j (XC_j s1.2 s2.2) (XC_1 h13 (by omega) h (fun z => by omega))⟩
theorem xs_not {cf : Nat → Int32} {om i j D1 D : Nat} {a : VAL} (s1 : XSg cf om i j D1 a) (ta : TestV a) (h : cf j = nI (3 * 4096 + 0)) (d1 : D1 ≤ D) (d3 : 1 ≤ D) : XSg cf om i (j + 1) D (vNot a) := ⟨seg_not s1.1 ta (lX_e (by omega) (by omega) h) d1 d3, XC_j s1.2 (XC_1 (by omega) (by omega) h (fun z => by omega))⟩
theorem xs_jn {cf : Nat → Int32} {om op i j k D1 D2 D : Nat} {a b : VAL} (hop : op = 4 ∨ op = 5) (s1 : XSg cf om i j D1 a) (h : cf j = nI (op * 4096 + k)) (hk : k < 4096) (s2 : XSg cf om (j + 1) k D2 b) (d1 : D1 ≤ D) (d2 : D2 ≤ D) (d3 : 1 ≤ D) : XSg cf om i k D (vJn op a b) := ⟨seg_jn hop s1.1 (lX_e (by omega) hk h) s2.1 d1 d2 d3, XC_j (XC_j s1.2 (XC_1 (by omega) hk h (fun z => by omega))) s2.2⟩
set_option maxRecDepth 100000 in
theorem or_c : ((List.range 14).all fun o => (List.range 1100).all fun x => decide ((o * 4096) ||| x = o * 4096 + x)) = true := by decide +kernel
theorem or_e {o x : Nat} (ho : o < 14) (hx : x < 1100) : nI (o * 4096) ||| nI x = nI (o * 4096 + x) := by
  rw [nI_or, of_decide_eq_true (List.all_eq_true.mp (List.all_eq_true.mp or_c o (List.mem_range.mpr ho)) x (List.mem_range.mpr hx))]
theorem sl_e : ∀ o, o < 14 → nI o <<< (nI 12 &&& 31) = nI (o * 4096) := by decide +kernel
/-- the reader's cells -/
def RS (h : MH) (T : TP) (om q k cl : Nat) : Prop := XSr h ∧ XTk h T q ∧ hfi h 213 3 = nI cl ∧ hfi h 213 4 = nI k ∧ hfi h 213 5 = nI om
def RF (h h' : MH) : Prop := (hsz h' = hsz h ∧ hcc h' = hcc h ∧ hcu h' = hcu h ∧ SHE h h' ∧ hfj h' = hfj h ∧ hja h' = hja h) ∧ (∀ a, a ≠ 213 → a ≠ 214 → hfi h' a = hfi h a) ∧ hfi h' 213 5 = hfi h 213 5 ∧ hfi h' 214 1 = hfi h 214 1 ∧ (∀ a, a ≠ 216 → hia h' a = hia h a)
theorem RF.refl (h : MH) : RF h h := ⟨⟨rfl, rfl, rfl, SHE.refl h, rfl, rfl⟩, fun _ _ _ => rfl, rfl, rfl, fun _ _ => rfl⟩
theorem RF.trans {a b c : MH} (x : RF a b) (y : RF b c) : RF a c := by
  obtain ⟨⟨x1, x2, x3, x4, x5, x6⟩, x7, x8, x9, x10⟩ := x
  obtain ⟨⟨y1, y2, y3, y4, y5, y6⟩, y7, y8, y9, y10⟩ := y
  exact ⟨⟨y1.trans x1, y2.trans x2, y3.trans x3, x4.trans y4, y5.trans x5, y6.trans x6⟩, fun p q r => (y7 p q r).trans (x7 p q r), y8.trans x8, y9.trans x9, fun p q => (y10 p q).trans (x10 p q)⟩
def emF (h : MH) (cl o a : Nat) : MH := sFI (sIA h 216 (up1 (hia h 216) cl (nI (o * 4096 + a)))) 213 (up1 (hfi h 213) 3 (nI (cl + 1)))
theorem r_emits (d T' om q k cl o a : Nat) {T : TP} (ho : o < 14) (ha : a < 1100) (hc : cl < 448) {h : MH} (r : RS h T om q k cl) (Q : RT) : callD (d + 1) 50 [.ref 213, .int (nI o), .int (nI a)] h Q = Q none (emF h cl o a) := by
  obtain ⟨s, -, h3, -, -⟩ := r
  unfold XSr at s
  rw [E_Re_emits]
  unfold emF
  simp (disch := omega) only [U_Re_emits (cm _), SA, SB, SG, SV, SM, s, h3, leI, show ¬ 448 ≤ cl by omega, sl_e, or_e, nI_add, nI_clamp, in_eq, Nat.reduceLeDiff, true_implies, not_true_eq_false, not_false_eq_true, false_implies, true_and, and_true]
