/-! ===== orders: what they come to ===== -/
abbrev RGy : Type := Nat × (Nat → RW) × (Nat → Nat)
/-- one more that can be taken back -/
def rgU (g : RGy) (p : RW) (kd : Nat) : RGy := (rmN g.1, fun j => if g.1 = 16 then (if j = 15 then p else g.2.1 (j + 1)) else (if j = g.1 then p else g.2.1 j), fun j => if g.1 = 16 then (if j = 15 then kd else g.2.2 (j + 1)) else (if j = g.1 then kd else g.2.2 j))
abbrev OS : Type := RW × Nat × Int × RGy
def eO (p : RW) (dn : Nat) (lt : Int) : EV := fun n => if n = 4 then (p 6).toInt else if n = 5 then (p 5).toInt else if n = 7 then (dn : Int) else if n = 8 then lt else if n < 9 then 0 else if n < 16 then (gR p (n - 9) 0).toInt else if n < 23 then (gR p (n - 16) 3).toInt else 0
theorem eO_ok {p : RW} {dn : Nat} {lt : Int} (v : IV p) (hd : dn ≤ 10000) (hl : -1 ≤ lt ∧ lt ≤ 10000) : EOK (eO p dn lt) := fun n => by
  obtain ⟨w, tm, w1, t1, w2, t2, -⟩ := iv_nums v
  unfold eO
  split
  · rw [w2, nI_toInt (by omega)]; omega
  split
  · rw [t2, nI_toInt (by omega)]; omega
  split
  · omega
  split
  · exact hl
  split
  · omega
  split
  · obtain ⟨⟨x, x1, x2⟩, -⟩ := v.1.1.2.2 (n - 9) (by omega)
    rw [x2, nI_toInt (by omega)]; omega
  split
  · rcases (v.1.1.2.2 (n - 16) (by omega)).2.2.1 with e | e <;> rw [e, nI_toInt (by omega)] <;> omega
  · omega
def oSv (c : CLA) (e : EV) (j : Nat) : Int32 := if j < nSm 1 c.1 then vI (c.2.2.2 j e) else nI 0
def okSy (c : CLA) (e : EV) : Bool := (decide (nSm 1 c.1 ≤ 0) || (c.2.2.2 0 e).isSome) && ((decide (nSm 1 c.1 ≤ 1) || (c.2.2.2 1 e).isSome) && (decide (nSm 1 c.1 ≤ 2) || (c.2.2.2 2 e).isSome))
def okJ (c : CLA) (e : EV) (j : Nat) : Bool := decide (nSm 1 c.1 ≤ j) || (c.2.2.2 j e).isSome
theorem okSy_e (c : CLA) (e : EV) : okSy c e = (okJ c e 0 && (okJ c e 1 && okJ c e 2)) := rfl
def oStep (Lo : Option LWS) (c : CLA) (s : OS) : Option OS := if holB c.2.2.1 (eO s.1 s.2.1 s.2.2.1) = true then (if okSy c (eO s.1 s.2.1 s.2.2.1) = true then (if (aAct Lo s.1 c.1 (oSv c (eO s.1 s.2.1 s.2.2.1) 0) (oSv c (eO s.1 s.2.1 s.2.2.1) 1) (oSv c (eO s.1 s.2.1 s.2.2.1) 2)).1 < nI 0 then none else some ((aAct Lo s.1 c.1 (oSv c (eO s.1 s.2.1 s.2.2.1) 0) (oSv c (eO s.1 s.2.1 s.2.2.1) 1) (oSv c (eO s.1 s.2.1 s.2.2.1) 2)).2, s.2.1 + 1, (if c.1 = 1 then (aAct Lo s.1 c.1 (oSv c (eO s.1 s.2.1 s.2.2.1) 0) (oSv c (eO s.1 s.2.1 s.2.2.1) 1) (oSv c (eO s.1 s.2.1 s.2.2.1) 2)).1.toInt else s.2.2.1), rgU s.2.2.2 s.1 c.1)) else none) else some s
def oTm (Lo : Option LWS) (c : CLA) : Nat → OS → Option OS
  | 0, s => some s
  | m + 1, s => match oStep Lo c s with
    | none => none
    | some s' => oTm Lo c m s'
def oR (Lo : Option LWS) (cs : List CLA) : Nat → Nat → OS → Except Nat OS
  | 0, _, s => .ok s
  | m + 1, i, s => match oTm Lo (cs.getD i c0) (cs.getD i c0).2.1 s with
    | none => .error i
    | some s' => oR Lo cs m (i + 1) s'
/-- what holds of a state of a run -/
def OI (p : RW) (N : Nat) (s : OS) : Prop := IV s.1 ∧ LO p s.1 ∧ s.2.1 ≤ N ∧ (-1 ≤ s.2.2.1 ∧ s.2.2.1 ≤ 10000) ∧ s.2.2.2.1 ≤ 16
theorem OI.mono {p : RW} {N M : Nat} {s : OS} (h : OI p N s) (hm : N ≤ M) : OI p M s := ⟨h.1, h.2.1, by have := h.2.2.1; omega, h.2.2.2⟩
theorem oStep_ok {Lo : Option LWS} {c : CLA} {p : RW} {N : Nat} {s s' : OS} (hc : c.1 < 3) (o : OI p N s) (h : oStep Lo c s = some s') : OI p (N + 1) s' := by
  obtain ⟨o1, o2, o3, o4, o5⟩ := o
  unfold oStep at h
  split at h
  · split at h
    · split at h
      · cases h
      · next cv =>
        injection h with h
        rw [← h]
        obtain ⟨x, y⟩ := aAct_ok (Lo := Lo) (one := oSv c (eO s.1 s.2.1 s.2.2.1) 0) (other := oSv c (eO s.1 s.2.1 s.2.2.1) 1) (costs := oSv c (eO s.1 s.2.1 s.2.2.1) 2) hc o1
        refine ⟨x, o2.trans y, by show s.2.1 + 1 ≤ N + 1; omega, ?_, rmN_le o5⟩
        dsimp only
        split
        · rcases act_val (Lo := Lo) (one := oSv c (eO s.1 s.2.1 s.2.2.1) 0) (other := oSv c (eO s.1 s.2.1 s.2.2.1) 1) (costs := oSv c (eO s.1 s.2.1 s.2.2.1) 2) hc o1 with ⟨k, hk, e, -⟩ | ⟨m, hm, e, -⟩
          · rw [e] at cv
            exact absurd (show rfV k < nI 0 by rcases hk with rfl | rfl | rfl <;> decide) cv
          · rw [e, nI_toInt (by omega)]; omega
        · exact o4
    · cases h
  · injection h with h
    rw [← h]
    exact ⟨o1, o2, by omega, o4, o5⟩
/-! the program's judge looks at a run -/
def FaO (f : Nat → Int32) (e : EV) : Prop := ∀ k, oW 1 k → k < 23 ∧ f k = iI (e k)
theorem iI_toInt (x : Int32) : iI x.toInt = x := Int32.ofInt_toInt x
theorem x_l_lr (d N : Nat) {h : MH} {p : RW} (hJ : JS h 218 219 220) (hS : NeS h N) (V : NeV h N p) (sj : sepJ N 219 220) (dn lt : Int32) (Q : RT) (lm : Nat × Nat) : ∀ (m k : Nat) (f : Nat → Int32), k + m = 7 → (∀ f', (∀ r, k ≤ r → r < 7 → f' (9 + r) = gR p r 0 ∧ f' (16 + r) = gR p r 3) → (∀ x, x < 9 + k ∨ (16 ≤ x ∧ x < 16 + k) → f' x = f x) → Q none (sIA h 219 f')) → WP cd_Ju_looksAtRun (callD (d + 1)) Q lm 39 [] [some (.ref 218), some (.ref N), some (.int dn), some (.int lt), some (.int (nI k))] (sIA h 219 f)
  | 0, k, f, e, K => by
    rw [U_Ju_looksAtRun_39 (cm _)]
    simp (disch := omega) only [U_Ju_looksAtRun (cm _), SA, SB, SC1, SC2, SG, SK, SV, leI, show 7 ≤ k by omega, true_or, or_true, true_implies, not_true_eq_false, not_false_eq_true, false_implies, true_and, and_true]
    exact K f (fun r h1 h2 => by omega) (fun _ _ => rfl)
  | m + 1, k, f, e, K => by
    obtain ⟨sh, -⟩ := hS.all
    obtain ⟨⟨j1, j2, j3, j4, -⟩, -⟩ := id hJ
    obtain ⟨-, -, -, va⟩ := V.2.2.2.2.2.2.2.2.2.2.1
    have vk := va k (by omega)
    have d4 := V.2.2.2.1 k (by omega)
    have EB := fun x h Q => e_bit d x k h Q
    have n1 : ¬ N + 4 = 219 := by unfold sepJ at sj; omega
    have ih := x_l_lr d N hJ hS V sj dn lt Q lm m (k + 1) (up1 (up1 f (9 + k) (gR p k 0)) (16 + k) (gR p k 3)) (by omega) (fun f' h1 h2 => K f' (fun r r1 r2 => by
      by_cases c : r = k
      · subst c
        refine ⟨?_, ?_⟩
        · rw [h2 _ (by omega), up1_n _ _ (by omega), up1_s]
        · rw [h2 _ (by omega), up1_s]
      · exact h1 r (by omega) r2) (fun x hx => by rw [h2 x (by omega), up1_n _ _ (by omega), up1_n _ _ (by omega)]))
    rw [U_Ju_looksAtRun_39 (cm _)]
    simp (disch := omega) only [U_Ju_looksAtRun (cm _), SA, SB, SC1, SC2, SG, SK, SV, sh, j1, j2, j3, j4, d4, EB, vk, up1_s, up1_n, leI, show ¬ 7 ≤ k by omega, nI_add, nI_clamp, in_eq, Nat.reduceLeDiff, true_or, or_true, true_implies, not_true_eq_false, not_false_eq_true, false_implies, true_and, and_true]
    exact ih
theorem x_looksR (d N dn : Nat) (lt : Int) {h : MH} {p : RW} (hJ : JS h 218 219 220) (hS : NeS h N) (V : NeV h N p) (sj : sepJ N 219 220) (v : IV p) (Q : RT) (K : ∀ f', FaO f' (eO p dn lt) → Q none (sIA h 219 f')) : callD (d + 2) 8 [.ref 218, .ref N, .int (nI dn), .int (iI lt)] h Q := by
  have k2 := hS.1
  obtain ⟨⟨j1, j2, j3, j4, -⟩, -⟩ := id hJ
  obtain ⟨w, tm, w1, t1, w2, t2, -⟩ := iv_nums v
  have e9 : hfi h N 9 = p 6 := V.2.2.2.2.2.2.2.2.2.1
  have e12 : hfi h N 12 = p 5 := V.2.2.2.2.2.2.2.2.2.2.2.2
  have L := fun lm K => x_l_lr d N hJ hS V sj (nI dn) (iI lt) Q lm 7 0 (up1 (up1 (up1 (up1 (hia h 219) 4 (p 6)) 5 (p 5)) 7 (nI dn)) 8 (iI lt)) (by omega) K
  rw [E_Ju_looksAtRun]
  simp (disch := omega) only [U_Ju_looksAtRun (cm _), SA, SB, SC1, SC2, SG, SK, SV, j1, j2, j3, j4, k2, e9, e12, up1_s, nI_clamp, in_eq, Nat.reduceLeDiff, true_or, or_true, true_implies, not_true_eq_false, not_false_eq_true, false_implies, true_and, and_true]
  refine L _ (fun f' h1 h2 => K f' (fun k hk => ⟨hk.1, ?_⟩))
  unfold eO
  rcases hk.2.2 rfl with z | z | z
  · subst z
    rw [if_pos rfl, iI_toInt, h2 4 (by omega), up1_n _ _ (by omega), up1_n _ _ (by omega), up1_n _ _ (by omega), up1_s]
  · subst z
    rw [if_neg (by omega), if_pos rfl, iI_toInt, h2 5 (by omega), up1_n _ _ (by omega), up1_n _ _ (by omega), up1_s]
  · have k23 := hk.1
    by_cases c7 : k = 7
    · subst c7
      rw [if_neg (by omega), if_neg (by omega), if_pos rfl, h2 7 (by omega), up1_n _ _ (by omega), up1_s, iI_n]
    by_cases c8 : k = 8
    · subst c8
      rw [if_neg (by omega), if_neg (by omega), if_neg (by omega), if_pos rfl, h2 8 (by omega), up1_s]
    rw [if_neg (by omega), if_neg (by omega), if_neg c7, if_neg c8, if_neg (by omega)]
    by_cases c16 : k < 16
    · obtain ⟨y1, y2⟩ := h1 (k - 9) (by omega) (by omega)
      rw [if_pos c16, iI_toInt, ← y1, show 9 + (k - 9) = k by omega]
    · obtain ⟨y1, y2⟩ := h1 (k - 16) (by omega) (by omega)
      rw [if_neg c16, if_pos k23, iI_toInt, ← y2, show 16 + (k - 16) = k by omega]
