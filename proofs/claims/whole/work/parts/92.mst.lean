/-! ===== the reference's reading of expressions, as a machine of its own ===== -/
abbrev PLt : Type := List (Nat × Nat)
abbrev CFt : Type := Nat → Nat × Nat
abbrev MSx : Type := Nat × Nat × PLt × CFt × Nat × Nat × Nat
def bnd (o : Nat) : Nat := if 31 ≤ o then 0 else if o = 30 then 1 else if o = 29 then 2 else if o = 28 then 3 else if 25 ≤ o then 4 else if 22 ≤ o then 6 else 5
def stl (l : Nat) : PLt → CFt → Nat → PLt × CFt × Nat
  | [], cf, nc => ([], cf, nc)
  | (o, a) :: r, cf, nc => if l ≤ bnd o then (if o = 29 ∨ o = 30 then stl l r (up1 cf a ((cf a).1, nc)) nc else stl l r (up1 cf nc (o, 0)) (nc + 1)) else ((o, a) :: r, cf, nc)
def inn : PLt → Nat
  | [] => 0
  | (o, _) :: r => if 31 ≤ o then o else inn r
def isC : PLt → Bool
  | [] => false
  | (o, _) :: r => if 20 ≤ o ∧ o ≤ 24 then isC r else decide (25 ≤ o ∧ o ≤ 27)
/-- the reference's number of a word -/
def mW (om w : Nat) : Nat := if om = 0 then w + 1 else if w = 5 then 1 else if w = 7 then 2 else if w = 8 then 3 else if w = 4 then 4 else if w = 9 then 5 else 6
def arS (T : TP) (q : Nat) : Nat := if bG T q 43 = true then 20 else if bG T q 45 = true then 21 else if bG T q 42 = true then 22 else if bG T q 47 = true then 23 else if bG T q 37 = true then 24 else 0
section St
variable (T : TP) (om : Nat) (test : Bool)
def sPart (q : Nat) (pl : PLt) (cf : CFt) (nc k op : Nat) : Except Nat MSx :=
  if bG T q 91 = true then (if op < 8 then .ok (tBe T q, 1, (32, 0) :: pl, cf, nc, k, op + 1) else .error (tAt T q))
  else if bN T q 0 1000 = true then (if 50 ≤ k then .error (tAt T q) else .ok (tBe T q, 3, pl, up1 cf nc (0, nmV T q), nc + 1, k + 1, op))
  else if wAt T om q = 99 ∨ 50 ≤ k then .error (tAt T q)
  else if wAt T om q = 9 ∨ wAt T om q = 16 then (if bN T (tBe T q) 0 6 = true then .ok (tBe T (tBe T q), 3, pl, up1 cf nc (mW om (wAt T om q), nmV T (tBe T q)), nc + 1, k + 1, op) else .error (tAt T (tBe T q)))
  else .ok (tBe T q, 3, pl, up1 cf nc (mW om (wAt T om q), 0), nc + 1, k + 1, op)
def sPlain (q : Nat) (pl : PLt) (cf : CFt) (nc k op : Nat) : Except Nat MSx :=
  if bW T q 7 = true then .ok (tBe T q, 0, (28, 0) :: pl, cf, nc, k, op)
  else if bG T q 40 = true then (if op < 8 then .ok (tBe T q, 0, (31, 0) :: pl, cf, nc, k, op + 1) else .error (tAt T q))
  else sPart T om q pl cf nc k op
def sSum (q : Nat) (pl : PLt) (cf : CFt) (nc k op : Nat) : Except Nat MSx :=
  if arS T q ≠ 0 then .ok (tBe T q, 1, (arS T q, 0) :: (stl (bnd (arS T q)) pl cf nc).1, (stl (bnd (arS T q)) pl cf nc).2.1, (stl (bnd (arS T q)) pl cf nc).2.2, k, op)
  else if inn pl = 32 then (if bG T q 93 = true then .ok (tBe T q, 3, (stl 5 pl cf nc).1.tail, (stl 5 pl cf nc).2.1, (stl 5 pl cf nc).2.2, k, op - 1) else .error (tAt T q))
  else if inn pl = 0 ∧ test = false then .ok (q, 4, pl, cf, nc, k, op)
  else if isC pl = true then .ok (q, 2, pl, cf, nc, k, op)
  else if cmpAt T q = 0 then .error (tAt T q)
  else .ok (tBe T q, 1, (cmpAt T q + 14, 0) :: (stl 5 pl cf nc).1, (stl 5 pl cf nc).2.1, (stl 5 pl cf nc).2.2, k, op)
/-- and (29), or (30), neither (0) -/
def cjO (q : Nat) : Nat := if bW T q 19 = true then 29 else if bW T q 18 = true then 30 else 0
def sTest (q : Nat) (pl : PLt) (cf : CFt) (nc k op : Nat) : Except Nat MSx :=
  if cjO T q ≠ 0 then .ok (tBe T q, 0, (cjO T q, (stl (bnd (cjO T q)) pl cf nc).2.2) :: (stl (bnd (cjO T q)) pl cf nc).1, up1 (stl (bnd (cjO T q)) pl cf nc).2.1 (stl (bnd (cjO T q)) pl cf nc).2.2 (cjO T q, 0), (stl (bnd (cjO T q)) pl cf nc).2.2 + 1, k, op)
  else if inn pl = 0 then .ok (q, 4, pl, cf, nc, k, op)
  else if bG T q 41 = true then .ok (tBe T q, 2, (stl 1 pl cf nc).1.tail, (stl 1 pl cf nc).2.1, (stl 1 pl cf nc).2.2, k, op - 1)
  else .error (tAt T q)
def mStp (st : MSx) : Except Nat MSx := if st.2.1 = 0 then sPlain T om st.1 st.2.2.1 st.2.2.2.1 st.2.2.2.2.1 st.2.2.2.2.2.1 st.2.2.2.2.2.2 else if st.2.1 = 1 then sPart T om st.1 st.2.2.1 st.2.2.2.1 st.2.2.2.2.1 st.2.2.2.2.2.1 st.2.2.2.2.2.2 else if st.2.1 = 3 then sSum T test st.1 st.2.2.1 st.2.2.2.1 st.2.2.2.2.1 st.2.2.2.2.2.1 st.2.2.2.2.2.2 else if st.2.1 = 2 then sTest T st.1 st.2.2.1 st.2.2.2.1 st.2.2.2.2.1 st.2.2.2.2.2.1 st.2.2.2.2.2.2 else .ok st
def mIt : Nat → MSx → Except Nat MSx
  | 0, st => .ok st
  | n + 1, st => match mStp T om test st with
    | .error f => .error f
    | .ok st' => mIt n st'
end St
/-- it comes to r -/
def Rx (T : TP) (om : Nat) (test : Bool) (st : MSx) (r : Except Nat MSx) : Prop := ∃ n, mIt T om test n st = r
theorem Rx.refl {T : TP} {om : Nat} {test : Bool} (st : MSx) : Rx T om test st (.ok st) := ⟨0, rfl⟩
theorem mIt_add {T : TP} {om : Nat} {test : Bool} {r : Except Nat MSx} {st' : MSx} {m : Nat} (h2 : mIt T om test m st' = r) : ∀ (n : Nat) (st : MSx), mIt T om test n st = .ok st' → mIt T om test (n + m) st = r
  | 0, st, h => by
    have : st = st' := by cases h; rfl
    rw [Nat.zero_add, this]; exact h2
  | n + 1, st, h => by
    rw [show n + 1 + m = (n + m) + 1 by omega]
    unfold mIt at h ⊢
    cases hs : mStp T om test st with
    | error f => rw [hs] at h; cases h
    | ok s2 => rw [hs] at h; exact mIt_add h2 n s2 h
theorem Rx.trans {T : TP} {om : Nat} {test : Bool} {r : Except Nat MSx} {st st' : MSx} (a : Rx T om test st (.ok st')) (b : Rx T om test st' r) : Rx T om test st r := by
  obtain ⟨n, hn⟩ := a
  obtain ⟨m, hm⟩ := b
  exact ⟨n + m, mIt_add hm n st hn⟩
theorem Rx.step {T : TP} {om : Nat} {test : Bool} {r : Except Nat MSx} {st : MSx} (h : mStp T om test st = r) : Rx T om test st r := ⟨1, by
  unfold mIt
  rw [h]
  cases r <;> rfl⟩
/-! ===== settling ===== -/
theorem stl_stop {l : Nat} {pl : PLt} {cf : CFt} {nc : Nat} (h : ∀ o a r, pl = (o, a) :: r → bnd o < l) : stl l pl cf nc = (pl, cf, nc) := by
  cases pl with
  | nil => rfl
  | cons x r =>
    obtain ⟨o, a⟩ := x
    show (if l ≤ bnd o then _ else _) = _
    rw [if_neg (by have := h o a r rfl; omega)]
theorem stl_stl {l l' : Nat} (hl : l ≤ l') : ∀ (pl : PLt) (cf : CFt) (nc : Nat), stl l pl cf nc = stl l (stl l' pl cf nc).1 (stl l' pl cf nc).2.1 (stl l' pl cf nc).2.2
  | [], _, _ => rfl
  | (o, a) :: r, cf, nc => by
    by_cases c : l' ≤ bnd o
    · by_cases c2 : o = 29 ∨ o = 30
      · rw [show stl l' ((o, a) :: r) cf nc = stl l' r (up1 cf a ((cf a).1, nc)) nc by show (if l' ≤ bnd o then _ else _) = _; rw [if_pos c, if_pos c2], show stl l ((o, a) :: r) cf nc = stl l r (up1 cf a ((cf a).1, nc)) nc by show (if l ≤ bnd o then _ else _) = _; rw [if_pos (by omega), if_pos c2]]
        exact stl_stl hl r _ _
      · rw [show stl l' ((o, a) :: r) cf nc = stl l' r (up1 cf nc (o, 0)) (nc + 1) by show (if l' ≤ bnd o then _ else _) = _; rw [if_pos c, if_neg c2], show stl l ((o, a) :: r) cf nc = stl l r (up1 cf nc (o, 0)) (nc + 1) by show (if l ≤ bnd o then _ else _) = _; rw [if_pos (by omega), if_neg c2]]
        exact stl_stl hl r _ _
    · rw [show stl l' ((o, a) :: r) cf nc = ((o, a) :: r, cf, nc) by show (if l' ≤ bnd o then _ else _) = _; rw [if_neg c]]
/-- the top of a pile binds less than l -/
def low (l : Nat) (pl : PLt) : Prop := ∀ o a r, pl = (o, a) :: r → bnd o < l
theorem low.mono {l l' : Nat} {pl : PLt} (h : low l pl) (hl : l ≤ l') : low l' pl := fun o a r e => Nat.lt_of_lt_of_le (h o a r e) hl
theorem low_c {l o a : Nat} {r : PLt} (h : bnd o < l) : low l ((o, a) :: r) := fun o' a' r' e => by cases e; exact h
theorem inn_ar {X : PLt} (hX : ∀ x, x ∈ X → 20 ≤ x.1 ∧ x.1 ≤ 24) (S : PLt) : inn (X ++ S) = inn S ∧ isC (X ++ S) = isC S := by
  induction X with
  | nil => exact ⟨rfl, rfl⟩
  | cons x r ih =>
    obtain ⟨o, a⟩ := x
    have h1 := hX (o, a) (List.mem_cons_self ..)
    have h2 := ih (fun x hx => hX x (List.mem_cons_of_mem _ hx))
    have h1' : 20 ≤ o ∧ o ≤ 24 := h1
    constructor
    · show (if 31 ≤ o then o else inn (r ++ S)) = _
      rw [if_neg (by omega)]; exact h2.1
    · show (if 20 ≤ o ∧ o ≤ 24 then isC (r ++ S) else _) = _
      rw [if_pos h1']; exact h2.2
def lM (om : Nat) (cf : CFt) : INS := fun x => dM om (cf x).1 (cf x).2
/-- settled to S, the code tells v -/
def Fin' (om l : Nat) (pl : PLt) (cf : CFt) (nc : Nat) (S : PLt) (cf0 : CFt) (nc0 D : Nat) (v : VAL) : Prop := ∃ cf' nc', stl l pl cf nc = (S, cf', nc') ∧ (∀ i, i < nc0 → cf' i = cf0 i) ∧ Seg (lM om cf') nc0 nc' D v
theorem arS_of {T : TP} {q : Nat} : (jnt T 2 q ≠ 0 → arS T q = jnt T 2 q + 14) ∧ (jnt T 3 q ≠ 0 → arS T q = jnt T 3 q + 14) ∧ (jnt T 2 q = 0 → jnt T 3 q = 0 → arS T q = 0) := by
  have ex : ∀ x y, x ≠ y → bG T q x = true → bG T q y = true → False := fun x y hxy h1 h2 => hxy ((bG_t.mp h1).2.symm.trans (bG_t.mp h2).2)
  unfold arS jnt
  simp only [Nat.reduceEqDiff, if_false, if_true]
  cases h43 : bG T q 43 <;> cases h45 : bG T q 45 <;> cases h42 : bG T q 42 <;> cases h47 : bG T q 47 <;> cases h37 : bG T q 37 <;> simp
  all_goals first
    | exact (ex 43 42 (by omega) h43 h42).elim
    | exact (ex 43 47 (by omega) h43 h47).elim
    | exact (ex 43 37 (by omega) h43 h37).elim
    | exact (ex 45 42 (by omega) h45 h42).elim
    | exact (ex 45 47 (by omega) h45 h47).elim
    | exact (ex 45 37 (by omega) h45 h37).elim
