/-! ===== SOUNDNESS: what of the small heap the real one holds ===== -/
/-! ===== what of the small heap the real one holds ===== -/
def svl (f : Nat → Nat) (v : Value) : Value := match v with
  | .ref k => .ref (f k)
  | w => w
theorem svl_cat (f : Nat → Nat) (v : Value) : (svl f v).category = v.category := by cases v <;> rfl
def adr (ao : Nat → Nat) (bs k : Nat) : Nat := if k < 24 then ao k else bs + (k - 24)
theorem adr_hi {ao : Nat → Nat} {bs k : Nat} (h : 24 ≤ k) : adr ao bs k = bs + (k - 24) := if_neg (by omega)
def fvl (f : Nat → Nat) (h : MH) (k ci j : Nat) : Value := match fty ci j with
  | 0 => .int (hfi h k j)
  | 1 => .long (hfj h k j)
  | _ => rfv ((hfr h k j).map f)
def cel (f : Nat → Nat) (cA : Nat → ClassId) (h : MH) (k : Nat) : va_E :=
  if hkd h k ≤ 8 then .inr (hkd h k, (List.range (vwN (hkd h k))).map (fvl f h k (hkd h k)))
  else if hkd h k = 21 then .inl (cA 21, hln h k, .inr (.inl (hja h k)))
  else if hkd h k ≤ 22 then .inl (cA (hkd h k), hln h k, .inl (hia h k))
  else .inl (cA (hkd h k), hln h k, .inr (.inr (.inr (.inr fun j => (hra h k j).map f))))
def mostF : Nat → Int32 := fun j => if j = 0 then 999 else if j = 1 then 10 else 9
def REP (ao : Nat → Nat) (HL : Heap) (D : va_G) (cA : Nat → ClassId) (L : Nat) (xs : Nat → Int32) (h : MH) (H : Heap) : Prop :=
  24 ≤ hsz h ∧ H.size = HL.size + (hsz h - 24) ∧ (∀ q, q < HL.size → H[q]? = HL[q]?) ∧
  (∀ k, 24 ≤ k → k < hsz h → va_at D vwCl (adr ao HL.size k, cel (adr ao HL.size) cA h k) H ∧ (hkd h k ≤ 8 ∨ (20 ≤ hkd h k ∧ hkd h k ≤ 25))) ∧
  (∀ k, hsz h ≤ k → hkd h k = 99) ∧
  (hkd h 0 = 20 ∧ hln h 0 = L ∧ ∀ j, j < L → hia h 0 j = xs j) ∧ (hkd h 1 = 20 ∧ hln h 1 = 3 ∧ ∀ j, j < 3 → hia h 1 j = mostF j) ∧ ∀ k, 2 ≤ k → k < 24 → hkd h k = 30
def aTy (cA : Nat → ClassId) : List (ClassId × FieldType) := [(cA 20, .int), (cA 21, .long), (cA 22, .boolean), (cA 23, .object "DiffusingRoutes$Net"), (cA 24, .object "DiffusingRoutes$Program"), (cA 25, .object "DiffusingRoutes$World")]
def TW (U : State) : Prop := ∀ w ∈ lw_tbl, stw w = true → ∀ a, w.before a U = true
theorem stw_warm {s U : State} {w : Cond} {b : Array Value} (hW : s.WarmedH U.vm) (hs : stw w = true) (h1 : w.before b s = true) (a : Array Value) : w.before a U = true := by
  have h0 : w.before #[] s = true := by
    cases w <;> first
      | exact va_tabs rfl rfl h1
      | exact word_at (State.WarmedH.refl s) (good_of_word hs) h1
      | exact h1
  cases w <;> first
    | exact va_Nw.use rfl (va_Nw.warmF hW h0)
    | exact va_Nw.use rfl (va_Nw.warmM hW h0)
    | exact va_Nw.use rfl (va_Nw.warmC hW h0)
    | (rename_i t; cases t <;> first | exact va_AO.use (va_AO.moved hW.alike (va_AO.of h0)) | exact word_at hW (good_of_word hs) h0)
    | exact word_at hW (good_of_word hs) h0
theorem TW.warm {s U : State} (hW : s.WarmedH U.vm) (h : TW s) : TW U := fun w hw hs a => stw_warm hW hs (h w hw hs #[]) a
/-- what was there before the law began -/
def OF (ao : Nat → Nat) (HL : Heap) (L : Nat) (xs : Nat → Int32) (U : State) : Prop :=
  (va_X (ao 0) L xs U HL ∧ ao 0 < HL.size) ∧ va_T .int (ao 1) 3 (fun j => .int (mostF j)) (fun q => HL.size ≤ q) U HL ∧
  va_Z "DiffusingRoutes" "MOST_OF_TERM" "[I" (.ref (ao 1)) (fun q => HL.size ≤ q) U HL ∧
  vk_S 22 ((List.range 22).map fun i => (sbt i).length) ((List.range 22).map sbt) (fun i => ao (i + 2)) (fun i => ao (i + 100)) (fun q => HL.size ≤ q) U HL ∧
  (∀ q ∈ qT, vk_R (onm q.1) q.2.1 (qTx (q.2.2 - 2)) (ao q.2.2) U) ∧
  va_Z "java/lang/String" "COMPACT_STRINGS" "Z" (.int 1) (fun q => HL.size ≤ q) U HL ∧
  va_Zq "jdk/internal/util/Preconditions" "SIOOBE_FORMATTER" "Ljava/util/function/BiFunction;" (fun q => HL.size ≤ q) U HL
theorem OF.warm {ao : Nat → Nat} {HL : Heap} {L : Nat} {xs : Nat → Int32} {s U : State} (hW : s.WarmedH U.vm) (h : OF ao HL L xs s) : OF ao HL L xs U := by
  obtain ⟨⟨h1, h2⟩, h3, h5, h6, h7, h8, h9⟩ := h
  refine ⟨⟨h1.moved hW.alike, h2⟩, h3.moved hW.alike, h5.moved hW.alike, h6.moved hW.alike, fun q hq => (h7 q hq).warm hW, h8.moved hW.alike, ?_⟩
  rcases h9 with h9 | ⟨t, h9⟩
  · exact Or.inl (h9.moved hW.alike)
  · exact Or.inr ⟨t, h9.moved hW.alike⟩
def ST (ao : Nat → Nat) (HL : Heap) (D : va_G) (cA : Nat → ClassId) (L : Nat) (xs : Nat → Int32) (U : State) : Prop := va_K D vwCl (aTy cA) U ∧ TW U ∧ OF ao HL L xs U
theorem ST.warm {ao : Nat → Nat} {HL : Heap} {D : va_G} {cA : Nat → ClassId} {L : Nat} {xs : Nat → Int32} {s U : State} (hW : s.WarmedH U.vm) (h : ST ao HL D cA L xs s) : ST ao HL D cA L xs U := ⟨va_K.moved hW.alike h.1, h.2.1.warm hW, h.2.2.warm hW⟩
/-! ===== locals ===== -/
def LRL (f : Nat → Nat) (ls : LT) (nL : Nat) (lsR : Array Slot) : Prop := ls.length = nL ∧ lsR.size = nL ∧ lv_wf lsR ∧ ∀ i v, lget ls i = some v → lsR[i]? = some (.val (svl f v))
theorem lget_lt : ∀ {ls : LT} {i : Nat} {v : Value}, lget ls i = some v → i < ls.length
  | [], i, v, h => by cases h
  | x :: l, 0, v, h => Nat.zero_lt_succ _
  | x :: l, n + 1, v, h => Nat.succ_lt_succ (lget_lt (ls := l) h)
/-- what is known, as a list -/
def asc (f : Nat → Nat) (ls : LT) : List (Nat × Value) := (List.range ls.length).filterMap fun i => (lget ls i).map fun v => (i, svl f v)
theorem asc_mem {f : Nat → Nat} {ls : LT} {i : Nat} {v : Value} (h : lget ls i = some v) : (i, svl f v) ∈ asc f ls := by
  unfold asc
  rw [List.mem_filterMap]
  exact ⟨i, List.mem_range.mpr (lget_lt h), by rw [h]; rfl⟩
theorem LRL.has {f : Nat → Nat} {ls : LT} {nL : Nat} {lsR : Array Slot} (h : LRL f ls nL lsR) : lv_has lsR nL (asc f ls) := by
  refine ⟨h.2.1, h.2.2.1, fun q hq => ?_⟩
  unfold asc at hq
  obtain ⟨i, -, hi⟩ := List.mem_filterMap.mp hq
  obtain ⟨v, hv, e⟩ := Option.map_eq_some_iff.mp hi
  subst e
  exact h.2.2.2 i v hv
theorem lst1_len : ∀ (ls : LT) (i : Nat) (v : Value), (lst1 ls i v).length = ls.length
  | [], _, _ => by unfold lst1; rfl
  | [x], 0, v => by unfold lst1; rfl
  | [x], n + 1, v => by unfold lst1; rfl
  | x :: y :: l, 0, v => by unfold lst1; rfl
  | x :: y :: l, 1, v => by unfold lst1; rfl
  | x :: y :: l, n + 2, v => by
    show (x :: lst1 (y :: l) (n + 1) v).length = _
    rw [List.length_cons, lst1_len (y :: l) (n + 1) v]
    rfl
theorem lkil_some {x : Option Value} {w : Value} (h : lkil x = some w) : x = some w ∧ w.category ≠ 2 := by
  cases x with
  | none => cases h
  | some y => cases y <;> first | (cases h; done) | (cases h; exact ⟨rfl, by simp [Value.category]⟩)
theorem lst1_get : ∀ (ls : LT) (i : Nat) (v : Value) (j : Nat) (w : Value), i < ls.length → lget (lst1 ls i v) j = some w → (j = i ∧ w = v) ∨ (j ≠ i ∧ lget ls j = some w ∧ (j + 1 = i → w.category ≠ 2))
  | [], _, _, _, _, hi, h => by cases hi
  | [x], 0, v, 0, w, hi, h => by cases h; exact Or.inl ⟨rfl, rfl⟩
  | [x], 0, v, j + 1, w, hi, h => by cases h
  | [x], n + 1, v, j, w, hi, h => by simp at hi
  | x :: y :: l, 0, v, 0, w, hi, h => by cases h; exact Or.inl ⟨rfl, rfl⟩
  | x :: y :: l, 0, v, j + 1, w, hi, h => Or.inr ⟨by omega, h, fun e => by omega⟩
  | x :: y :: l, 1, v, 0, w, hi, h => by
      obtain ⟨h1, h2⟩ := lkil_some (show lkil x = some w from h)
      exact Or.inr ⟨by omega, h1, fun _ => h2⟩
  | x :: y :: l, 1, v, 1, w, hi, h => by cases h; exact Or.inl ⟨rfl, rfl⟩
  | x :: y :: l, 1, v, j + 2, w, hi, h => Or.inr ⟨by omega, h, fun e => by omega⟩
  | x :: y :: l, n + 2, v, 0, w, hi, h => Or.inr ⟨by omega, h, fun e => by omega⟩
  | x :: y :: l, n + 2, v, j + 1, w, hi, h => by
      rcases lst1_get (y :: l) (n + 1) v j w (by simp at hi ⊢; omega) h with ⟨h1, h2⟩ | ⟨h1, h2, h3⟩
      · exact Or.inl ⟨by omega, h2⟩
      · exact Or.inr ⟨by omega, h2, fun e => h3 (by omega)⟩
theorem lst2_len : ∀ (ls : LT) (i : Nat) (v : Int64), (lst2 ls i v).length = ls.length
  | [], _, _ => by unfold lst2; rfl
  | [x], 0, v => by unfold lst2; rfl
  | [x], n + 1, v => by unfold lst2; rfl
  | x :: y :: l, 0, v => by unfold lst2; rfl
  | [x, y], 1, v => by unfold lst2; rfl
  | x :: y :: z :: l, 1, v => by unfold lst2; rfl
  | x :: y :: l, n + 2, v => by
    show (x :: lst2 (y :: l) (n + 1) v).length = _
    rw [List.length_cons, lst2_len (y :: l) (n + 1) v]
    rfl
theorem lst2_get : ∀ (ls : LT) (i : Nat) (v : Int64) (j : Nat) (w : Value), i + 1 < ls.length → lget (lst2 ls i v) j = some w → (j = i ∧ w = .long v) ∨ (j ≠ i ∧ j ≠ i + 1 ∧ lget ls j = some w ∧ (j + 1 = i → w.category ≠ 2))
  | [], _, _, _, _, hi, h => by cases hi
  | [x], n, v, j, w, hi, h => by simp at hi
  | x :: y :: l, 0, v, 0, w, hi, h => by cases h; exact Or.inl ⟨rfl, rfl⟩
  | x :: y :: l, 0, v, 1, w, hi, h => by cases h
  | x :: y :: l, 0, v, j + 2, w, hi, h => Or.inr ⟨by omega, by omega, h, fun e => by omega⟩
  | [x, y], 1, v, j, w, hi, h => by simp at hi
  | x :: y :: z :: l, 1, v, 0, w, hi, h => by
      obtain ⟨h1, h2⟩ := lkil_some (show lkil x = some w from h)
      exact Or.inr ⟨by omega, by omega, h1, fun _ => h2⟩
  | x :: y :: z :: l, 1, v, 1, w, hi, h => by cases h; exact Or.inl ⟨rfl, rfl⟩
  | x :: y :: z :: l, 1, v, 2, w, hi, h => by cases h
  | x :: y :: z :: l, 1, v, j + 3, w, hi, h => Or.inr ⟨by omega, by omega, h, fun e => by omega⟩
  | x :: y :: l, n + 2, v, 0, w, hi, h => Or.inr ⟨by omega, by omega, h, fun e => by omega⟩
  | x :: y :: l, n + 2, v, j + 1, w, hi, h => by
      rcases lst2_get (y :: l) (n + 1) v j w (by simp at hi ⊢; omega) h with ⟨h1, h2⟩ | ⟨h1, h2, h3, h4⟩
      · exact Or.inl ⟨by omega, h2⟩
      · exact Or.inr ⟨by omega, by omega, h3, fun e => h4 (by omega)⟩
theorem LRL.st1 {f : Nat → Nat} {ls : LT} {nL : Nat} {lsR lsR' : Array Slot} {i : Nat} {v : Value} (h : LRL f ls nL lsR) (hi : i < nL) (h' : lv_has lsR' nL ((i, svl f v) :: (asc f ls).filter (fun q => !(q.1 == i) && !(q.1 + 1 == i && q.2.category == 2)))) : LRL f (lst1 ls i v) nL lsR' := by
  refine ⟨(lst1_len _ _ _).trans h.1, h'.1, h'.2.1, fun j w hw => ?_⟩
  rcases lst1_get ls i v j w (by rw [h.1]; exact hi) hw with ⟨rfl, rfl⟩ | ⟨h1, h2, h3⟩
  · exact h'.2.2 _ List.mem_cons_self
  · refine h'.2.2 (j, svl f w) (List.mem_cons_of_mem _ (List.mem_filter.mpr ⟨asc_mem h2, ?_⟩))
    by_cases e : j + 1 = i
    · have h4 := h3 e
      simp [h1, svl_cat, h4]
    · simp [h1, e]
theorem LRL.st2 {f : Nat → Nat} {ls : LT} {nL : Nat} {lsR lsR' : Array Slot} {i : Nat} {v : Int64} (h : LRL f ls nL lsR) (hi : i + 1 < nL) (h' : lv_has lsR' nL ((i, .long v) :: (asc f ls).filter (fun q => !(q.1 == i) && (!(q.1 == i + 1) && !(q.1 + 1 == i && q.2.category == 2))))) : LRL f (lst2 ls i v) nL lsR' := by
  refine ⟨(lst2_len _ _ _).trans h.1, h'.1, h'.2.1, fun j w hw => ?_⟩
  rcases lst2_get ls i v j w (by rw [h.1]; exact hi) hw with ⟨rfl, rfl⟩ | ⟨h1, h2, h3, h4⟩
  · exact h'.2.2 _ List.mem_cons_self
  · refine h'.2.2 (j, svl f w) (List.mem_cons_of_mem _ (List.mem_filter.mpr ⟨asc_mem h3, ?_⟩))
    by_cases e : j + 1 = i
    · have h5 := h4 e
      simp [h1, h2, svl_cat, h5]
    · simp [h1, h2, e]
