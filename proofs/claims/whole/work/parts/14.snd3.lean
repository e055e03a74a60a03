/-! ===== each row of the small machine over the real one ===== -/
def SC (ao : Nat → Nat) (HL : Heap) (D : va_G) (cA : Nat → ClassId) (L : Nat) (xs : Nat → Int32) (c0 u0 nL : Nat) (lm : Nat × Nat) (ls : LT) (h : MH) (H : Heap) (locs : List Loc) (cells slots : Nat) (lsR : Array Slot) : Prop :=
  REP ao HL D cA L xs h H ∧ (∀ q ∈ locs, HL.size ≤ q.base) ∧ cells + c0 = hcc h ∧ slots + u0 = hcu h ∧ (hcc h ≤ lm.1 ∧ hcu h ≤ lm.2) ∧ LRL (adr ao HL.size) ls nL lsR
def WS (p : Program) (l : Launch) (e : Env) (R : Room) (s : State) (m : MethodId) (args : Array Value) (below : List Frame) (meth : Method) (c : Code) (Z : State → Prop) (ao : Nat → Nat) (HL : Heap) (D : va_G) (cA : Nat → ClassId) (L : Nat) (xs : Nat → Int32) (c0 u0 nL : Nat) (lm : Nat × Nat) : KT := fun pc st ls h =>
  ∀ (H : Heap) (locs : List Loc) (cells slots : Nat) (lsR : Array Slot), SC ao HL D cA L xs c0 u0 nL lm ls h H locs cells slots lsR → W p l e R s m args below meth c H locs cells slots Z (F0 m pc lsR (st.map (svl (adr ao HL.size))))
section Snd
variable {p : Program} {l : Launch} {e : Env} {R : Room} {s : State} {m : MethodId} {args : Array Value} {below : List Frame} {meth : Method} {c : Code} {Z : State → Prop} {ao : Nat → Nat} {HL : Heap} {D : va_G} {cA : Nat → ClassId} {L : Nat} {xs : Nat → Int32} {c0 u0 nL : Nat} {lm : Nat × Nat}
variable {X : KT} {pc nx : Nat} {st : List Value} {ls : LT} {h : MH} {cc : ByteArray}
theorem SC.lsn {ls' : LT} {H : Heap} {locs : List Loc} {cells slots : Nat} {lsR lsR' : Array Slot} (q : SC ao HL D cA L xs c0 u0 nL lm ls h H locs cells slots lsR) (h1 : LRL (adr ao HL.size) ls' nL lsR') : SC ao HL D cA L xs c0 u0 nL lm ls' h H locs cells slots lsR' := ⟨q.1, q.2.1, q.2.2.1, q.2.2.2.1, q.2.2.2.2.1, h1⟩
theorem SC.hn {h' : MH} {H H' : Heap} {locs : List Loc} {cells slots k a : Nat} {lsR : Array Slot} (q : SC ao HL D cA L xs c0 u0 nL lm ls h H locs cells slots lsR) (h1 : REP ao HL D cA L xs h' H') (h24 : 24 ≤ a) (e1 : hcc h' = hcc h) (e2 : hcu h' = hcu h) : SC ao HL D cA L xs c0 u0 nL lm ls h' H' (locs ++ [⟨adr ao HL.size a, k⟩]) cells slots lsR := by
  refine ⟨h1, fun x hx => ?_, by rw [e1]; exact q.2.2.1, by rw [e2]; exact q.2.2.2.1, by rw [e1, e2]; exact q.2.2.2.2.1, q.2.2.2.2.2⟩
  rcases List.mem_append.mp hx with hx | hx
  · exact q.2.1 x hx
  · rw [List.mem_singleton.mp hx]
    show HL.size ≤ adr ao HL.size a
    rw [adr_hi h24]; omega
theorem w_c {v : Value} (hX : ∀ pc st ls h, X pc st ls h → WS p l e R s m args below meth c Z ao HL D cA L xs c0 u0 nL lm pc st ls h) (row : ∀ {H : Heap} {locs : List Loc} {cells slots : Nat} {lsR : Array Slot} {rest : List Value}, W p l e R s m args below meth c H locs cells slots Z (F0 m nx lsR (svl (adr ao HL.size) v :: rest)) → W p l e R s m args below meth c H locs cells slots Z (F0 m pc lsR rest)) (q : X nx (v :: st) ls h) : WS p l e R s m args below meth c Z ao HL D cA L xs c0 u0 nL lm pc st ls h :=
  fun H locs cells slots lsR hs => row (hX _ _ _ _ q H locs cells slots lsR hs)
theorem w_go (hX : ∀ pc st ls h, X pc st ls h → WS p l e R s m args below meth c Z ao HL D cA L xs c0 u0 nL lm pc st ls h) (row : ∀ {H : Heap} {locs : List Loc} {cells slots : Nat} {lsR : Array Slot} {rest : List Value}, W p l e R s m args below meth c H locs cells slots Z (F0 m nx lsR rest) → W p l e R s m args below meth c H locs cells slots Z (F0 m pc lsR rest)) (q : X nx st ls h) : WS p l e R s m args below meth c Z ao HL D cA L xs c0 u0 nL lm pc st ls h :=
  fun H locs cells slots lsR hs => row (hX _ _ _ _ q H locs cells slots lsR hs)
theorem w_ldi {a : Nat} (hX : ∀ pc st ls h, X pc st ls h → WS p l e R s m args below meth c Z ao HL D cA L xs c0 u0 nL lm pc st ls h) (row : ∀ {H : Heap} {locs : List Loc} {cells slots : Nat} {lsR : Array Slot} {rest : List Value} {x : Int32}, lsR[a]? = some (.val (.int x)) → W p l e R s m args below meth c H locs cells slots Z (F0 m nx lsR (.int x :: rest)) → W p l e R s m args below meth c H locs cells slots Z (F0 m pc lsR rest)) (q : s_ldi X nx a st ls h) : WS p l e R s m args below meth c Z ao HL D cA L xs c0 u0 nL lm pc st ls h := by
  unfold s_ldi at q; split at q
  · rename_i x hx
    exact fun H locs cells slots lsR hs => row (hs.2.2.2.2.2.2.2.2 a _ hx) (hX _ _ _ _ q H locs cells slots lsR hs)
  · exact q.elim
theorem w_ldj {a : Nat} (hX : ∀ pc st ls h, X pc st ls h → WS p l e R s m args below meth c Z ao HL D cA L xs c0 u0 nL lm pc st ls h) (row : ∀ {H : Heap} {locs : List Loc} {cells slots : Nat} {lsR : Array Slot} {rest : List Value} {x : Int64}, lsR[a]? = some (.val (.long x)) → W p l e R s m args below meth c H locs cells slots Z (F0 m nx lsR (.long x :: rest)) → W p l e R s m args below meth c H locs cells slots Z (F0 m pc lsR rest)) (q : s_ldj X nx a st ls h) : WS p l e R s m args below meth c Z ao HL D cA L xs c0 u0 nL lm pc st ls h := by
  unfold s_ldj at q; split at q
  · rename_i x hx
    exact fun H locs cells slots lsR hs => row (hs.2.2.2.2.2.2.2.2 a _ hx) (hX _ _ _ _ q H locs cells slots lsR hs)
  · exact q.elim
theorem w_lda {a : Nat} (hX : ∀ pc st ls h, X pc st ls h → WS p l e R s m args below meth c Z ao HL D cA L xs c0 u0 nL lm pc st ls h) (row : ∀ {H : Heap} {locs : List Loc} {cells slots : Nat} {lsR : Array Slot} {rest : List Value} {x : Nat}, lsR[a]? = some (.val (.ref x)) → W p l e R s m args below meth c H locs cells slots Z (F0 m nx lsR (.ref x :: rest)) → W p l e R s m args below meth c H locs cells slots Z (F0 m pc lsR rest)) (rowN : ∀ {H : Heap} {locs : List Loc} {cells slots : Nat} {lsR : Array Slot} {rest : List Value}, lsR[a]? = some (.val .null) → W p l e R s m args below meth c H locs cells slots Z (F0 m nx lsR (.null :: rest)) → W p l e R s m args below meth c H locs cells slots Z (F0 m pc lsR rest)) (q : s_lda X nx a st ls h) : WS p l e R s m args below meth c Z ao HL D cA L xs c0 u0 nL lm pc st ls h := by
  unfold s_lda at q; split at q
  · rename_i x hx
    exact fun H locs cells slots lsR hs => row (hs.2.2.2.2.2.2.2.2 a _ hx) (hX _ _ _ _ q H locs cells slots lsR hs)
  · rename_i hx
    exact fun H locs cells slots lsR hs => rowN (hs.2.2.2.2.2.2.2.2 a _ hx) (hX _ _ _ _ q H locs cells slots lsR hs)
  · exact q.elim
theorem w_sti {a : Nat} (ha : a < nL) (hX : ∀ pc st ls h, X pc st ls h → WS p l e R s m args below meth c Z ao HL D cA L xs c0 u0 nL lm pc st ls h) (row : ∀ {H : Heap} {locs : List Loc} {cells slots : Nat} {lsR : Array Slot} {rest : List Value} {x : Int32} {lv : List (Nat × Value)}, lv_has lsR nL lv → (∀ ls' : Array Slot, lv_has ls' nL ((a, .int x) :: lv.filter (fun q => !(q.1 == a) && !(q.1 + 1 == a && q.2.category == 2))) → W p l e R s m args below meth c H locs cells slots Z (F0 m nx ls' rest)) → W p l e R s m args below meth c H locs cells slots Z (F0 m pc lsR (.int x :: rest))) (q : s_sti X nx a st ls h) : WS p l e R s m args below meth c Z ao HL D cA L xs c0 u0 nL lm pc st ls h := by
  unfold s_sti at q; split at q
  · exact fun H locs cells slots lsR hs => row hs.2.2.2.2.2.has (fun ls' hl => hX _ _ _ _ q H locs cells slots ls' (hs.lsn (hs.2.2.2.2.2.st1 ha hl)))
  · exact q.elim
theorem w_sta {a : Nat} (ha : a < nL) (hX : ∀ pc st ls h, X pc st ls h → WS p l e R s m args below meth c Z ao HL D cA L xs c0 u0 nL lm pc st ls h) (row : ∀ {H : Heap} {locs : List Loc} {cells slots : Nat} {lsR : Array Slot} {rest : List Value} {x : Nat} {lv : List (Nat × Value)}, lv_has lsR nL lv → (∀ ls' : Array Slot, lv_has ls' nL ((a, .ref x) :: lv.filter (fun q => !(q.1 == a) && !(q.1 + 1 == a && q.2.category == 2))) → W p l e R s m args below meth c H locs cells slots Z (F0 m nx ls' rest)) → W p l e R s m args below meth c H locs cells slots Z (F0 m pc lsR (.ref x :: rest))) (rowN : ∀ {H : Heap} {locs : List Loc} {cells slots : Nat} {lsR : Array Slot} {rest : List Value} {lv : List (Nat × Value)}, lv_has lsR nL lv → (∀ ls' : Array Slot, lv_has ls' nL ((a, .null) :: lv.filter (fun q => !(q.1 == a) && !(q.1 + 1 == a && q.2.category == 2))) → W p l e R s m args below meth c H locs cells slots Z (F0 m nx ls' rest)) → W p l e R s m args below meth c H locs cells slots Z (F0 m pc lsR (.null :: rest))) (q : s_sta X nx a st ls h) : WS p l e R s m args below meth c Z ao HL D cA L xs c0 u0 nL lm pc st ls h := by
  unfold s_sta at q; split at q
  · exact fun H locs cells slots lsR hs => row hs.2.2.2.2.2.has (fun ls' hl => hX _ _ _ _ q H locs cells slots ls' (hs.lsn (hs.2.2.2.2.2.st1 ha hl)))
  · exact fun H locs cells slots lsR hs => rowN hs.2.2.2.2.2.has (fun ls' hl => hX _ _ _ _ q H locs cells slots ls' (hs.lsn (hs.2.2.2.2.2.st1 ha hl)))
  · exact q.elim
theorem w_stj {a : Nat} (ha : a + 1 < nL) (hX : ∀ pc st ls h, X pc st ls h → WS p l e R s m args below meth c Z ao HL D cA L xs c0 u0 nL lm pc st ls h) (row : ∀ {H : Heap} {locs : List Loc} {cells slots : Nat} {lsR : Array Slot} {rest : List Value} {x : Int64} {lv : List (Nat × Value)}, lv_has lsR nL lv → (∀ ls' : Array Slot, lv_has ls' nL ((a, .long x) :: lv.filter (fun q => !(q.1 == a) && (!(q.1 == a + 1) && !(q.1 + 1 == a && q.2.category == 2)))) → W p l e R s m args below meth c H locs cells slots Z (F0 m nx ls' rest)) → W p l e R s m args below meth c H locs cells slots Z (F0 m pc lsR (.long x :: rest))) (q : s_stj X nx a st ls h) : WS p l e R s m args below meth c Z ao HL D cA L xs c0 u0 nL lm pc st ls h := by
  unfold s_stj at q; split at q
  · exact fun H locs cells slots lsR hs => row hs.2.2.2.2.2.has (fun ls' hl => hX _ _ _ _ q H locs cells slots ls' (hs.lsn (hs.2.2.2.2.2.st2 ha hl)))
  · exact q.elim
theorem w_iinc {a : Nat} {i : Int32} (ha : a < nL) (hX : ∀ pc st ls h, X pc st ls h → WS p l e R s m args below meth c Z ao HL D cA L xs c0 u0 nL lm pc st ls h) (row : ∀ {H : Heap} {locs : List Loc} {cells slots : Nat} {lsR : Array Slot} {rest : List Value} {x : Int32} {lv : List (Nat × Value)} {k : Nat}, lv_has lsR nL lv → lv[k]? = some (a, .int x) → (∀ ls' : Array Slot, lv_has ls' nL ((a, .int (x + i)) :: lv.filter (fun q => !(q.1 == a) && !(q.1 + 1 == a && q.2.category == 2))) → W p l e R s m args below meth c H locs cells slots Z (F0 m nx ls' rest)) → W p l e R s m args below meth c H locs cells slots Z (F0 m pc lsR rest)) (q : s_iinc X nx a i st ls h) : WS p l e R s m args below meth c Z ao HL D cA L xs c0 u0 nL lm pc st ls h := by
  unfold s_iinc at q; split at q
  · rename_i x hx
    intro H locs cells slots lsR hs
    obtain ⟨k, hk⟩ := List.getElem?_of_mem (asc_mem (f := adr ao HL.size) hx)
    exact row hs.2.2.2.2.2.has hk (fun ls' hl => hX _ _ _ _ q H locs cells slots ls' (hs.lsn (hs.2.2.2.2.2.st1 ha hl)))
  · exact q.elim
theorem w_bi {f : Int32 → Int32 → Int32} (hX : ∀ pc st ls h, X pc st ls h → WS p l e R s m args below meth c Z ao HL D cA L xs c0 u0 nL lm pc st ls h) (row : ∀ {H : Heap} {locs : List Loc} {cells slots : Nat} {lsR : Array Slot} {rest : List Value} {x y : Int32}, W p l e R s m args below meth c H locs cells slots Z (F0 m nx lsR (.int (f x y) :: rest)) → W p l e R s m args below meth c H locs cells slots Z (F0 m pc lsR (.int y :: .int x :: rest))) (q : s_bi X nx f st ls h) : WS p l e R s m args below meth c Z ao HL D cA L xs c0 u0 nL lm pc st ls h := by
  unfold s_bi at q; split at q
  · exact fun H locs cells slots lsR hs => row (hX _ _ _ _ q H locs cells slots lsR hs)
  · exact q.elim
theorem w_bj {f : Int64 → Int64 → Int64} (hX : ∀ pc st ls h, X pc st ls h → WS p l e R s m args below meth c Z ao HL D cA L xs c0 u0 nL lm pc st ls h) (row : ∀ {H : Heap} {locs : List Loc} {cells slots : Nat} {lsR : Array Slot} {rest : List Value} {x y : Int64}, W p l e R s m args below meth c H locs cells slots Z (F0 m nx lsR (.long (f x y) :: rest)) → W p l e R s m args below meth c H locs cells slots Z (F0 m pc lsR (.long y :: .long x :: rest))) (q : s_bj X nx f st ls h) : WS p l e R s m args below meth c Z ao HL D cA L xs c0 u0 nL lm pc st ls h := by
  unfold s_bj at q; split at q
  · exact fun H locs cells slots lsR hs => row (hX _ _ _ _ q H locs cells slots lsR hs)
  · exact q.elim
theorem w_di {f : Int32 → Int32 → Int32} (hX : ∀ pc st ls h, X pc st ls h → WS p l e R s m args below meth c Z ao HL D cA L xs c0 u0 nL lm pc st ls h) (row : ∀ {H : Heap} {locs : List Loc} {cells slots : Nat} {lsR : Array Slot} {rest : List Value} {x y : Int32}, ¬ y = 0 → W p l e R s m args below meth c H locs cells slots Z (F0 m nx lsR (.int (f x y) :: rest)) → W p l e R s m args below meth c H locs cells slots Z (F0 m pc lsR (.int y :: .int x :: rest))) (q : s_di X nx f st ls h) : WS p l e R s m args below meth c Z ao HL D cA L xs c0 u0 nL lm pc st ls h := by
  unfold s_di at q; split at q
  · exact fun H locs cells slots lsR hs => row q.1 (hX _ _ _ _ q.2 H locs cells slots lsR hs)
  · exact q.elim
theorem w_dj {f : Int64 → Int64 → Int64} (hX : ∀ pc st ls h, X pc st ls h → WS p l e R s m args below meth c Z ao HL D cA L xs c0 u0 nL lm pc st ls h) (row : ∀ {H : Heap} {locs : List Loc} {cells slots : Nat} {lsR : Array Slot} {rest : List Value} {x y : Int64}, ¬ y = 0 → W p l e R s m args below meth c H locs cells slots Z (F0 m nx lsR (.long (f x y) :: rest)) → W p l e R s m args below meth c H locs cells slots Z (F0 m pc lsR (.long y :: .long x :: rest))) (q : s_dj X nx f st ls h) : WS p l e R s m args below meth c Z ao HL D cA L xs c0 u0 nL lm pc st ls h := by
  unfold s_dj at q; split at q
  · exact fun H locs cells slots lsR hs => row q.1 (hX _ _ _ _ q.2 H locs cells slots lsR hs)
  · exact q.elim
theorem w_ui {f : Int32 → Int32} (hX : ∀ pc st ls h, X pc st ls h → WS p l e R s m args below meth c Z ao HL D cA L xs c0 u0 nL lm pc st ls h) (row : ∀ {H : Heap} {locs : List Loc} {cells slots : Nat} {lsR : Array Slot} {rest : List Value} {x : Int32}, W p l e R s m args below meth c H locs cells slots Z (F0 m nx lsR (.int (f x) :: rest)) → W p l e R s m args below meth c H locs cells slots Z (F0 m pc lsR (.int x :: rest))) (q : s_ui X nx f st ls h) : WS p l e R s m args below meth c Z ao HL D cA L xs c0 u0 nL lm pc st ls h := by
  unfold s_ui at q; split at q
  · exact fun H locs cells slots lsR hs => row (hX _ _ _ _ q H locs cells slots lsR hs)
  · exact q.elim
theorem w_ij {f : Int32 → Int64} (hX : ∀ pc st ls h, X pc st ls h → WS p l e R s m args below meth c Z ao HL D cA L xs c0 u0 nL lm pc st ls h) (row : ∀ {H : Heap} {locs : List Loc} {cells slots : Nat} {lsR : Array Slot} {rest : List Value} {x : Int32}, W p l e R s m args below meth c H locs cells slots Z (F0 m nx lsR (.long (f x) :: rest)) → W p l e R s m args below meth c H locs cells slots Z (F0 m pc lsR (.int x :: rest))) (q : s_ij X nx f st ls h) : WS p l e R s m args below meth c Z ao HL D cA L xs c0 u0 nL lm pc st ls h := by
  unfold s_ij at q; split at q
  · exact fun H locs cells slots lsR hs => row (hX _ _ _ _ q H locs cells slots lsR hs)
  · exact q.elim
theorem w_ji {f : Int64 → Int32} (hX : ∀ pc st ls h, X pc st ls h → WS p l e R s m args below meth c Z ao HL D cA L xs c0 u0 nL lm pc st ls h) (row : ∀ {H : Heap} {locs : List Loc} {cells slots : Nat} {lsR : Array Slot} {rest : List Value} {x : Int64}, W p l e R s m args below meth c H locs cells slots Z (F0 m nx lsR (.int (f x) :: rest)) → W p l e R s m args below meth c H locs cells slots Z (F0 m pc lsR (.long x :: rest))) (q : s_ji X nx f st ls h) : WS p l e R s m args below meth c Z ao HL D cA L xs c0 u0 nL lm pc st ls h := by
  unfold s_ji at q; split at q
  · exact fun H locs cells slots lsR hs => row (hX _ _ _ _ q H locs cells slots lsR hs)
  · exact q.elim
theorem w_sj {f : Int64 → Int32 → Int64} (hX : ∀ pc st ls h, X pc st ls h → WS p l e R s m args below meth c Z ao HL D cA L xs c0 u0 nL lm pc st ls h) (row : ∀ {H : Heap} {locs : List Loc} {cells slots : Nat} {lsR : Array Slot} {rest : List Value} {x : Int64} {y : Int32}, W p l e R s m args below meth c H locs cells slots Z (F0 m nx lsR (.long (f x y) :: rest)) → W p l e R s m args below meth c H locs cells slots Z (F0 m pc lsR (.int y :: .long x :: rest))) (q : s_sj X nx f st ls h) : WS p l e R s m args below meth c Z ao HL D cA L xs c0 u0 nL lm pc st ls h := by
  unfold s_sj at q; split at q
  · exact fun H locs cells slots lsR hs => row (hX _ _ _ _ q H locs cells slots lsR hs)
  · exact q.elim
theorem w_lcmp  (hX : ∀ pc st ls h, X pc st ls h → WS p l e R s m args below meth c Z ao HL D cA L xs c0 u0 nL lm pc st ls h) (row : ∀ {H : Heap} {locs : List Loc} {cells slots : Nat} {lsR : Array Slot} {rest : List Value} {x y : Int64}, W p l e R s m args below meth c H locs cells slots Z (F0 m nx lsR (.int (if x < y then -1 else if x = y then 0 else 1) :: rest)) → W p l e R s m args below meth c H locs cells slots Z (F0 m pc lsR (.long y :: .long x :: rest))) (q : s_lcmp X nx  st ls h) : WS p l e R s m args below meth c Z ao HL D cA L xs c0 u0 nL lm pc st ls h := by
  unfold s_lcmp at q; split at q
  · exact fun H locs cells slots lsR hs => row (hX _ _ _ _ q H locs cells slots lsR hs)
  · exact q.elim
theorem w_pop  (hX : ∀ pc st ls h, X pc st ls h → WS p l e R s m args below meth c Z ao HL D cA L xs c0 u0 nL lm pc st ls h) (row : ∀ {H : Heap} {locs : List Loc} {cells slots : Nat} {lsR : Array Slot} {rest : List Value} {x : Int32}, W p l e R s m args below meth c H locs cells slots Z (F0 m nx lsR (rest)) → W p l e R s m args below meth c H locs cells slots Z (F0 m pc lsR (.int x :: rest))) (q : s_pop X nx  st ls h) : WS p l e R s m args below meth c Z ao HL D cA L xs c0 u0 nL lm pc st ls h := by
  unfold s_pop at q; split at q
  · exact fun H locs cells slots lsR hs => row (hX _ _ _ _ q H locs cells slots lsR hs)
  · exact q.elim
theorem w_dup  (hX : ∀ pc st ls h, X pc st ls h → WS p l e R s m args below meth c Z ao HL D cA L xs c0 u0 nL lm pc st ls h) (row0 : ∀ {H : Heap} {locs : List Loc} {cells slots : Nat} {lsR : Array Slot} {rest : List Value} {x : Int32}, W p l e R s m args below meth c H locs cells slots Z (F0 m nx lsR (.int x :: .int x :: rest)) → W p l e R s m args below meth c H locs cells slots Z (F0 m pc lsR (.int x :: rest))) (row1 : ∀ {H : Heap} {locs : List Loc} {cells slots : Nat} {lsR : Array Slot} {rest : List Value} {x : Nat}, W p l e R s m args below meth c H locs cells slots Z (F0 m nx lsR (.ref x :: .ref x :: rest)) → W p l e R s m args below meth c H locs cells slots Z (F0 m pc lsR (.ref x :: rest))) (q : s_dup X nx  st ls h) : WS p l e R s m args below meth c Z ao HL D cA L xs c0 u0 nL lm pc st ls h := by
  unfold s_dup at q; split at q
  · exact fun H locs cells slots lsR hs => row0 (hX _ _ _ _ q H locs cells slots lsR hs)
  · exact fun H locs cells slots lsR hs => row1 (hX _ _ _ _ q H locs cells slots lsR hs)
  · exact q.elim
theorem w_dup2  (hX : ∀ pc st ls h, X pc st ls h → WS p l e R s m args below meth c Z ao HL D cA L xs c0 u0 nL lm pc st ls h) (row0 : ∀ {H : Heap} {locs : List Loc} {cells slots : Nat} {lsR : Array Slot} {rest : List Value} {x : Int64}, W p l e R s m args below meth c H locs cells slots Z (F0 m nx lsR (.long x :: .long x :: rest)) → W p l e R s m args below meth c H locs cells slots Z (F0 m pc lsR (.long x :: rest))) (row1 : ∀ {H : Heap} {locs : List Loc} {cells slots : Nat} {lsR : Array Slot} {rest : List Value} {x : Nat} {y : Int32}, W p l e R s m args below meth c H locs cells slots Z (F0 m nx lsR (.int y :: .ref x :: .int y :: .ref x :: rest)) → W p l e R s m args below meth c H locs cells slots Z (F0 m pc lsR (.int y :: .ref x :: rest))) (q : s_dup2 X nx  st ls h) : WS p l e R s m args below meth c Z ao HL D cA L xs c0 u0 nL lm pc st ls h := by
  unfold s_dup2 at q; split at q
  · exact fun H locs cells slots lsR hs => row0 (hX _ _ _ _ q H locs cells slots lsR hs)
  · exact fun H locs cells slots lsR hs => row1 (hX _ _ _ _ q H locs cells slots lsR hs)
  · exact q.elim
theorem w_nn {t : Nat} (hX : ∀ pc st ls h, X pc st ls h → WS p l e R s m args below meth c Z ao HL D cA L xs c0 u0 nL lm pc st ls h) (row0 : ∀ {H : Heap} {locs : List Loc} {cells slots : Nat} {lsR : Array Slot} {rest : List Value} {x : Nat}, W p l e R s m args below meth c H locs cells slots Z (F0 m t lsR (rest)) → W p l e R s m args below meth c H locs cells slots Z (F0 m pc lsR (.ref x :: rest))) (row1 : ∀ {H : Heap} {locs : List Loc} {cells slots : Nat} {lsR : Array Slot} {rest : List Value} , W p l e R s m args below meth c H locs cells slots Z (F0 m nx lsR (rest)) → W p l e R s m args below meth c H locs cells slots Z (F0 m pc lsR (.null :: rest))) (q : s_nn X nx t st ls h) : WS p l e R s m args below meth c Z ao HL D cA L xs c0 u0 nL lm pc st ls h := by
  unfold s_nn at q; split at q
  · exact fun H locs cells slots lsR hs => row0 (hX _ _ _ _ q H locs cells slots lsR hs)
  · exact fun H locs cells slots lsR hs => row1 (hX _ _ _ _ q H locs cells slots lsR hs)
  · exact q.elim
theorem w_nl {t : Nat} (hX : ∀ pc st ls h, X pc st ls h → WS p l e R s m args below meth c Z ao HL D cA L xs c0 u0 nL lm pc st ls h) (row0 : ∀ {H : Heap} {locs : List Loc} {cells slots : Nat} {lsR : Array Slot} {rest : List Value} {x : Nat}, W p l e R s m args below meth c H locs cells slots Z (F0 m nx lsR (rest)) → W p l e R s m args below meth c H locs cells slots Z (F0 m pc lsR (.ref x :: rest))) (row1 : ∀ {H : Heap} {locs : List Loc} {cells slots : Nat} {lsR : Array Slot} {rest : List Value} , W p l e R s m args below meth c H locs cells slots Z (F0 m t lsR (rest)) → W p l e R s m args below meth c H locs cells slots Z (F0 m pc lsR (.null :: rest))) (q : s_nl X nx t st ls h) : WS p l e R s m args below meth c Z ao HL D cA L xs c0 u0 nL lm pc st ls h := by
  unfold s_nl at q; split at q
  · exact fun H locs cells slots lsR hs => row0 (hX _ _ _ _ q H locs cells slots lsR hs)
  · exact fun H locs cells slots lsR hs => row1 (hX _ _ _ _ q H locs cells slots lsR hs)
  · exact q.elim
theorem w_ci {t : Nat} {cn : Int32 → Int32 → Prop} (hX : ∀ pc st ls h, X pc st ls h → WS p l e R s m args below meth c Z ao HL D cA L xs c0 u0 nL lm pc st ls h) (row : ∀ {H : Heap} {locs : List Loc} {cells slots : Nat} {lsR : Array Slot} {rest : List Value} {x y : Int32}, (cn x y → W p l e R s m args below meth c H locs cells slots Z (F0 m t lsR (rest))) → (¬ cn x y → W p l e R s m args below meth c H locs cells slots Z (F0 m nx lsR (rest))) → W p l e R s m args below meth c H locs cells slots Z (F0 m pc lsR (.int y :: .int x :: rest))) (q : s_ci X nx t cn st ls h) : WS p l e R s m args below meth c Z ao HL D cA L xs c0 u0 nL lm pc st ls h := by
  unfold s_ci at q; split at q
  · exact fun H locs cells slots lsR hs => row (fun z => hX _ _ _ _ (q.1 z) H locs cells slots lsR hs) (fun z => hX _ _ _ _ (q.2 z) H locs cells slots lsR hs)
  · exact q.elim
theorem w_cz {t : Nat} {cn : Int32 → Prop} (hX : ∀ pc st ls h, X pc st ls h → WS p l e R s m args below meth c Z ao HL D cA L xs c0 u0 nL lm pc st ls h) (row : ∀ {H : Heap} {locs : List Loc} {cells slots : Nat} {lsR : Array Slot} {rest : List Value} {x : Int32}, (cn x → W p l e R s m args below meth c H locs cells slots Z (F0 m t lsR (rest))) → (¬ cn x → W p l e R s m args below meth c H locs cells slots Z (F0 m nx lsR (rest))) → W p l e R s m args below meth c H locs cells slots Z (F0 m pc lsR (.int x :: rest))) (q : s_cz X nx t cn st ls h) : WS p l e R s m args below meth c Z ao HL D cA L xs c0 u0 nL lm pc st ls h := by
  unfold s_cz at q; split at q
  · exact fun H locs cells slots lsR hs => row (fun z => hX _ _ _ _ (q.1 z) H locs cells slots lsR hs) (fun z => hX _ _ _ _ (q.2 z) H locs cells slots lsR hs)
  · exact q.elim
end Snd
