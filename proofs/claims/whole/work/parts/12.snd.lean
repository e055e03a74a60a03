/-! ===== SOUNDNESS of the small machine over the real one ===== -/
def tk (b : Bool) (r : PI) : Option PI := if b = true then some r else none
theorem tk_some {b : Bool} {r r' : PI} (h : tk b r = some r') : b = true ∧ r = r' := by
  unfold tk at h
  split at h
  · rename_i hb; exact ⟨hb, Option.some.inj h⟩
  · cases h
def lk2 (l : List (Nat × Nat)) (a b : Nat) : Bool := l.any fun q => q.1 == a && q.2 == b
def lk3 {α : Type} (l : List (Nat × Nat × α)) (a b : Nat) : Option α := (l.find? fun q => q.1 == a && q.2.1 == b).map (·.2.2)
theorem lk2_mem {l : List (Nat × Nat)} {a b : Nat} (h : lk2 l a b = true) : (a, b) ∈ l := by
  obtain ⟨q, hq, e⟩ := List.any_eq_true.mp h
  obtain ⟨x, y⟩ := q
  simp only [Bool.and_eq_true, beq_iff_eq] at e
  obtain ⟨rfl, rfl⟩ := e
  exact hq
theorem lk3_mem {α : Type} {l : List (Nat × Nat × α)} {a b : Nat} {v : α} (h : lk3 l a b = some v) : (a, b, v) ∈ l := by
  unfold lk3 at h
  obtain ⟨q, hq, e⟩ := Option.map_eq_some_iff.mp h
  have h1 := List.mem_of_find?_eq_some hq
  have h2 := List.find?_some hq
  obtain ⟨x, y, z⟩ := q
  simp only [Bool.and_eq_true, beq_iff_eq] at h2 e
  obtain ⟨rfl, rfl⟩ := h2
  subst e
  exact h1
/-- kinds of fields: 0 int, 1 long, 2 reference -/
def ftyT (t : FieldType) : Nat := match t with
  | .long => 1
  | .object _ => 2
  | .array _ => 2
  | _ => 0
def vwN (ci : Nat) : Nat := (vwCl.getD ci ("", TX0, 0)).2.2
def tyT (ci k : Nat) : FieldType := match ci with
  | 0 => tyX0 k
  | 1 => tyX1 k
  | 2 => tyX2 k
  | 3 => tyX3 k
  | 4 => tyX4 k
  | 5 => tyX5 k
  | 6 => tyX6 k
  | 7 => tyX7 k
  | _ => tyX8 k
def fty (ci k : Nat) : Nat := ftyT (tyT ci k)
def cnum : ClassFile.Cond → Nat
  | .eq => 0
  | .ne => 1
  | .lt => 2
  | .ge => 3
  | .gt => 4
  | .le => 5
def mE (y : Nat) : MethodName × ByteArray × Nat × Option FieldType × Nat × Nat × Nat := mT.getD y (⟨"", "", ""⟩, code, 0, none, 0, 0, 0)
def mA (y : Nat) : Nat × Nat := match mtb[y]? with
  | some (_, _, mc, ms) => (mc, ms)
  | none => (0, 0)
/-- the row of a call -/
def crow (pc y : Nat) : PI := match (mE y).2.2.2.2.2.1, mA y with
  | 0, (0, 0) => (76, pc + 3, y, (mE y).2.2.2.2.2.2, 0, 0, [])
  | 0, (c, u) => (89, pc + 3, y, (mE y).2.2.2.2.2.2, 0, 0, [c, u])
  | _, (0, 0) => (86, pc + 3, y, (mE y).2.2.2.2.2.2, 0, 0, [(mE y).2.2.2.2.1])
  | _, (c, u) => (90, pc + 3, y, (mE y).2.2.2.2.2.2, 0, 0, [(mE y).2.2.2.2.1, c, u])
def trI (own nL : Nat) (ini : Bool) (rz pc : Nat) (i : Instr) (len : Nat) : Option PI := match i with
  | .iload a => tk (len == 2) (1, pc + 2, a, 0, 0, 0, [])
  | .iload_n k => tk (len == 1) (1, pc + 1, k.val, 0, 0, 0, [])
  | .aload a => tk (len == 2) (2, pc + 2, a, 0, 0, 0, [])
  | .aload_n k => tk (len == 1) (2, pc + 1, k.val, 0, 0, 0, [])
  | .lload a => tk (len == 2) (3, pc + 2, a, 0, 0, 0, [])
  | .lload_n k => tk (len == 1) (3, pc + 1, k.val, 0, 0, 0, [])
  | .istore a => tk (len == 2 && decide (a < nL)) (4, pc + 2, a, 0, 0, 0, [])
  | .istore_n k => tk (len == 1 && decide (k.val < nL)) (4, pc + 1, k.val, 0, 0, 0, [])
  | .astore a => tk (len == 2 && decide (a < nL)) (5, pc + 2, a, 0, 0, 0, [])
  | .astore_n k => tk (len == 1 && decide (k.val < nL)) (5, pc + 1, k.val, 0, 0, 0, [])
  | .lstore a => tk (len == 2 && decide (a + 1 < nL)) (6, pc + 2, a, 0, 0, 0, [])
  | .lstore_n k => tk (len == 1 && decide (k.val + 1 < nL)) (6, pc + 1, k.val, 0, 0, 0, [])
  | .iconst v => tk (len == 1) (7, pc + 1, 0, 0, Int32.ofInt v, 0, [])
  | .bipush v => tk (len == 2) (7, pc + 2, 0, 0, (Int8.ofInt v).toInt32, 0, [])
  | .sipush v => tk (len == 3) (7, pc + 3, 0, 0, (Int16.ofInt v).toInt32, 0, [])
  | .ldc ix => match lk3 iT own ix with
    | some v => tk (len == 2) (7, pc + 2, 0, 0, v, 0, [])
    | none => match lk3 qT own ix with
      | some a => tk (len == 2) (10, pc + 2, a, 0, 0, 0, [])
      | none => none
  | .ldc_w ix => match lk3 iT own ix with
    | some v => tk (len == 3) (7, pc + 3, 0, 0, v, 0, [])
    | none => none
  | .ldc2_w ix => match lk3 jT own ix with
    | some v => tk (len == 3) (8, pc + 3, 0, 0, 0, v, [])
    | none => none
  | .lconst n => tk (len == 1) (8, pc + 1, 0, 0, 0, Int64.ofNat n.val, [])
  | .aconst_null => tk (len == 1) (9, pc + 1, 0, 0, 0, 0, [])
  | .getstatic ix => tk (len == 3 && own == 7 && ix == 162) (10, pc + 3, 1, 0, 0, 0, [])
  | .iinc a n => tk (len == 3 && decide (a < nL)) (11, pc + 3, a, 0, Int32.ofInt n, 0, [])
  | .iadd => tk (len == 1) (12, pc + 1, 0, 0, 0, 0, [])
  | .isub => tk (len == 1) (13, pc + 1, 0, 0, 0, 0, [])
  | .imul => tk (len == 1) (14, pc + 1, 0, 0, 0, 0, [])
  | .idiv => tk (len == 1) (15, pc + 1, 0, 0, 0, 0, [])
  | .irem => tk (len == 1) (16, pc + 1, 0, 0, 0, 0, [])
  | .ineg => tk (len == 1) (17, pc + 1, 0, 0, 0, 0, [])
  | .ishl => tk (len == 1) (18, pc + 1, 0, 0, 0, 0, [])
  | .ishr => tk (len == 1) (19, pc + 1, 0, 0, 0, 0, [])
  | .iushr => tk (len == 1) (20, pc + 1, 0, 0, 0, 0, [])
  | .iand => tk (len == 1) (21, pc + 1, 0, 0, 0, 0, [])
  | .ior => tk (len == 1) (22, pc + 1, 0, 0, 0, 0, [])
  | .ixor => tk (len == 1) (23, pc + 1, 0, 0, 0, 0, [])
  | .ladd => tk (len == 1) (24, pc + 1, 0, 0, 0, 0, [])
  | .lsub => tk (len == 1) (25, pc + 1, 0, 0, 0, 0, [])
  | .lmul => tk (len == 1) (26, pc + 1, 0, 0, 0, 0, [])
  | .ldiv => tk (len == 1) (27, pc + 1, 0, 0, 0, 0, [])
  | .lrem => tk (len == 1) (28, pc + 1, 0, 0, 0, 0, [])
  | .lshl => tk (len == 1) (29, pc + 1, 0, 0, 0, 0, [])
  | .lshr => tk (len == 1) (30, pc + 1, 0, 0, 0, 0, [])
  | .land => tk (len == 1) (31, pc + 1, 0, 0, 0, 0, [])
  | .lor => tk (len == 1) (32, pc + 1, 0, 0, 0, 0, [])
  | .i2l => tk (len == 1) (33, pc + 1, 0, 0, 0, 0, [])
  | .l2i => tk (len == 1) (34, pc + 1, 0, 0, 0, 0, [])
  | .lcmp => tk (len == 1) (35, pc + 1, 0, 0, 0, 0, [])
  | .dup => tk (len == 1) (37, pc + 1, 0, 0, 0, 0, [])
  | .dup2 => tk (len == 1) (38, pc + 1, 0, 0, 0, 0, [])
  | .pop => tk (len == 1) (39, pc + 1, 0, 0, 0, 0, [])
  | .goto off => tk (len == 3 && decide (0 ≤ (pc : Int) + off)) (40, ((pc : Int) + off).toNat, 0, 0, 0, 0, [])
  | .if_icmp cnd off => tk (len == 3 && decide (0 ≤ (pc : Int) + off)) (41 + cnum cnd, pc + 3, ((pc : Int) + off).toNat, 0, 0, 0, [])
  | .ifCond cnd off => tk (len == 3 && decide (0 ≤ (pc : Int) + off)) (47 + cnum cnd, pc + 3, ((pc : Int) + off).toNat, 0, 0, 0, [])
  | .ifnonnull off => tk (len == 3 && decide (0 ≤ (pc : Int) + off)) (53, pc + 3, ((pc : Int) + off).toNat, 0, 0, 0, [])
  | .ifnull off => tk (len == 3 && decide (0 ≤ (pc : Int) + off)) (54, pc + 3, ((pc : Int) + off).toNat, 0, 0, 0, [])
  | .tableswitch dflt lo hi offs => tk (decide ((Int32.ofInt lo).toInt = lo) && decide (lo + offs.size = hi + 1) && decide (0 ≤ (pc : Int) + dflt) && offs.toList.all (fun o => decide (0 ≤ (pc : Int) + o))) (55, ((pc : Int) + dflt).toNat, 0, 0, Int32.ofInt lo, 0, offs.toList.map fun o => ((pc : Int) + o).toNat)
  | .getfield ix => match lk3 fT own ix with
    | some (ci, k, _) => tk (len == 3 && decide (ci < 9) && decide (k < vwN ci)) (56 + fty ci k, pc + 3, ci, k, 0, 0, [])
    | none => none
  | .putfield ix => match lk3 fT own ix with
    | some (ci, k, n) => tk (len == 3 && decide (ci < 9) && decide (k < vwN ci) && ((vwT ci k).2.2.2 == false || (ini && own == ci && n == 0)) && (decide (tyT ci k = .int) || decide (tyT ci k = .boolean) || decide (tyT ci k = .long) || fty ci k == 2)) (if tyT ci k = .boolean then 85 else 59 + fty ci k, pc + 3, ci, k, 0, 0, [])
    | none => none
  | .iaload => tk (len == 1) (62, pc + 1, 0, 0, 0, 0, [])
  | .baload => tk (len == 1) (63, pc + 1, 0, 0, 0, 0, [])
  | .laload => tk (len == 1) (64, pc + 1, 0, 0, 0, 0, [])
  | .aaload => tk (len == 1) (65, pc + 1, 0, 0, 0, 0, [])
  | .iastore => tk (len == 1) (66, pc + 1, 0, 0, 0, 0, [])
  | .bastore => tk (len == 1) (67, pc + 1, 0, 0, 0, 0, [])
  | .lastore => tk (len == 1) (68, pc + 1, 0, 0, 0, 0, [])
  | .aastore => tk (len == 1) (69, pc + 1, 0, 0, 0, 0, [])
  | .arraylength => tk (len == 1) (70, pc + 1, 0, 0, 0, 0, [])
  | .newarray .int => tk (len == 2) (71, pc + 2, 0, 0, 0, 0, [])
  | .newarray .long => tk (len == 2) (72, pc + 2, 0, 0, 0, 0, [])
  | .newarray .boolean => tk (len == 2) (73, pc + 2, 0, 0, 0, 0, [])
  | .anewarray ix => match lk3 kT own ix with
    | some ci => tk (len == 3 && (ci == 2 || ci == 3 || ci == 6)) (74, pc + 3, if ci = 2 then 23 else if ci = 3 then 24 else 25, 0, 0, 0, [])
    | none => none
  | .new ix => match lk3 kT own ix with
    | some ci => tk (len == 3 && decide (ci < 9)) (75, pc + 3, ci, vwN ci, 0, 0, [])
    | none => none
  | .invokestatic ix => match lk3 cT own ix with
    | some (y, _) => tk (len == 3 && decide (y < 257) && (mE y).2.2.2.2.2.1 == 0) (crow pc y)
    | none => tk (len == 3 && lk2 aT own ix) (78, pc + 3, 0, 0, 0, 0, [])
  | .invokevirtual ix => match lk3 cT own ix with
    | some (y, _) => tk (len == 3 && decide (y < 257) && (mE y).2.2.2.2.2.1 == 1) (crow pc y)
    | none => if own = 10 ∧ ix = 316 then tk (len == 3) (87, pc + 3, 0, 0, 0, 0, []) else if own = 5 ∧ ix = 45 then tk (len == 3) (79, pc + 3, 0, 0, 0, 0, []) else tk (len == 3 && own == 5 && ix == 50) (80, pc + 3, 0, 0, 0, 0, [])
  | .invokespecial ix => match lk3 cT own ix with
    | some (y, _) => tk (len == 3 && decide (y < 257) && (mE y).2.2.2.2.2.1 == 2) (crow pc y)
    | none => tk (len == 3 && lk2 bT own ix) (77, pc + 3, 0, 0, 0, 0, [])
  | .checkcast ix => tk (len == 3 && own == 10 && ix == 317) (88, pc + 3, 0, 0, 0, 0, [])
  | .ireturn => tk (len == 1 && (rz == 0 || rz == 1)) (81, pc + 1, rz, 0, 0, 0, [])
  | .lreturn => tk (len == 1 && rz == 2) (82, pc + 1, 0, 0, 0, 0, [])
  | .areturn => tk (len == 1 && rz == 3) (83, pc + 1, 0, 0, 0, 0, [])
  | .return_ => tk (len == 1 && rz == 4) (84, pc + 1, 0, 0, 0, 0, [])
  | _ => none
/-- kinds of answers -/
def rzT (r : Option FieldType) : Nat := match r with
  | some .int => 0
  | some .boolean => 1
  | some .long => 2
  | some (.object _) => 3
  | some (.array _) => 3
  | none => 4
  | _ => 9
def peq (r s : PI) : Bool := r.1 == s.1 && r.2.1 == s.2.1 && r.2.2.1 == s.2.2.1 && r.2.2.2.1 == s.2.2.2.1 && decide (r.2.2.2.2.1 = s.2.2.2.2.1) && decide (r.2.2.2.2.2.1 = s.2.2.2.2.2.1) && decide (r.2.2.2.2.2.2 = s.2.2.2.2.2.2)
theorem peq_eq {r s : PI} (h : peq r s = true) : r = s := by
  obtain ⟨r1, r2, r3, r4, r5, r6, r7⟩ := r
  obtain ⟨s1, s2, s3, s4, s5, s6, s7⟩ := s
  simp only [peq, Bool.and_eq_true, beq_iff_eq, decide_eq_true_eq] at h
  obtain ⟨⟨⟨⟨⟨⟨rfl, rfl⟩, rfl⟩, rfl⟩, rfl⟩, rfl⟩, rfl⟩ := h
  rfl
def chk (own : Nat) (cc : ByteArray) (nL : Nat) (ini : Bool) (rz : Nat) (l : List (Nat × PI)) : Bool := l.all fun q => match decode cc q.1 with
  | .ok (i, len) => match trI own nL ini rz q.1 i len with
    | some r => peq r q.2
    | none => false
  | _ => false
def RowOK (own : Nat) (cc : ByteArray) (nL : Nat) (ini : Bool) (rz : Nat) (pc : Nat) (r : PI) : Prop := ∃ i len, decode cc pc = .ok (i, len) ∧ trI own nL ini rz pc i len = some r
theorem rws_mem : ∀ {l : List (Nat × PI)} {pc : Nat} {r : PI}, rws l pc = some r → (pc, r) ∈ l
  | [], _, _, h => by cases h
  | q :: l, pc, r, h => by
    unfold rws at h
    split at h
    · rename_i e
      cases h
      subst e
      exact List.mem_cons_self
    · exact List.mem_cons_of_mem _ (rws_mem h)
theorem chk_ok {own : Nat} {cc : ByteArray} {nL : Nat} {ini : Bool} {rz : Nat} {l : List (Nat × PI)} (h : chk own cc nL ini rz l = true) {pc : Nat} {r : PI} (hr : rws l pc = some r) : RowOK own cc nL ini rz pc r := by
  have h1 := List.all_eq_true.mp h _ (rws_mem hr)
  dsimp only at h1
  split at h1
  · rename_i i len hd
    split at h1
    · rename_i r' hr'
      exact ⟨i, len, hd, by rw [hr', peq_eq h1]⟩
    · cases h1
  · cases h1
theorem chk_cut {own : Nat} {cc : ByteArray} {nL : Nat} {ini : Bool} {rz : Nat} {l : List (Nat × PI)} (n : Nat) (h1 : chk own cc nL ini rz (l.take n) = true) (h2 : chk own cc nL ini rz (l.drop n) = true) : chk own cc nL ini rz l = true := by
  have : chk own cc nL ini rz (l.take n ++ l.drop n) = true := by
    unfold chk at *
    rw [List.all_append, h1, h2]
    rfl
  rwa [List.take_append_drop] at this
/-! ===== what of the small heap the real one holds ===== -/
def svl (f : Nat → Nat) (v : Value) : Value := match v with
  | .ref k => .ref (f k)
  | w => w
theorem svl_cat (f : Nat → Nat) (v : Value) : (svl f v).category = v.category := by cases v <;> rfl
def adr (ao : Nat → Nat) (bs k : Nat) : Nat := if k < 24 then ao k else bs + (k - 24)
theorem adr_hi {ao : Nat → Nat} {bs k : Nat} (h : 24 ≤ k) : adr ao bs k = bs + (k - 24) := if_neg (by omega)
def fvl (f : Nat → Nat) (h : MH) (k ci j : Nat) : Value := match fty ci j with
  | 0 => .int (hfi h k j)
  | 1 => .long (hfj h k j)
  | _ => rfv ((hfr h k j).map f)
def cel (f : Nat → Nat) (cA : Nat → ClassId) (h : MH) (k : Nat) : va_E :=
  if hkd h k ≤ 8 then .inr (hkd h k, (List.range (vwN (hkd h k))).map (fvl f h k (hkd h k)))
  else if hkd h k = 21 then .inl (cA 21, hln h k, .inr (.inl (hja h k)))
  else if hkd h k ≤ 22 then .inl (cA (hkd h k), hln h k, .inl (hia h k))
  else .inl (cA (hkd h k), hln h k, .inr (.inr (.inr (.inr fun j => (hra h k j).map f))))
def mostF : Nat → Int32 := fun j => if j = 0 then 999 else if j = 1 then 10 else 9
def REP (ao : Nat → Nat) (HL : Heap) (D : va_G) (cA : Nat → ClassId) (L : Nat) (xs : Nat → Int32) (h : MH) (H : Heap) : Prop :=
  24 ≤ hsz h ∧ H.size = HL.size + (hsz h - 24) ∧ (∀ q, q < HL.size → H[q]? = HL[q]?) ∧
  (∀ k, 24 ≤ k → k < hsz h → va_at D vwCl (adr ao HL.size k, cel (adr ao HL.size) cA h k) H ∧ (hkd h k ≤ 8 ∨ (20 ≤ hkd h k ∧ hkd h k ≤ 25))) ∧
  (∀ k, hsz h ≤ k → hkd h k = 99) ∧
  (hkd h 0 = 20 ∧ hln h 0 = L ∧ ∀ j, j < L → hia h 0 j = xs j) ∧ (hkd h 1 = 20 ∧ hln h 1 = 3 ∧ ∀ j, j < 3 → hia h 1 j = mostF j) ∧ ∀ k, 2 ≤ k → k < 24 → hkd h k = 30
def aTy (cA : Nat → ClassId) : List (ClassId × FieldType) := [(cA 20, .int), (cA 21, .long), (cA 22, .boolean), (cA 23, .object "DiffusingRoutes$Net"), (cA 24, .object "DiffusingRoutes$Program"), (cA 25, .object "DiffusingRoutes$World")]
def TW (U : State) : Prop := ∀ w ∈ lw_tbl, stw w = true → ∀ a, w.before a U = true
theorem TW.warm {s U : State} (hW : s.WarmedH U.vm) (h : TW s) : TW U := by
  intro w hw hs a
  have h0 := h w hw hs #[]
  cases w <;> first
    | exact va_Nw.use rfl (va_Nw.warmF hW h0)
    | exact va_Nw.use rfl (va_Nw.warmM hW h0)
    | exact va_Nw.use rfl (va_Nw.warmC hW h0)
    | (rename_i t; cases t <;> first | exact va_AO.use (va_AO.moved hW.alike (va_AO.of h0)) | exact word_at hW (good_of_word hs) h0)
    | exact word_at hW (good_of_word hs) h0
/-- what was there before the law began -/
def OF (ao : Nat → Nat) (HL : Heap) (L : Nat) (xs : Nat → Int32) (U : State) : Prop :=
  (va_X (ao 0) L xs U HL ∧ ao 0 < HL.size) ∧ (va_X (ao 1) 3 mostF U HL ∧ ao 1 < HL.size) ∧
  va_Z "DiffusingRoutes" "MOST_OF_TERM" "[I" (.ref (ao 1)) (fun q => HL.size ≤ q) U HL ∧
  vk_S 22 ((List.range 22).map fun i => (sbt i).length) ((List.range 22).map sbt) (fun i => ao (i + 2)) (fun i => ao (i + 100)) (fun q => HL.size ≤ q) U HL ∧
  (∀ q ∈ qT, vk_R (onm q.1) q.2.1 (qTx (q.2.2 - 2)) (ao q.2.2) U) ∧
  va_Z "java/lang/String" "COMPACT_STRINGS" "Z" (.int 1) (fun q => HL.size ≤ q) U HL ∧
  va_Zq "jdk/internal/util/Preconditions" "SIOOBE_FORMATTER" "Ljava/util/function/BiFunction;" (fun q => HL.size ≤ q) U HL
theorem OF.warm {ao : Nat → Nat} {HL : Heap} {L : Nat} {xs : Nat → Int32} {s U : State} (hW : s.WarmedH U.vm) (h : OF ao HL L xs s) : OF ao HL L xs U := by
  obtain ⟨⟨h1, h2⟩, ⟨h3, h4⟩, h5, h6, h7, h8, h9⟩ := h
  refine ⟨⟨h1.moved hW.alike, h2⟩, ⟨h3.moved hW.alike, h4⟩, h5.moved hW.alike, h6.moved hW.alike, fun q hq => (h7 q hq).warm hW, h8.moved hW.alike, ?_⟩
  rcases h9 with h9 | ⟨t, h9⟩
  · exact Or.inl (h9.moved hW.alike)
  · exact Or.inr ⟨t, h9.moved hW.alike⟩
def ST (ao : Nat → Nat) (HL : Heap) (D : va_G) (cA : Nat → ClassId) (L : Nat) (xs : Nat → Int32) (U : State) : Prop := va_K D vwCl (aTy cA) U ∧ TW U ∧ OF ao HL L xs U
theorem ST.warm {ao : Nat → Nat} {HL : Heap} {D : va_G} {cA : Nat → ClassId} {L : Nat} {xs : Nat → Int32} {s U : State} (hW : s.WarmedH U.vm) (h : ST ao HL D cA L xs s) : ST ao HL D cA L xs U := ⟨va_K.moved hW.alike h.1, h.2.1.warm hW, h.2.2.warm hW⟩
/-! ===== locals ===== -/
def LRL (f : Nat → Nat) (ls : LT) (nL : Nat) (lsR : Array Slot) : Prop := ls.length = nL ∧ lsR.size = nL ∧ lv_wf lsR ∧ ∀ i v, lget ls i = some v → lsR[i]? = some (.val (svl f v))
theorem lget_lt : ∀ {ls : LT} {i : Nat} {v : Value}, lget ls i = some v → i < ls.length
  | [], i, v, h => by cases h
  | x :: l, 0, v, h => Nat.zero_lt_succ _
  | x :: l, n + 1, v, h => Nat.succ_lt_succ (lget_lt (ls := l) h)
/-- what is known, as a list -/
def asc (f : Nat → Nat) (ls : LT) : List (Nat × Value) := (List.range ls.length).filterMap fun i => (lget ls i).map fun v => (i, svl f v)
theorem asc_mem {f : Nat → Nat} {ls : LT} {i : Nat} {v : Value} (h : lget ls i = some v) : (i, svl f v) ∈ asc f ls := by
  unfold asc
  rw [List.mem_filterMap]
  exact ⟨i, List.mem_range.mpr (lget_lt h), by rw [h]; rfl⟩
theorem LRL.has {f : Nat → Nat} {ls : LT} {nL : Nat} {lsR : Array Slot} (h : LRL f ls nL lsR) : lv_has lsR nL (asc f ls) := by
  refine ⟨h.2.1, h.2.2.1, fun q hq => ?_⟩
  unfold asc at hq
  obtain ⟨i, -, hi⟩ := List.mem_filterMap.mp hq
  obtain ⟨v, hv, e⟩ := Option.map_eq_some_iff.mp hi
  subst e
  exact h.2.2.2 i v hv
theorem lst1_len : ∀ (ls : LT) (i : Nat) (v : Value), (lst1 ls i v).length = ls.length
  | [], _, _ => by unfold lst1; rfl
  | [x], 0, v => by unfold lst1; rfl
  | [x], n + 1, v => by unfold lst1; rfl
  | x :: y :: l, 0, v => by unfold lst1; rfl
  | x :: y :: l, 1, v => by unfold lst1; rfl
  | x :: y :: l, n + 2, v => by
    show (x :: lst1 (y :: l) (n + 1) v).length = _
    rw [List.length_cons, lst1_len (y :: l) (n + 1) v]
    rfl
theorem lkil_some {x : Option Value} {w : Value} (h : lkil x = some w) : x = some w ∧ w.category ≠ 2 := by
  cases x with
  | none => cases h
  | some y => cases y <;> first | (cases h; done) | (cases h; exact ⟨rfl, by simp [Value.category]⟩)
theorem lst1_get : ∀ (ls : LT) (i : Nat) (v : Value) (j : Nat) (w : Value), i < ls.length → lget (lst1 ls i v) j = some w → (j = i ∧ w = v) ∨ (j ≠ i ∧ lget ls j = some w ∧ (j + 1 = i → w.category ≠ 2))
  | [], _, _, _, _, hi, h => by cases hi
  | [x], 0, v, 0, w, hi, h => by cases h; exact Or.inl ⟨rfl, rfl⟩
  | [x], 0, v, j + 1, w, hi, h => by cases h
  | [x], n + 1, v, j, w, hi, h => by simp at hi
  | x :: y :: l, 0, v, 0, w, hi, h => by cases h; exact Or.inl ⟨rfl, rfl⟩
  | x :: y :: l, 0, v, j + 1, w, hi, h => Or.inr ⟨by omega, h, fun e => by omega⟩
  | x :: y :: l, 1, v, 0, w, hi, h => by
      obtain ⟨h1, h2⟩ := lkil_some (show lkil x = some w from h)
      exact Or.inr ⟨by omega, h1, fun _ => h2⟩
  | x :: y :: l, 1, v, 1, w, hi, h => by cases h; exact Or.inl ⟨rfl, rfl⟩
  | x :: y :: l, 1, v, j + 2, w, hi, h => Or.inr ⟨by omega, h, fun e => by omega⟩
  | x :: y :: l, n + 2, v, 0, w, hi, h => Or.inr ⟨by omega, h, fun e => by omega⟩
  | x :: y :: l, n + 2, v, j + 1, w, hi, h => by
      rcases lst1_get (y :: l) (n + 1) v j w (by simp at hi ⊢; omega) h with ⟨h1, h2⟩ | ⟨h1, h2, h3⟩
      · exact Or.inl ⟨by omega, h2⟩
      · exact Or.inr ⟨by omega, h2, fun e => h3 (by omega)⟩
theorem lst2_len : ∀ (ls : LT) (i : Nat) (v : Int64), (lst2 ls i v).length = ls.length
  | [], _, _ => by unfold lst2; rfl
  | [x], 0, v => by unfold lst2; rfl
  | [x], n + 1, v => by unfold lst2; rfl
  | x :: y :: l, 0, v => by unfold lst2; rfl
  | [x, y], 1, v => by unfold lst2; rfl
  | x :: y :: z :: l, 1, v => by unfold lst2; rfl
  | x :: y :: l, n + 2, v => by
    show (x :: lst2 (y :: l) (n + 1) v).length = _
    rw [List.length_cons, lst2_len (y :: l) (n + 1) v]
    rfl
theorem lst2_get : ∀ (ls : LT) (i : Nat) (v : Int64) (j : Nat) (w : Value), i + 1 < ls.length → lget (lst2 ls i v) j = some w → (j = i ∧ w = .long v) ∨ (j ≠ i ∧ j ≠ i + 1 ∧ lget ls j = some w ∧ (j + 1 = i → w.category ≠ 2))
  | [], _, _, _, _, hi, h => by cases hi
  | [x], n, v, j, w, hi, h => by simp at hi
  | x :: y :: l, 0, v, 0, w, hi, h => by cases h; exact Or.inl ⟨rfl, rfl⟩
  | x :: y :: l, 0, v, 1, w, hi, h => by cases h
  | x :: y :: l, 0, v, j + 2, w, hi, h => Or.inr ⟨by omega, by omega, h, fun e => by omega⟩
  | [x, y], 1, v, j, w, hi, h => by simp at hi
  | x :: y :: z :: l, 1, v, 0, w, hi, h => by
      obtain ⟨h1, h2⟩ := lkil_some (show lkil x = some w from h)
      exact Or.inr ⟨by omega, by omega, h1, fun _ => h2⟩
  | x :: y :: z :: l, 1, v, 1, w, hi, h => by cases h; exact Or.inl ⟨rfl, rfl⟩
  | x :: y :: z :: l, 1, v, 2, w, hi, h => by cases h
  | x :: y :: z :: l, 1, v, j + 3, w, hi, h => Or.inr ⟨by omega, by omega, h, fun e => by omega⟩
  | x :: y :: l, n + 2, v, 0, w, hi, h => Or.inr ⟨by omega, by omega, h, fun e => by omega⟩
  | x :: y :: l, n + 2, v, j + 1, w, hi, h => by
      rcases lst2_get (y :: l) (n + 1) v j w (by simp at hi ⊢; omega) h with ⟨h1, h2⟩ | ⟨h1, h2, h3, h4⟩
      · exact Or.inl ⟨by omega, h2⟩
      · exact Or.inr ⟨by omega, by omega, h3, fun e => h4 (by omega)⟩
theorem LRL.st1 {f : Nat → Nat} {ls : LT} {nL : Nat} {lsR lsR' : Array Slot} {i : Nat} {v : Value} (h : LRL f ls nL lsR) (hi : i < nL) (h' : lv_has lsR' nL ((i, svl f v) :: (asc f ls).filter (fun q => !(q.1 == i) && !(q.1 + 1 == i && q.2.category == 2)))) : LRL f (lst1 ls i v) nL lsR' := by
  refine ⟨(lst1_len _ _ _).trans h.1, h'.1, h'.2.1, fun j w hw => ?_⟩
  rcases lst1_get ls i v j w (by rw [h.1]; exact hi) hw with ⟨rfl, rfl⟩ | ⟨h1, h2, h3⟩
  · exact h'.2.2 _ List.mem_cons_self
  · refine h'.2.2 (j, svl f w) (List.mem_cons_of_mem _ (List.mem_filter.mpr ⟨asc_mem h2, ?_⟩))
    by_cases e : j + 1 = i
    · have h4 := h3 e
      simp [h1, svl_cat, h4]
    · simp [h1, e]
theorem LRL.st2 {f : Nat → Nat} {ls : LT} {nL : Nat} {lsR lsR' : Array Slot} {i : Nat} {v : Int64} (h : LRL f ls nL lsR) (hi : i + 1 < nL) (h' : lv_has lsR' nL ((i, .long v) :: (asc f ls).filter (fun q => !(q.1 == i) && (!(q.1 == i + 1) && !(q.1 + 1 == i && q.2.category == 2))))) : LRL f (lst2 ls i v) nL lsR' := by
  refine ⟨(lst2_len _ _ _).trans h.1, h'.1, h'.2.1, fun j w hw => ?_⟩
  rcases lst2_get ls i v j w (by rw [h.1]; exact hi) hw with ⟨rfl, rfl⟩ | ⟨h1, h2, h3, h4⟩
  · exact h'.2.2 _ List.mem_cons_self
  · refine h'.2.2 (j, svl f w) (List.mem_cons_of_mem _ (List.mem_filter.mpr ⟨asc_mem h3, ?_⟩))
    by_cases e : j + 1 = i
    · have h5 := h4 e
      simp [h1, h2, svl_cat, h5]
    · simp [h1, h2, e]
