/-! ===== SOUNDNESS of the small machine over the real one ===== -/
def tk (b : Bool) (r : PI) : Option PI := if b = true then some r else none
theorem tk_some {b : Bool} {r r' : PI} (h : tk b r = some r') : b = true ∧ r = r' := by
  unfold tk at h
  split at h
  · rename_i hb; exact ⟨hb, Option.some.inj h⟩
  · cases h
def lk2 (l : List (Nat × Nat)) (a b : Nat) : Bool := l.any fun q => q.1 == a && q.2 == b
def lk3 {α : Type} (l : List (Nat × Nat × α)) (a b : Nat) : Option α := (l.find? fun q => q.1 == a && q.2.1 == b).map (·.2.2)
theorem lk2_mem {l : List (Nat × Nat)} {a b : Nat} (h : lk2 l a b = true) : (a, b) ∈ l := by
  obtain ⟨q, hq, e⟩ := List.any_eq_true.mp h
  obtain ⟨x, y⟩ := q
  simp only [Bool.and_eq_true, beq_iff_eq] at e
  obtain ⟨rfl, rfl⟩ := e
  exact hq
theorem lk3_mem {α : Type} {l : List (Nat × Nat × α)} {a b : Nat} {v : α} (h : lk3 l a b = some v) : (a, b, v) ∈ l := by
  unfold lk3 at h
  obtain ⟨q, hq, e⟩ := Option.map_eq_some_iff.mp h
  have h1 := List.mem_of_find?_eq_some hq
  have h2 := List.find?_some hq
  obtain ⟨x, y, z⟩ := q
  simp only [Bool.and_eq_true, beq_iff_eq] at h2 e
  obtain ⟨rfl, rfl⟩ := h2
  subst e
  exact h1
/-- kinds of fields: 0 int, 1 long, 2 reference -/
def ftyT (t : FieldType) : Nat := match t with
  | .long => 1
  | .object _ => 2
  | .array _ => 2
  | _ => 0
def vwN (ci : Nat) : Nat := (vwCl.getD ci ("", TX0, 0)).2.2
def tyT (ci k : Nat) : FieldType := match ci with
  | 0 => tyX0 k
  | 1 => tyX1 k
  | 2 => tyX2 k
  | 3 => tyX3 k
  | 4 => tyX4 k
  | 5 => tyX5 k
  | 6 => tyX6 k
  | 7 => tyX7 k
  | _ => tyX8 k
def fty (ci k : Nat) : Nat := ftyT (tyT ci k)
def cnum : ClassFile.Cond → Nat
  | .eq => 0
  | .ne => 1
  | .lt => 2
  | .ge => 3
  | .gt => 4
  | .le => 5
def mE (y : Nat) : MethodName × ByteArray × Nat × Option FieldType × Nat × Nat × Nat := mT.getD y (⟨"", "", ""⟩, code, 0, none, 0, 0, 0)
def mA (y : Nat) : Nat × Nat := match mtb[y]? with
  | some (_, _, mc, ms) => (mc, ms)
  | none => (0, 0)
/-- the row of a call -/
def crow (pc y : Nat) : PI := match (mE y).2.2.2.2.2.1, mA y with
  | 0, (0, 0) => (76, pc + 3, y, (mE y).2.2.2.2.2.2, 0, 0, [])
  | 0, (c, u) => (89, pc + 3, y, (mE y).2.2.2.2.2.2, 0, 0, [c, u])
  | _, (0, 0) => (86, pc + 3, y, (mE y).2.2.2.2.2.2, 0, 0, [(mE y).2.2.2.2.1])
  | _, (c, u) => (90, pc + 3, y, (mE y).2.2.2.2.2.2, 0, 0, [(mE y).2.2.2.2.1, c, u])
def trI (own nL : Nat) (ini : Bool) (rz pc : Nat) (i : Instr) (len : Nat) : Option PI := match i with
  | .iload a => tk (len == 2) (1, pc + 2, a, 0, 0, 0, [])
  | .iload_n k => tk (len == 1) (1, pc + 1, k.val, 0, 0, 0, [])
  | .aload a => tk (len == 2) (2, pc + 2, a, 0, 0, 0, [])
  | .aload_n k => tk (len == 1) (2, pc + 1, k.val, 0, 0, 0, [])
  | .lload a => tk (len == 2) (3, pc + 2, a, 0, 0, 0, [])
  | .lload_n k => tk (len == 1) (3, pc + 1, k.val, 0, 0, 0, [])
  | .istore a => tk (len == 2 && decide (a < nL)) (4, pc + 2, a, 0, 0, 0, [])
  | .istore_n k => tk (len == 1 && decide (k.val < nL)) (4, pc + 1, k.val, 0, 0, 0, [])
  | .astore a => tk (len == 2 && decide (a < nL)) (5, pc + 2, a, 0, 0, 0, [])
  | .astore_n k => tk (len == 1 && decide (k.val < nL)) (5, pc + 1, k.val, 0, 0, 0, [])
  | .lstore a => tk (len == 2 && decide (a + 1 < nL)) (6, pc + 2, a, 0, 0, 0, [])
  | .lstore_n k => tk (len == 1 && decide (k.val + 1 < nL)) (6, pc + 1, k.val, 0, 0, 0, [])
  | .iconst v => tk (len == 1) (7, pc + 1, 0, 0, Int32.ofInt v, 0, [])
  | .bipush v => tk (len == 2) (7, pc + 2, 0, 0, (Int8.ofInt v).toInt32, 0, [])
  | .sipush v => tk (len == 3) (7, pc + 3, 0, 0, (Int16.ofInt v).toInt32, 0, [])
  | .ldc ix => match lk3 iT own ix with
    | some v => tk (len == 2) (7, pc + 2, 0, 0, v, 0, [])
    | none => match lk3 qT own ix with
      | some a => tk (len == 2) (10, pc + 2, a, 0, 0, 0, [])
      | none => none
  | .ldc_w ix => match lk3 iT own ix with
    | some v => tk (len == 3) (7, pc + 3, 0, 0, v, 0, [])
    | none => none
  | .ldc2_w ix => match lk3 jT own ix with
    | some v => tk (len == 3) (8, pc + 3, 0, 0, 0, v, [])
    | none => none
  | .lconst n => tk (len == 1) (8, pc + 1, 0, 0, 0, Int64.ofNat n.val, [])
  | .aconst_null => tk (len == 1) (9, pc + 1, 0, 0, 0, 0, [])
  | .getstatic ix => tk (len == 3 && own == 7 && ix == 162) (10, pc + 3, 1, 0, 0, 0, [])
  | .iinc a n => tk (len == 3 && decide (a < nL)) (11, pc + 3, a, 0, Int32.ofInt n, 0, [])
  | .iadd => tk (len == 1) (12, pc + 1, 0, 0, 0, 0, [])
  | .isub => tk (len == 1) (13, pc + 1, 0, 0, 0, 0, [])
  | .imul => tk (len == 1) (14, pc + 1, 0, 0, 0, 0, [])
  | .idiv => tk (len == 1) (15, pc + 1, 0, 0, 0, 0, [])
  | .irem => tk (len == 1) (16, pc + 1, 0, 0, 0, 0, [])
  | .ineg => tk (len == 1) (17, pc + 1, 0, 0, 0, 0, [])
  | .ishl => tk (len == 1) (18, pc + 1, 0, 0, 0, 0, [])
  | .ishr => tk (len == 1) (19, pc + 1, 0, 0, 0, 0, [])
  | .iushr => tk (len == 1) (20, pc + 1, 0, 0, 0, 0, [])
  | .iand => tk (len == 1) (21, pc + 1, 0, 0, 0, 0, [])
  | .ior => tk (len == 1) (22, pc + 1, 0, 0, 0, 0, [])
  | .ixor => tk (len == 1) (23, pc + 1, 0, 0, 0, 0, [])
  | .ladd => tk (len == 1) (24, pc + 1, 0, 0, 0, 0, [])
  | .lsub => tk (len == 1) (25, pc + 1, 0, 0, 0, 0, [])
  | .lmul => tk (len == 1) (26, pc + 1, 0, 0, 0, 0, [])
  | .ldiv => tk (len == 1) (27, pc + 1, 0, 0, 0, 0, [])
  | .lrem => tk (len == 1) (28, pc + 1, 0, 0, 0, 0, [])
  | .lshl => tk (len == 1) (29, pc + 1, 0, 0, 0, 0, [])
  | .lshr => tk (len == 1) (30, pc + 1, 0, 0, 0, 0, [])
  | .land => tk (len == 1) (31, pc + 1, 0, 0, 0, 0, [])
  | .lor => tk (len == 1) (32, pc + 1, 0, 0, 0, 0, [])
  | .i2l => tk (len == 1) (33, pc + 1, 0, 0, 0, 0, [])
  | .l2i => tk (len == 1) (34, pc + 1, 0, 0, 0, 0, [])
  | .lcmp => tk (len == 1) (35, pc + 1, 0, 0, 0, 0, [])
  | .dup => tk (len == 1) (37, pc + 1, 0, 0, 0, 0, [])
  | .dup2 => tk (len == 1) (38, pc + 1, 0, 0, 0, 0, [])
  | .pop => tk (len == 1) (39, pc + 1, 0, 0, 0, 0, [])
  | .goto off => tk (len == 3 && decide (0 ≤ (pc : Int) + off)) (40, ((pc : Int) + off).toNat, 0, 0, 0, 0, [])
  | .if_icmp cnd off => tk (len == 3 && decide (0 ≤ (pc : Int) + off)) (41 + cnum cnd, pc + 3, ((pc : Int) + off).toNat, 0, 0, 0, [])
  | .ifCond cnd off => tk (len == 3 && decide (0 ≤ (pc : Int) + off)) (47 + cnum cnd, pc + 3, ((pc : Int) + off).toNat, 0, 0, 0, [])
  | .ifnonnull off => tk (len == 3 && decide (0 ≤ (pc : Int) + off)) (53, pc + 3, ((pc : Int) + off).toNat, 0, 0, 0, [])
  | .ifnull off => tk (len == 3 && decide (0 ≤ (pc : Int) + off)) (54, pc + 3, ((pc : Int) + off).toNat, 0, 0, 0, [])
  | .tableswitch dflt lo hi offs => tk (decide ((Int32.ofInt lo).toInt = lo) && decide (lo + offs.size = hi + 1) && decide (0 ≤ (pc : Int) + dflt) && offs.toList.all (fun o => decide (0 ≤ (pc : Int) + o))) (55, ((pc : Int) + dflt).toNat, 0, 0, Int32.ofInt lo, 0, offs.toList.map fun o => ((pc : Int) + o).toNat)
  | .getfield ix => match lk3 fT own ix with
    | some (ci, k, _) => tk (len == 3 && decide (ci < 9) && decide (k < vwN ci)) (56 + fty ci k, pc + 3, ci, k, 0, 0, [])
    | none => none
  | .putfield ix => match lk3 fT own ix with
    | some (ci, k, n) => tk (len == 3 && decide (ci < 9) && decide (k < vwN ci) && ((vwT ci k).2.2.2 == false || (ini && own == ci && n == 0)) && (decide (tyT ci k = .int) || decide (tyT ci k = .boolean) || decide (tyT ci k = .long) || fty ci k == 2)) (if tyT ci k = .boolean then 85 else 59 + fty ci k, pc + 3, ci, k, 0, 0, [])
    | none => none
  | .iaload => tk (len == 1) (62, pc + 1, 0, 0, 0, 0, [])
  | .baload => tk (len == 1) (63, pc + 1, 0, 0, 0, 0, [])
  | .laload => tk (len == 1) (64, pc + 1, 0, 0, 0, 0, [])
  | .aaload => tk (len == 1) (65, pc + 1, 0, 0, 0, 0, [])
  | .iastore => tk (len == 1) (66, pc + 1, 0, 0, 0, 0, [])
  | .bastore => tk (len == 1) (67, pc + 1, 0, 0, 0, 0, [])
  | .lastore => tk (len == 1) (68, pc + 1, 0, 0, 0, 0, [])
  | .aastore => tk (len == 1) (69, pc + 1, 0, 0, 0, 0, [])
  | .arraylength => tk (len == 1) (70, pc + 1, 0, 0, 0, 0, [])
  | .newarray .int => tk (len == 2) (71, pc + 2, 0, 0, 0, 0, [])
  | .newarray .long => tk (len == 2) (72, pc + 2, 0, 0, 0, 0, [])
  | .newarray .boolean => tk (len == 2) (73, pc + 2, 0, 0, 0, 0, [])
  | .anewarray ix => match lk3 kT own ix with
    | some ci => tk (len == 3 && (ci == 2 || ci == 3 || ci == 6)) (74, pc + 3, if ci = 2 then 23 else if ci = 3 then 24 else 25, 0, 0, 0, [])
    | none => none
  | .new ix => match lk3 kT own ix with
    | some ci => tk (len == 3 && decide (ci < 9)) (75, pc + 3, ci, vwN ci, 0, 0, [])
    | none => none
  | .invokestatic ix => match lk3 cT own ix with
    | some (y, _) => tk (len == 3 && decide (y < 257) && (mE y).2.2.2.2.2.1 == 0) (crow pc y)
    | none => tk (len == 3 && lk2 aT own ix) (78, pc + 3, 0, 0, 0, 0, [])
  | .invokevirtual ix => match lk3 cT own ix with
    | some (y, _) => tk (len == 3 && decide (y < 257) && (mE y).2.2.2.2.2.1 == 1) (crow pc y)
    | none => if own = 10 ∧ ix = 316 then tk (len == 3) (87, pc + 3, 0, 0, 0, 0, []) else if own = 5 ∧ ix = 45 then tk (len == 3) (79, pc + 3, 0, 0, 0, 0, []) else tk (len == 3 && own == 5 && ix == 50) (80, pc + 3, 0, 0, 0, 0, [])
  | .invokespecial ix => match lk3 cT own ix with
    | some (y, _) => tk (len == 3 && decide (y < 257) && (mE y).2.2.2.2.2.1 == 2) (crow pc y)
    | none => tk (len == 3 && lk2 bT own ix) (77, pc + 3, 0, 0, 0, 0, [])
  | .checkcast ix => tk (len == 3 && own == 10 && ix == 317) (88, pc + 3, 0, 0, 0, 0, [])
  | .ireturn => tk (len == 1 && (rz == 0 || rz == 1)) (81, pc + 1, rz, 0, 0, 0, [])
  | .lreturn => tk (len == 1 && rz == 2) (82, pc + 1, 0, 0, 0, 0, [])
  | .areturn => tk (len == 1 && rz == 3) (83, pc + 1, 0, 0, 0, 0, [])
  | .return_ => tk (len == 1 && rz == 4) (84, pc + 1, 0, 0, 0, 0, [])
  | _ => none
/-- kinds of answers -/
def rzT (r : Option FieldType) : Nat := match r with
  | some .int => 0
  | some .boolean => 1
  | some .long => 2
  | some (.object _) => 3
  | some (.array _) => 3
  | none => 4
  | _ => 9
def peq (r s : PI) : Bool := r.1 == s.1 && r.2.1 == s.2.1 && r.2.2.1 == s.2.2.1 && r.2.2.2.1 == s.2.2.2.1 && decide (r.2.2.2.2.1 = s.2.2.2.2.1) && decide (r.2.2.2.2.2.1 = s.2.2.2.2.2.1) && decide (r.2.2.2.2.2.2 = s.2.2.2.2.2.2)
theorem peq_eq {r s : PI} (h : peq r s = true) : r = s := by
  obtain ⟨r1, r2, r3, r4, r5, r6, r7⟩ := r
  obtain ⟨s1, s2, s3, s4, s5, s6, s7⟩ := s
  simp only [peq, Bool.and_eq_true, beq_iff_eq, decide_eq_true_eq] at h
  obtain ⟨⟨⟨⟨⟨⟨rfl, rfl⟩, rfl⟩, rfl⟩, rfl⟩, rfl⟩, rfl⟩ := h
  rfl
def chk (own : Nat) (cc : ByteArray) (nL : Nat) (ini : Bool) (rz : Nat) (l : List (Nat × PI)) : Bool := l.all fun q => match decode cc q.1 with
  | .ok (i, len) => match trI own nL ini rz q.1 i len with
    | some r => peq r q.2
    | none => false
  | _ => false
def RowOK (own : Nat) (cc : ByteArray) (nL : Nat) (ini : Bool) (rz : Nat) (pc : Nat) (r : PI) : Prop := ∃ i len, decode cc pc = .ok (i, len) ∧ trI own nL ini rz pc i len = some r
theorem rws_mem : ∀ {l : List (Nat × PI)} {pc : Nat} {r : PI}, rws l pc = some r → (pc, r) ∈ l
  | [], _, _, h => by cases h
  | q :: l, pc, r, h => by
    unfold rws at h
    split at h
    · rename_i e
      cases h
      subst e
      exact List.mem_cons_self
    · exact List.mem_cons_of_mem _ (rws_mem h)
theorem chk_ok {own : Nat} {cc : ByteArray} {nL : Nat} {ini : Bool} {rz : Nat} {l : List (Nat × PI)} (h : chk own cc nL ini rz l = true) {pc : Nat} {r : PI} (hr : rws l pc = some r) : RowOK own cc nL ini rz pc r := by
  have h1 := List.all_eq_true.mp h _ (rws_mem hr)
  dsimp only at h1
  split at h1
  · rename_i i len hd
    split at h1
    · rename_i r' hr'
      exact ⟨i, len, hd, by rw [hr', peq_eq h1]⟩
    · cases h1
  · cases h1
theorem chk_cut {own : Nat} {cc : ByteArray} {nL : Nat} {ini : Bool} {rz : Nat} {l : List (Nat × PI)} (n : Nat) (h1 : chk own cc nL ini rz (l.take n) = true) (h2 : chk own cc nL ini rz (l.drop n) = true) : chk own cc nL ini rz l = true := by
  have : chk own cc nL ini rz (l.take n ++ l.drop n) = true := by
    unfold chk at *
    rw [List.all_append, h1, h2]
    rfl
  rwa [List.take_append_drop] at this
