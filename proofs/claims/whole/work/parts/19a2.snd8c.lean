/-! ===== length() and charAt() of the constants' texts: the JDK's own code, walked ===== -/
def PcS (ao : Nat → Nat) (HL : Heap) (D : va_G) (cA : Nat → ClassId) (L : Nat) (xs : Nat → Int32) (av : List Value) : Array Value → State → Prop := fun v U => v = av.toArray ∧ (∀ q, q < HL.size → U.heap[q]? = HL[q]?) ∧ ST ao HL D cA L xs U
def QcS (r : Option Value) : Array Value → State → Outcome → State → Prop := fun _ st o t => o = .returned r ∧ t.heap = st.heap
def rmS (d mc ms : Nat) : Room := { frames := d, cells := mc, slots := ms, locals := 60 * d }
def yLen : MethodName := ⟨"java/lang/String", "length", "()I"⟩
def yCod : MethodName := ⟨"java/lang/String", "coder", "()B"⟩
def yChr : MethodName := ⟨"java/lang/String", "charAt", "(I)C"⟩
def yLat : MethodName := ⟨"java/lang/String", "isLatin1", "()Z"⟩
def yLch : MethodName := ⟨"java/lang/StringLatin1", "charAt", "([BI)C"⟩
def yChk : MethodName := ⟨"java/lang/String", "checkIndex", "(II)V"⟩
def yPre : MethodName := ⟨"jdk/internal/util/Preconditions", "checkIndex", "(IILjava/util/function/BiFunction;)I"⟩
section Str
variable {l : Launch} {ao : Nat → Nat} {HL : Heap} {D : va_G} {cA : Nat → ClassId} {L : Nat} {xs : Nat → Int32}
variable {p : Program} {e : Env} {R : Room} {s : State} {m : MethodId} {args : Array Value} {below : List Frame} {meth : Method} {c : Code} {Z : State → Prop} {H : Heap} {locs : List Loc} {cells slots : Nat} {rest : List Value}
theorem blindS {av : List Value} : FrameBlind (PcS ao HL D cA L xs av) := fun a U g mk q => ⟨q.1, q.2.1, ST.warm (s := U) (U := U.calling g mk a) (State.WarmedH.refl U) q.2.2⟩
theorem x_runP {g : JFrame} {ax : Array Value} {r : Option Value} (run : va_Run p l e R s m args below meth c H locs cells slots 0 0 g rest (QcS r ax) (fun _ => False)) (kk : W p l e R s m args below meth c H locs cells slots Z { g with pc := g.pc + 3, stack := r.toList ++ rest }) : W p l e R s m args below meth c H locs cells slots Z g := by
  intro T hT Xs
  obtain ⟨v, st₀, t, T', L', h0, X', hL, e1, e2, ⟨hv, hh⟩, stp'⟩ := run T hT Xs
  cases hv
  have hL0 : L' = [] := by
    cases L' with
    | nil => rfl
    | cons a b => exact (hL a List.mem_cons_self).elim
  subst hL0
  rw [List.append_nil] at X'
  obtain ⟨t2, a1, b1⟩ := kk T' (by rw [e1, hh]; exact h0) X'
  exact ⟨t2, stp' t2 a1, b1⟩
theorem cbS (hS : ST ao HL D cA L xs s) {y : MethodName} {bytes : ByteArray} {ml n d : Nat} {ret : Option FieldType} (hin : Cond.code y bytes ml ret ∈ lw_tbl) (hini : (Cond.initialized y.cls).before args s = true) (hml : ml ≤ 41) (hd : (y.cls ≠ "java/lang/invoke/MethodHandle" ∧ y.cls ≠ "java/lang/invoke/VarHandle") ∧ (parseMethodDescriptor y.desc).map (fun d => d.parameters.length) = some n) (hRf : d + 1 ≤ R.frames) (hRl : 60 * (d + 1) ≤ R.locals) {own : String} {ix : Nat} (hl : (Cond.methodLink own ix y).before args s = true) : CallB R s args own ix y bytes ml ret [.code y bytes ml ret] (rmS d 0 0) 0 0 n := by
  refine ⟨rfl, rfl, hRf, ?_, fun w hw a' U hW => ?_, List.mem_cons_self, hS.2.1 _ hin rfl args, hini, hd.1, fun sig h => ?_, hl⟩
  · show 8 + (ml + 11) + 60 * d ≤ R.locals
    omega
  · rw [List.mem_singleton.mp hw]
    exact (hS.2.1.warm hW) _ hin rfl a'
  · have h2 := hd.2
    rw [h] at h2
    exact (Option.some.inj h2).symm
set_option maxRecDepth 100000 in
theorem sc_preN {i n : Int32} (h0 : ¬ i < 0) (h1 : i < n) (d : Nat) : Met l yPre [.code yPre prog_19_method_11_code 3 (some .int)] (rmS (d + 1) 0 0) (PcS ao HL D cA L xs [.int i, .int n, .null]) (QcS (some (.int i))) 0 0 (fun _ => False) := by
  refine Met.ofW (cc := prog_19_method_11_code) (maxL := 3) (ret := (some .int)) (by decide) rfl ?_
  intro p e s m args below meth c s₁ B hml hpc
  obtain ⟨rfl, hH, hS⟩ := hpc
  have hx := B.exec
  have hb := B.bytes
  have hr := B.returns
  have hlocks := B.notSynchronized
  have hown := findClass_of_methodNamed B.named
  have hl := lv_entry [.int i, .int n, .null] (n := 3) (Nat.le_of_ble_eq_true rfl)
  rw [lg_entry_eq]
  generalize (lg_sl ([.int i, .int n, .null] : List Value) ++ List.replicate (3 - (lg_sl ([.int i, .int n, .null] : List Value)).length) Slot.unset).toArray = ls at hl ⊢
  refine lv_iload_n hx hb (show decode prog_19_method_11_code 0 = .ok (.iload_n 0, 1) by decide +kernel) rfl (lv_at hl 0 rfl) ?_
  refine lv_if_lt (tgt := 9) hx hb (show decode prog_19_method_11_code 1 = .ok (.ifCond .lt 8, 3) by decide +kernel) (by decide) (fun z => absurd z h0) (fun _ => ?_)
  refine lv_iload_n hx hb (show decode prog_19_method_11_code 4 = .ok (.iload_n 0, 1) by decide +kernel) rfl (lv_at hl 0 rfl) ?_
  refine lv_iload_n hx hb (show decode prog_19_method_11_code 5 = .ok (.iload_n 1, 1) by decide +kernel) rfl (lv_at hl 1 rfl) ?_
  refine lv_icmp_lt (tgt := 16) hx hb (show decode prog_19_method_11_code 6 = .ok (.if_icmp .lt 10, 3) by decide +kernel) (by decide) (fun _ => ?_) (fun z => absurd h1 z)
  refine lv_iload_n hx hb (show decode prog_19_method_11_code 16 = .ok (.iload_n 0, 1) by decide +kernel) rfl (lv_at hl 0 rfl) ?_
  exact W.iret hx hb hr (fun t ht _ => ⟨rfl, ht⟩) (fun q hq => by cases hq) (show decode prog_19_method_11_code 17 = .ok (.ireturn, 1) by decide +kernel) hlocks
set_option maxRecDepth 100000 in
theorem sc_preR {q : Nat} {i n : Int32} (h0 : ¬ i < 0) (h1 : i < n) (d : Nat) : Met l yPre [.code yPre prog_19_method_11_code 3 (some .int)] (rmS (d + 1) 0 0) (PcS ao HL D cA L xs [.int i, .int n, .ref q]) (QcS (some (.int i))) 0 0 (fun _ => False) := by
  refine Met.ofW (cc := prog_19_method_11_code) (maxL := 3) (ret := (some .int)) (by decide) rfl ?_
  intro p e s m args below meth c s₁ B hml hpc
  obtain ⟨rfl, hH, hS⟩ := hpc
  have hx := B.exec
  have hb := B.bytes
  have hr := B.returns
  have hlocks := B.notSynchronized
  have hown := findClass_of_methodNamed B.named
  have hl := lv_entry [.int i, .int n, .ref q] (n := 3) (Nat.le_of_ble_eq_true rfl)
  rw [lg_entry_eq]
  generalize (lg_sl ([.int i, .int n, .ref q] : List Value) ++ List.replicate (3 - (lg_sl ([.int i, .int n, .ref q] : List Value)).length) Slot.unset).toArray = ls at hl ⊢
  refine lv_iload_n hx hb (show decode prog_19_method_11_code 0 = .ok (.iload_n 0, 1) by decide +kernel) rfl (lv_at hl 0 rfl) ?_
  refine lv_if_lt (tgt := 9) hx hb (show decode prog_19_method_11_code 1 = .ok (.ifCond .lt 8, 3) by decide +kernel) (by decide) (fun z => absurd z h0) (fun _ => ?_)
  refine lv_iload_n hx hb (show decode prog_19_method_11_code 4 = .ok (.iload_n 0, 1) by decide +kernel) rfl (lv_at hl 0 rfl) ?_
  refine lv_iload_n hx hb (show decode prog_19_method_11_code 5 = .ok (.iload_n 1, 1) by decide +kernel) rfl (lv_at hl 1 rfl) ?_
  refine lv_icmp_lt (tgt := 16) hx hb (show decode prog_19_method_11_code 6 = .ok (.if_icmp .lt 10, 3) by decide +kernel) (by decide) (fun _ => ?_) (fun z => absurd h1 z)
  refine lv_iload_n hx hb (show decode prog_19_method_11_code 16 = .ok (.iload_n 0, 1) by decide +kernel) rfl (lv_at hl 0 rfl) ?_
  exact W.iret hx hb hr (fun t ht _ => ⟨rfl, ht⟩) (fun q hq => by cases hq) (show decode prog_19_method_11_code 17 = .ok (.ireturn, 1) by decide +kernel) hlocks
set_option maxRecDepth 100000 in
theorem sc_chk {i n : Int32} (h0 : ¬ i < 0) (h1 : i < n) (d : Nat) : Met l yChk [.code yChk prog_14_method_155_code 2 none] (rmS (d + 2) 0 0) (PcS ao HL D cA L xs [.int i, .int n]) (QcS none) 0 0 (fun _ => False) := by
  refine Met.ofW (cc := prog_14_method_155_code) (maxL := 2) (ret := none) (by decide) rfl ?_
  intro p e s m args below meth c s₁ B hml hpc
  obtain ⟨rfl, hH, hS⟩ := hpc
  have hx := B.exec
  have hb := B.bytes
  have hr := B.returns
  have hlocks := B.notSynchronized
  have hown := findClass_of_methodNamed B.named
  have hl := lv_entry [.int i, .int n] (n := 2) (Nat.le_of_ble_eq_true rfl)
  rw [lg_entry_eq]
  generalize (lg_sl ([.int i, .int n] : List Value) ++ List.replicate (2 - (lg_sl ([.int i, .int n] : List Value)).length) Slot.unset).toArray = ls at hl ⊢
  have hZ : va_Zq "jdk/internal/util/Preconditions" "SIOOBE_FORMATTER" "Ljava/util/function/BiFunction;" (fun q => HL.size ≤ q) s s.heap := va_Zq.kept hS.2.2.2.2.2.2.2.2 (fun a h _ => hH a h)
  refine lv_iload_n hx hb (show decode prog_14_method_155_code 0 = .ok (.iload_n 0, 1) by decide +kernel) rfl (lv_at hl 0 rfl) ?_
  refine lv_iload_n hx hb (show decode prog_14_method_155_code 1 = .ok (.iload_n 1, 1) by decide +kernel) rfl (lv_at hl 1 rfl) ?_
  rcases hZ with hZ | ⟨q, hZ⟩
  · refine va_gets hx hb hZ va_S.rf hown (hS.2.1 _ (tin3 (List.mem_of_getElem? (i := 117) rfl)) rfl _) (fun _ h => h) (show decode prog_14_method_155_code 2 = .ok (.getstatic 1053, 3) by decide +kernel) ?_
    refine x_runP (va_runS (As := [.int i, .int n, .null]) (rest := []) (Ts := []) ⟨hx, hb, hml, hown, fun w hw => by cases hw⟩ (sc_preN h0 h1 d) ⟨cbS (n := 3) hS (tin3 (List.mem_of_getElem? (i := 121) rfl)) (hS.2.1 _ (tin1 (List.mem_of_getElem? (i := 15) rfl)) rfl _) (by decide) (by decide +kernel) (Nat.le_refl _) (Nat.le_refl _) (hS.2.1 _ (tin3 (List.mem_of_getElem? (i := 119) rfl)) rfl _), (hS.2.1 _ (tin3 (List.mem_of_getElem? (i := 120) rfl)) rfl _)⟩ ⟨blindS, fun U hU hW => ⟨rfl, fun q hq => by rw [hU]; exact hH q hq, hS.warm hW⟩⟩ rfl rfl hl.1 rfl (lv_room (Nat.le_of_ble_eq_true rfl)) (show decode prog_14_method_155_code 5 = .ok (.invokestatic 1059, 3) by decide +kernel) ⟨Nat.zero_le _, Nat.zero_le _⟩) ?_
    refine lv_pop hx hb (show decode prog_14_method_155_code 8 = .ok (.pop, 1) by decide +kernel) rfl ?_
    exact W.vret hx hb hr (fun t ht _ => ⟨rfl, ht⟩) (fun q hq => by cases hq) (show decode prog_14_method_155_code 9 = .ok (.return_, 1) by decide +kernel) hlocks
  · refine va_gets hx hb hZ va_S.rf hown (hS.2.1 _ (tin3 (List.mem_of_getElem? (i := 117) rfl)) rfl _) (fun _ h => h) (show decode prog_14_method_155_code 2 = .ok (.getstatic 1053, 3) by decide +kernel) ?_
    refine x_runP (va_runS (As := [.int i, .int n, .ref q]) (rest := []) (Ts := []) ⟨hx, hb, hml, hown, fun w hw => by cases hw⟩ (sc_preR h0 h1 d) ⟨cbS (n := 3) hS (tin3 (List.mem_of_getElem? (i := 121) rfl)) (hS.2.1 _ (tin1 (List.mem_of_getElem? (i := 15) rfl)) rfl _) (by decide) (by decide +kernel) (Nat.le_refl _) (Nat.le_refl _) (hS.2.1 _ (tin3 (List.mem_of_getElem? (i := 119) rfl)) rfl _), (hS.2.1 _ (tin3 (List.mem_of_getElem? (i := 120) rfl)) rfl _)⟩ ⟨blindS, fun U hU hW => ⟨rfl, fun q hq => by rw [hU]; exact hH q hq, hS.warm hW⟩⟩ rfl rfl hl.1 rfl (lv_room (Nat.le_of_ble_eq_true rfl)) (show decode prog_14_method_155_code 5 = .ok (.invokestatic 1059, 3) by decide +kernel) ⟨Nat.zero_le _, Nat.zero_le _⟩) ?_
    refine lv_pop hx hb (show decode prog_14_method_155_code 8 = .ok (.pop, 1) by decide +kernel) rfl ?_
    exact W.vret hx hb hr (fun t ht _ => ⟨rfl, ht⟩) (fun q hq => by cases hq) (show decode prog_14_method_155_code 9 = .ok (.return_, 1) by decide +kernel) hlocks
set_option maxRecDepth 100000 in
theorem sc_cod {k : Nat} (hk : k < 22) (d : Nat) : Met l yCod [.code yCod prog_14_method_152_code 1 (some .byte)] (rmS (d + 1) 0 0) (PcS ao HL D cA L xs [.ref (ao (k + 2))]) (QcS (some (.int 0))) 0 0 (fun _ => False) := by
  refine Met.ofW (cc := prog_14_method_152_code) (maxL := 1) (ret := (some .byte)) (by decide) rfl ?_
  intro p e s m args below meth c s₁ B hml hpc
  obtain ⟨rfl, hH, hS⟩ := hpc
  have hx := B.exec
  have hb := B.bytes
  have hr := B.returns
  have hlocks := B.notSynchronized
  have hown := findClass_of_methodNamed B.named
  have hl := lv_entry [.ref (ao (k + 2))] (n := 1) (Nat.le_of_ble_eq_true rfl)
  rw [lg_entry_eq]
  generalize (lg_sl ([.ref (ao (k + 2))] : List Value) ++ List.replicate (1 - (lg_sl ([.ref (ao (k + 2))] : List Value)).length) Slot.unset).toArray = ls at hl ⊢
  have hV0 := hS.2.2.2.2.2.1
  have hq : ∀ a, a < HL.size → ¬ (fun q => HL.size ≤ q) a → s.heap[a]? = HL[a]? := fun a h _ => hH a h
  have hV := hV0.kept hq
  have hC : va_Z "java/lang/String" "COMPACT_STRINGS" "Z" (.int 1) (fun q => HL.size ≤ q) s s.heap := va_Z.kept hS.2.2.2.2.2.2.2.1 (fun a h _ => hH a h)
  refine va_gets hx hb hC va_S.rf hown (hS.2.1 _ (tin3 (List.mem_of_getElem? (i := 101) rfl)) rfl _) (fun _ h => h) (show decode prog_14_method_152_code 0 = .ok (.getstatic 38, 3) by decide +kernel) ?_
  refine lv_if_eq (tgt := 13) hx hb (show decode prog_14_method_152_code 3 = .ok (.ifCond .eq 10, 3) by decide +kernel) (by decide) (fun z => absurd z (by decide)) (fun _ => ?_)
  refine lv_aload_n hx hb (show decode prog_14_method_152_code 6 = .ok (.aload_n 0, 1) by decide +kernel) rfl (lv_at hl 0 rfl) ?_
  refine vk_getf hx hb (hV.1 k hk).2.1 va_S.rf hown (hS.2.1 _ (tin7 (List.mem_of_getElem? (i := 175) rfl)) rfl _) (fun _ h => h) (show decode prog_14_method_152_code 7 = .ok (.getfield 15, 3) by decide +kernel) ?_
  refine lv_goto (tgt := 14) hx hb (show decode prog_14_method_152_code 10 = .ok (.goto 4, 3) by decide +kernel) (by decide) ?_
  exact W.zret hx hb hr rfl (fun t ht _ => ⟨rfl, ht⟩) (fun q hq => by cases hq) (show decode prog_14_method_152_code 14 = .ok (.ireturn, 1) by decide +kernel) hlocks
set_option maxRecDepth 100000 in
theorem sc_lat {k : Nat} (hk : k < 22) (d : Nat) : Met l yLat [.code yLat prog_14_method_154_code 1 (some .boolean)] (rmS (d + 1) 0 0) (PcS ao HL D cA L xs [.ref (ao (k + 2))]) (QcS (some (.int 1))) 0 0 (fun _ => False) := by
  refine Met.ofW (cc := prog_14_method_154_code) (maxL := 1) (ret := (some .boolean)) (by decide) rfl ?_
  intro p e s m args below meth c s₁ B hml hpc
  obtain ⟨rfl, hH, hS⟩ := hpc
  have hx := B.exec
  have hb := B.bytes
  have hr := B.returns
  have hlocks := B.notSynchronized
  have hown := findClass_of_methodNamed B.named
  have hl := lv_entry [.ref (ao (k + 2))] (n := 1) (Nat.le_of_ble_eq_true rfl)
  rw [lg_entry_eq]
  generalize (lg_sl ([.ref (ao (k + 2))] : List Value) ++ List.replicate (1 - (lg_sl ([.ref (ao (k + 2))] : List Value)).length) Slot.unset).toArray = ls at hl ⊢
  have hV0 := hS.2.2.2.2.2.1
  have hq : ∀ a, a < HL.size → ¬ (fun q => HL.size ≤ q) a → s.heap[a]? = HL[a]? := fun a h _ => hH a h
  have hV := hV0.kept hq
  have hC : va_Z "java/lang/String" "COMPACT_STRINGS" "Z" (.int 1) (fun q => HL.size ≤ q) s s.heap := va_Z.kept hS.2.2.2.2.2.2.2.1 (fun a h _ => hH a h)
  refine va_gets hx hb hC va_S.rf hown (hS.2.1 _ (tin3 (List.mem_of_getElem? (i := 101) rfl)) rfl _) (fun _ h => h) (show decode prog_14_method_154_code 0 = .ok (.getstatic 38, 3) by decide +kernel) ?_
  refine lv_if_eq (tgt := 17) hx hb (show decode prog_14_method_154_code 3 = .ok (.ifCond .eq 14, 3) by decide +kernel) (by decide) (fun z => absurd z (by decide)) (fun _ => ?_)
  refine lv_aload_n hx hb (show decode prog_14_method_154_code 6 = .ok (.aload_n 0, 1) by decide +kernel) rfl (lv_at hl 0 rfl) ?_
  refine vk_getf hx hb (hV.1 k hk).2.1 va_S.rf hown (hS.2.1 _ (tin7 (List.mem_of_getElem? (i := 175) rfl)) rfl _) (fun _ h => h) (show decode prog_14_method_154_code 7 = .ok (.getfield 15, 3) by decide +kernel) ?_
  refine lv_if_ne (tgt := 17) hx hb (show decode prog_14_method_154_code 10 = .ok (.ifCond .ne 7, 3) by decide +kernel) (by decide) (fun z => absurd rfl z) (fun _ => ?_)
  refine lv_iconst (v := 1) hx hb (show decode prog_14_method_154_code 13 = .ok (.iconst 1, 1) by decide +kernel) (by decide) ?_
  refine lv_goto (tgt := 18) hx hb (show decode prog_14_method_154_code 14 = .ok (.goto 4, 3) by decide +kernel) (by decide) ?_
  exact W.zret hx hb hr rfl (fun t ht _ => ⟨rfl, ht⟩) (fun q hq => by cases hq) (show decode prog_14_method_154_code 18 = .ok (.ireturn, 1) by decide +kernel) hlocks
theorem slen_e {k : Nat} (hk : k < 22) : ((List.range 22).map fun i => (sbt i).length).getD k 0 = (sbt k).length := by
  simp [List.getD_eq_getElem?_getD, hk]
theorem sbyt_e {k : Nat} (hk : k < 22) : ((List.range 22).map sbt).getD k [] = sbt k := by
  simp [List.getD_eq_getElem?_getD, hk]
set_option maxRecDepth 100000 in
theorem sc_len {k : Nat} (hk : k < 22) (d : Nat) : Met l yLen [.code yLen prog_14_method_54_code 1 (some .int)] (rmS (d + 2) 0 0) (PcS ao HL D cA L xs [.ref (ao (k + 2))]) (QcS (some (.int (nI (sbt k).length)))) 0 0 (fun _ => False) := by
  refine Met.ofW (cc := prog_14_method_54_code) (maxL := 1) (ret := (some .int)) (by decide) rfl ?_
  intro p e s m args below meth c s₁ B hml hpc
  obtain ⟨rfl, hH, hS⟩ := hpc
  have hx := B.exec
  have hb := B.bytes
  have hr := B.returns
  have hlocks := B.notSynchronized
  have hown := findClass_of_methodNamed B.named
  have hl := lv_entry [.ref (ao (k + 2))] (n := 1) (Nat.le_of_ble_eq_true rfl)
  rw [lg_entry_eq]
  generalize (lg_sl ([.ref (ao (k + 2))] : List Value) ++ List.replicate (1 - (lg_sl ([.ref (ao (k + 2))] : List Value)).length) Slot.unset).toArray = ls at hl ⊢
  have hV0 := hS.2.2.2.2.2.1
  have hq : ∀ a, a < HL.size → ¬ (fun q => HL.size ≤ q) a → s.heap[a]? = HL[a]? := fun a h _ => hH a h
  have hV := hV0.kept hq
  refine lv_aload_n hx hb (show decode prog_14_method_54_code 0 = .ok (.aload_n 0, 1) by decide +kernel) rfl (lv_at hl 0 rfl) ?_
  refine vk_getf hx hb (hV.1 k hk).2.2.1 va_S.rf hown (hS.2.1 _ (tin7 (List.mem_of_getElem? (i := 174) rfl)) rfl _) (fun _ h => h) (show decode prog_14_method_54_code 1 = .ok (.getfield 9, 3) by decide +kernel) ?_
  obtain ⟨cell, t1, t2, t3, t4, t5, t6, -⟩ := (hV.1 k hk).2.2.2
  rw [slen_e hk] at t5
  refine W.alen (g := F0 m 4 ls [.ref (ao (k + 100))]) (n := nI (sbt k).length) hx hb t1 t2 t5 rfl rfl (show decode prog_14_method_54_code 4 = .ok (.arraylength, 1) by decide +kernel) ?_
  refine lv_aload_n (pc := 5) hx hb (show decode prog_14_method_54_code 5 = .ok (.aload_n 0, 1) by decide +kernel) rfl (lv_at hl 0 rfl) ?_
  refine x_runP (va_runV (b := ao (k + 2)) (C := "java/lang/String") (As := []) (rest := [.int (nI (sbt k).length)]) (Ts := []) ⟨hx, hb, hml, hown, fun w hw => by cases hw⟩ (sc_cod hk d) ⟨cbS (n := 0) hS (tin3 (List.mem_of_getElem? (i := 100) rfl)) (hS.2.1 _ (tin1 (List.mem_of_getElem? (i := 13) rfl)) rfl _) (by decide) (by decide +kernel) (Nat.le_refl _) (Nat.le_refl _) (hS.2.1 _ (tin3 (List.mem_of_getElem? (i := 97) rfl)) rfl _), (hS.2.1 _ (tin3 (List.mem_of_getElem? (i := 98) rfl)) rfl _), (hS.2.1 _ (tin3 (List.mem_of_getElem? (i := 99) rfl)) rfl _)⟩ ⟨blindS, vk_recv (adK := fun i => ao (i + 2)) (i := k) hV hk va_S.rf, fun U hU hW => ⟨rfl, fun q hq => by rw [hU]; exact hH q hq, hS.warm hW⟩⟩ rfl rfl hl.1 rfl (lv_room (Nat.le_of_ble_eq_true rfl)) (show decode prog_14_method_54_code 6 = .ok (.invokevirtual 335, 3) by decide +kernel) ⟨Nat.zero_le _, Nat.zero_le _⟩) ?_
  refine lv_ishr (pc := 9) hx hb (show decode prog_14_method_54_code 9 = .ok (.ishr, 1) by decide +kernel) ?_
  rw [sb_shr0]
  exact W.iret hx hb hr (fun t ht _ => ⟨rfl, ht⟩) (fun q hq => by cases hq) (show decode prog_14_method_54_code 10 = .ok (.ireturn, 1) by decide +kernel) hlocks
theorem sbt_b : ∀ k, k < 22 → ∀ x ∈ sbt k, x &&& 255 = x ∧ (x.toUInt32 % 65536).toInt32 = x ∧ narrow .char (.int x) = .int x := by decide +kernel
set_option maxRecDepth 100000 in
theorem sc_lch {k : Nat} {i : Int32} (hk : k < 22) (hi : vp_in i (sbt k).length) (d : Nat) : Met l yLch [.code yLch prog_15_method_2_code 2 (some .char)] (rmS (d + 3) 0 0) (PcS ao HL D cA L xs [.ref (ao (k + 100)), .int i]) (QcS (some (.int ((sbt k).getD i.toNatClampNeg 0)))) 0 0 (fun _ => False) := by
  refine Met.ofW (cc := prog_15_method_2_code) (maxL := 2) (ret := (some .char)) (by decide) rfl ?_
  intro p e s m args below meth c s₁ B hml hpc
  obtain ⟨rfl, hH, hS⟩ := hpc
  have hx := B.exec
  have hb := B.bytes
  have hr := B.returns
  have hlocks := B.notSynchronized
  have hown := findClass_of_methodNamed B.named
  have hl := lv_entry [.ref (ao (k + 100)), .int i] (n := 2) (Nat.le_of_ble_eq_true rfl)
  rw [lg_entry_eq]
  generalize (lg_sl ([.ref (ao (k + 100)), .int i] : List Value) ++ List.replicate (2 - (lg_sl ([.ref (ao (k + 100)), .int i] : List Value)).length) Slot.unset).toArray = ls at hl ⊢
  have hT9 := (hS.2.2.2.2.2.1.1 k hk).2.2.2.kept (fun a h _ => hH a h)
  rw [slen_e hk, sbyt_e hk] at hT9
  obtain ⟨cell, t1, t2, t3, t4, t5, t6, -⟩ := hT9
  have hlt : i.toNatClampNeg < (sbt k).length := Nat.not_le.mp fun q => hi (Or.inr q)
  have h0 : ¬ i < 0 := fun q => hi (Or.inl q)
  have hlen9 : ∀ k, k < 22 → (sbt k).length < 20 := by decide +kernel
  have h9 := hlen9 k hk
  have h1 : i < nI (sbt k).length := by
    obtain ⟨j, hj, rfl⟩ := vp_in_of hi (by omega)
    exact nI_lt hj (by omega)
  have hmem : (sbt k).getD i.toNatClampNeg 0 ∈ sbt k := by
    rw [List.getD_eq_getElem?_getD, List.getElem?_eq_getElem hlt]
    exact List.getElem_mem _
  obtain ⟨x1, x2, x3⟩ := sbt_b k hk _ hmem
  refine lv_iload_n hx hb (show decode prog_15_method_2_code 0 = .ok (.iload_n 1, 1) by decide +kernel) rfl (lv_at hl 1 rfl) ?_
  refine lv_aload_n hx hb (show decode prog_15_method_2_code 1 = .ok (.aload_n 0, 1) by decide +kernel) rfl (lv_at hl 0 rfl) ?_
  refine W.alen (g := F0 m 2 ls [.ref (ao (k + 100)), .int i]) (n := nI (sbt k).length) hx hb t1 t2 t5 rfl rfl (show decode prog_15_method_2_code 2 = .ok (.arraylength, 1) by decide +kernel) ?_
  refine x_runP (g := F0 m 3 ls [.int (nI (sbt k).length), .int i]) (va_runS (As := [.int i, .int (nI (sbt k).length)]) (rest := []) (Ts := []) ⟨hx, hb, hml, hown, fun w hw => by cases hw⟩ (sc_chk h0 h1 d) ⟨cbS (n := 2) hS (tin3 (List.mem_of_getElem? (i := 116) rfl)) (hS.2.1 _ (tin1 (List.mem_of_getElem? (i := 13) rfl)) rfl _) (by decide) (by decide +kernel) (Nat.le_refl _) (Nat.le_refl _) (hS.2.1 _ (tin3 (List.mem_of_getElem? (i := 114) rfl)) rfl _), (hS.2.1 _ (tin3 (List.mem_of_getElem? (i := 115) rfl)) rfl _)⟩ ⟨blindS, fun U hU hW => ⟨rfl, fun q hq => by rw [hU]; exact hH q hq, hS.warm hW⟩⟩ rfl rfl hl.1 rfl (lv_room (Nat.le_of_ble_eq_true rfl)) (show decode prog_15_method_2_code 3 = .ok (.invokestatic 9, 3) by decide +kernel) ⟨Nat.zero_le _, Nat.zero_le _⟩) ?_
  refine lv_aload_n (pc := 6) hx hb (show decode prog_15_method_2_code 6 = .ok (.aload_n 0, 1) by decide +kernel) rfl (lv_at hl 0 rfl) ?_
  refine lv_iload_n hx hb (show decode prog_15_method_2_code 7 = .ok (.iload_n 1, 1) by decide +kernel) rfl (lv_at hl 1 rfl) ?_
  refine W.bald (g := F0 m 8 ls [.int i, .ref (ao (k + 100))]) (v := .int ((sbt k).getD i.toNatClampNeg 0)) hx hb t1 t2 t3 (fun z => hi (z.imp id (fun z => Nat.le_trans t4 z))) (t6 _ hlt) rfl rfl (show decode prog_15_method_2_code 8 = .ok (.baload, 1) by decide +kernel) ?_
  refine lv_sipush (pc := 9) (v := 255) hx hb (show decode prog_15_method_2_code 9 = .ok (.sipush 255, 3) by decide +kernel) (by decide) ?_
  refine lv_iand hx hb (show decode prog_15_method_2_code 12 = .ok (.iand, 1) by decide +kernel) ?_
  rw [x1]
  refine lv_i2c (v := (sbt k).getD i.toNatClampNeg 0) hx hb (show decode prog_15_method_2_code 13 = .ok (.i2c, 1) by decide +kernel) x2 ?_
  exact W.zret hx hb hr x3 (fun t ht _ => ⟨rfl, ht⟩) (fun q hq => by cases hq) (show decode prog_15_method_2_code 14 = .ok (.ireturn, 1) by decide +kernel) hlocks
set_option maxRecDepth 100000 in
theorem sc_chr {k : Nat} {i : Int32} (hk : k < 22) (hi : vp_in i (sbt k).length) (d : Nat) : Met l yChr [.code yChr prog_14_method_56_code 2 (some .char)] (rmS (d + 4) 0 0) (PcS ao HL D cA L xs [.ref (ao (k + 2)), .int i]) (QcS (some (.int ((sbt k).getD i.toNatClampNeg 0)))) 0 0 (fun _ => False) := by
  refine Met.ofW (cc := prog_14_method_56_code) (maxL := 2) (ret := (some .char)) (by decide) rfl ?_
  intro p e s m args below meth c s₁ B hml hpc
  obtain ⟨rfl, hH, hS⟩ := hpc
  have hx := B.exec
  have hb := B.bytes
  have hr := B.returns
  have hlocks := B.notSynchronized
  have hown := findClass_of_methodNamed B.named
  have hl := lv_entry [.ref (ao (k + 2)), .int i] (n := 2) (Nat.le_of_ble_eq_true rfl)
  rw [lg_entry_eq]
  generalize (lg_sl ([.ref (ao (k + 2)), .int i] : List Value) ++ List.replicate (2 - (lg_sl ([.ref (ao (k + 2)), .int i] : List Value)).length) Slot.unset).toArray = ls at hl ⊢
  have hlt : i.toNatClampNeg < (sbt k).length := Nat.not_le.mp fun q => hi (Or.inr q)
  have hmem : (sbt k).getD i.toNatClampNeg 0 ∈ sbt k := by
    rw [List.getD_eq_getElem?_getD, List.getElem?_eq_getElem hlt]
    exact List.getElem_mem _
  obtain ⟨x1, x2, x3⟩ := sbt_b k hk _ hmem
  have hV0 := hS.2.2.2.2.2.1
  have hq : ∀ a, a < HL.size → ¬ (fun q => HL.size ≤ q) a → s.heap[a]? = HL[a]? := fun a h _ => hH a h
  have hV := hV0.kept hq
  refine lv_aload_n hx hb (show decode prog_14_method_56_code 0 = .ok (.aload_n 0, 1) by decide +kernel) rfl (lv_at hl 0 rfl) ?_
  refine x_runP (va_runV (b := ao (k + 2)) (C := "java/lang/String") (As := []) (rest := []) (Ts := []) ⟨hx, hb, hml, hown, fun w hw => by cases hw⟩ (sc_lat hk (d + 2)) ⟨cbS (n := 0) hS (tin3 (List.mem_of_getElem? (i := 110) rfl)) (hS.2.1 _ (tin1 (List.mem_of_getElem? (i := 13) rfl)) rfl _) (by decide) (by decide +kernel) (Nat.le_refl _) (Nat.le_refl _) (hS.2.1 _ (tin3 (List.mem_of_getElem? (i := 107) rfl)) rfl _), (hS.2.1 _ (tin3 (List.mem_of_getElem? (i := 108) rfl)) rfl _), (hS.2.1 _ (tin3 (List.mem_of_getElem? (i := 109) rfl)) rfl _)⟩ ⟨blindS, vk_recv (adK := fun i => ao (i + 2)) (i := k) hV hk va_S.rf, fun U hU hW => ⟨rfl, fun q hq => by rw [hU]; exact hH q hq, hS.warm hW⟩⟩ rfl rfl hl.1 rfl (lv_room (Nat.le_of_ble_eq_true rfl)) (show decode prog_14_method_56_code 1 = .ok (.invokevirtual 492, 3) by decide +kernel) ⟨Nat.zero_le _, Nat.zero_le _⟩) ?_
  refine lv_if_eq (pc := 4) (tgt := 16) hx hb (show decode prog_14_method_56_code 4 = .ok (.ifCond .eq 12, 3) by decide +kernel) (by decide) (fun z => absurd z (by decide)) (fun _ => ?_)
  refine lv_aload_n hx hb (show decode prog_14_method_56_code 7 = .ok (.aload_n 0, 1) by decide +kernel) rfl (lv_at hl 0 rfl) ?_
  refine vk_getf hx hb (hV.1 k hk).2.2.1 va_S.rf hown (hS.2.1 _ (tin7 (List.mem_of_getElem? (i := 174) rfl)) rfl _) (fun _ h => h) (show decode prog_14_method_56_code 8 = .ok (.getfield 9, 3) by decide +kernel) ?_
  refine lv_iload_n hx hb (show decode prog_14_method_56_code 11 = .ok (.iload_n 1, 1) by decide +kernel) rfl (lv_at hl 1 rfl) ?_
  refine x_runP (va_runS (As := [.ref (ao (k + 100)), .int i]) (rest := []) (Ts := []) ⟨hx, hb, hml, hown, fun w hw => by cases hw⟩ (sc_lch hk hi d) ⟨cbS (n := 2) hS (tin3 (List.mem_of_getElem? (i := 113) rfl)) (hS.2.1 _ (tin1 (List.mem_of_getElem? (i := 14) rfl)) rfl _) (by decide) (by decide +kernel) (Nat.le_refl _) (Nat.le_refl _) (hS.2.1 _ (tin3 (List.mem_of_getElem? (i := 111) rfl)) rfl _), (hS.2.1 _ (tin3 (List.mem_of_getElem? (i := 112) rfl)) rfl _)⟩ ⟨blindS, fun U hU hW => ⟨rfl, fun q hq => by rw [hU]; exact hH q hq, hS.warm hW⟩⟩ rfl rfl hl.1 rfl (lv_room (Nat.le_of_ble_eq_true rfl)) (show decode prog_14_method_56_code 12 = .ok (.invokestatic 495, 3) by decide +kernel) ⟨Nat.zero_le _, Nat.zero_le _⟩) ?_
  exact W.zret (pc := 15) hx hb hr x3 (fun t ht _ => ⟨rfl, ht⟩) (fun q hq => by cases hq) (show decode prog_14_method_56_code 15 = .ok (.ireturn, 1) by decide +kernel) hlocks
end Str
