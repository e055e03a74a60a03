/-! ===== calls ===== -/
def AH (HL : Heap) : Addr → Prop := fun q => HL.size ≤ q
def PcM (ao : Nat → Nat) (HL : Heap) (D : va_G) (cA : Nat → ClassId) (L : Nat) (xs : Nat → Int32) (av : List Value) (h : MH) : Array Value → State → Prop := fun v U => v = (av.map (svl (adr ao HL.size))).toArray ∧ REP ao HL D cA L xs h U.heap ∧ ST ao HL D cA L xs U
def QcM (ao : Nat → Nat) (HL : Heap) (D : va_G) (cA : Nat → ClassId) (L : Nat) (xs : Nat → Int32) (c u : Nat) (P : RT) : Array Value → State → Outcome → State → Prop := fun _ _ o t => ∃ (r : Option Value) (h' : MH), o = .returned (r.map (svl (adr ao HL.size))) ∧ P r h' ∧ REP ao HL D cA L xs h' t.heap ∧ hcc h' = c ∧ hcu h' = u
def rmD (d mc ms : Nat) : Room := { frames := d + 6, cells := mc, slots := ms, locals := 60 * (d + 6) }
def cwd (y : Nat) : Cond := .code (mE y).1 (mE y).2.1 (mE y).2.2.1 (mE y).2.2.2.1
def MET (l : Launch) (ao : Nat → Nat) (HL : Heap) (D : va_G) (cA : Nat → ClassId) (L : Nat) (xs : Nat → Int32) (d y : Nat) (av : List Value) (h : MH) (P : RT) : Prop := Met l (mE y).1 [cwd y] (rmD d (mA y).1 (mA y).2) (PcM ao HL D cA L xs av h) (QcM ao HL D cA L xs (hcc h + (mA y).1) (hcu h + (mA y).2) P) (mA y).1 (mA y).2 (AH HL)
set_option maxRecDepth 100000 in
theorem mck1 : mT.all (fun e => decide (e.2.2.1 ≤ 41)) = true := by decide +kernel
set_option maxRecDepth 100000 in
theorem mck2 : mT.all (fun e => plainFor e.1) = true := by decide +kernel
set_option maxRecDepth 100000 in
theorem mck3 : mT.all (fun e => decide (e.1.cls ≠ "java/lang/invoke/MethodHandle" ∧ e.1.cls ≠ "java/lang/invoke/VarHandle")) = true := by decide +kernel
set_option maxRecDepth 100000 in
theorem mck4 : mT.all (fun e => decide ((parseMethodDescriptor e.1.desc).map (fun d => d.parameters.length) = some e.2.2.2.2.2.2)) = true := by decide +kernel
set_option maxRecDepth 100000 in
theorem mck5 : mT.all (fun e => decide (e.1.cls = onm e.2.2.2.2.1)) = true := by decide +kernel
set_option maxRecDepth 100000 in
theorem mck6 : mT.all (fun e => decide (e.2.2.2.2.1 ∈ oT)) = true := by decide +kernel
set_option maxRecDepth 100000 in
theorem mck7 : mT.all (fun e => (e.2.2.2.2.2.1 == 0 || decide (e.2.2.2.2.1 < 9))) = true := by decide +kernel
set_option maxRecDepth 100000 in
theorem mck8 : mT.all (fun e => (!(e.2.2.2.2.2.1 == 2) || (e.1.name == "<init>" && decide (e.2.2.2.1 = none)))) = true := by decide +kernel
set_option maxRecDepth 100000 in
theorem kck : (List.range 257).all (fun y => match (mE y).2.2.2.2.2.1 with
  | 0 => sT.contains y
  | 1 => nT.contains y && vT.contains y
  | _ => nT.contains y) = true := by decide +kernel
theorem mT_len : mT.length = 257 := by decide +kernel
theorem mE_in {y : Nat} (hy : y < 257) : mE y ∈ mT := by
  unfold mE
  rw [List.getD_eq_getElem?_getD, List.getElem?_eq_getElem (by rw [mT_len]; exact hy)]
  exact List.getElem_mem _
theorem mE_ck {y : Nat} (hy : y < 257) : ((mE y).2.2.1 ≤ 41 ∧ plainFor (mE y).1 = true) ∧ ((mE y).1.cls ≠ "java/lang/invoke/MethodHandle" ∧ (mE y).1.cls ≠ "java/lang/invoke/VarHandle") ∧ (parseMethodDescriptor (mE y).1.desc).map (fun d => d.parameters.length) = some (mE y).2.2.2.2.2.2 ∧ (mE y).1.cls = onm (mE y).2.2.2.2.1 ∧ (mE y).2.2.2.2.1 ∈ oT ∧ ((mE y).2.2.2.2.2.1 ≠ 0 → (mE y).2.2.2.2.1 < 9) ∧ ((mE y).2.2.2.2.2.1 = 2 → (mE y).1.name = "<init>" ∧ (mE y).2.2.2.1 = none) := by
  have h1 := List.all_eq_true.mp mck1 _ (mE_in hy)
  have h2 := List.all_eq_true.mp mck2 _ (mE_in hy)
  have h3 := List.all_eq_true.mp mck3 _ (mE_in hy)
  have h4 := List.all_eq_true.mp mck4 _ (mE_in hy)
  have h5 := List.all_eq_true.mp mck5 _ (mE_in hy)
  have h6 := List.all_eq_true.mp mck6 _ (mE_in hy)
  have h7 := List.all_eq_true.mp mck7 _ (mE_in hy)
  have h8 := List.all_eq_true.mp mck8 _ (mE_in hy)
  simp only [Bool.and_eq_true, decide_eq_true_eq, Bool.or_eq_true, Bool.not_eq_true', beq_iff_eq] at h1 h3 h4 h5 h6 h7 h8
  refine ⟨⟨h1, h2⟩, h3, h4, h5, h6, fun z => ?_, fun z => ?_⟩
  · rcases h7 with h7 | h7
    · exact absurd h7 z
    · exact h7
  · rcases h8 with h8 | h8
    · rw [z] at h8; exact absurd h8 (by decide)
    · exact h8
theorem k_0 {y : Nat} (hy : y < 257) (hk : (mE y).2.2.2.2.2.1 = 0) : y ∈ sT := by
  have h := List.all_eq_true.mp kck y (List.mem_range.mpr hy)
  rw [hk] at h
  exact List.contains_iff_mem.mp h
theorem k_1 {y : Nat} (hy : y < 257) (hk : (mE y).2.2.2.2.2.1 = 1) : y ∈ nT ∧ y ∈ vT := by
  have h := List.all_eq_true.mp kck y (List.mem_range.mpr hy)
  rw [hk] at h
  have h : (nT.contains y && vT.contains y) = true := h
  rw [Bool.and_eq_true] at h
  exact ⟨List.contains_iff_mem.mp h.1, List.contains_iff_mem.mp h.2⟩
theorem k_2 {y : Nat} (hy : y < 257) (hk : (mE y).2.2.2.2.2.1 = 2) : y ∈ nT := by
  have h := List.all_eq_true.mp kck y (List.mem_range.mpr hy)
  rw [hk] at h
  exact List.contains_iff_mem.mp h
theorem rm_le0 {z t r : Nat} (h : z ≤ 41) (h2 : t + 60 ≤ r) : 8 + (z + 11) + t ≤ r := by omega
theorem rm_le {z d r : Nat} (h : z ≤ 41) (h2 : 60 * (d + 7) ≤ r) : 8 + (z + 11) + 60 * (d + 6) ≤ r := rm_le0 h h2
theorem rm_4200 {t r : Nat} (h2 : t + 420 ≤ r) : 420 ≤ r := by omega
theorem rm_420 {d r : Nat} (h2 : 60 * (d + 7) ≤ r) : 420 ≤ r := rm_4200 (t := 60 * d) h2
section Calls
variable {p : Program} {l : Launch} {e : Env} {R : Room} {s : State} {m : MethodId} {args : Array Value} {below : List Frame} {meth : Method} {c : Code} {Z : State → Prop} {ao : Nat → Nat} {HL : Heap} {D : va_G} {cA : Nat → ClassId} {L : Nat} {xs : Nat → Int32} {c0 u0 nL : Nat} {lm : Nat × Nat}
variable {X : KT} {pc nx : Nat} {st : List Value} {ls : LT} {h : MH} {cc : ByteArray} {H : Heap} {locs : List Loc} {cells slots : Nat} {lsR : Array Slot} {rest : List Value}
theorem blindM {av : List Value} : FrameBlind (PcM ao HL D cA L xs av h) := fun a U g mk q => ⟨q.1, q.2.1, ST.warm (s := U) (U := U.calling g mk a) (State.WarmedH.refl U) q.2.2⟩
/-- behind a call -/
theorem x_run {g : JFrame} {ax : Array Value} {mc ms : Nat} {c' u' : Nat} {P : RT} (run : va_Run p l e R s m args below meth c H locs cells slots mc ms g rest (QcM ao HL D cA L xs c' u' P ax) (AH HL))
    (kk : ∀ (H' : Heap) (L' : List Loc) (r : Option Value) (h' : MH), (∀ q ∈ L', HL.size ≤ q.base) → REP ao HL D cA L xs h' H' → P r h' → hcc h' = c' → hcu h' = u' → W p l e R s m args below meth c H' (locs ++ L') (cells + mc) (slots + ms) Z { g with pc := g.pc + 3, stack := (r.map (svl (adr ao HL.size))).toList ++ rest }) : W p l e R s m args below meth c H locs cells slots Z g := by
  intro T hT Xs
  obtain ⟨v, st₀, t, T', L', h0, X', hL, e1, e2, ⟨r, h', hv, hP, hR, c1, c2⟩, stp'⟩ := run T hT Xs
  cases hv
  obtain ⟨t2, a1, b1⟩ := kk T'.heap L' r h' hL (by rw [e1]; exact hR) hP c1 c2 T' rfl X'
  exact ⟨t2, stp' t2 a1, b1⟩
theorem cwd_in {y : Nat} (hy : y < 257) : cwd y ∈ lw_tbl := mall _ (mE_in hy)
/-- what a call's frame asks of the caller's room and words -/
theorem x_cb (hS : ST ao HL D cA L xs s) {own ix y d n : Nat} (hf : lk3 cT own ix = some (y, n)) (hy : y < 257) (hRf : d + 7 ≤ R.frames) (hRl : 60 * (d + 7) ≤ R.locals) : ((rmD d (mA y).1 (mA y).2).cells = (mA y).1 ∧ (rmD d (mA y).1 (mA y).2).slots = (mA y).2 ∧ (rmD d (mA y).1 (mA y).2).frames + 1 ≤ R.frames ∧ 8 + ((mE y).2.2.1 + 11) + (rmD d (mA y).1 (mA y).2).locals ≤ R.locals ∧ (∀ w ∈ [cwd y], ∀ (a' : Array Value) (U : State), s.WarmedH U.vm → w.before a' U = true) ∧ cwd y ∈ [cwd y]) ∧
    (cwd y).before args s = true ∧ (Cond.initialized (mE y).1.cls).before args s = true ∧ ((mE y).1.cls ≠ "java/lang/invoke/MethodHandle" ∧ (mE y).1.cls ≠ "java/lang/invoke/VarHandle") ∧ (∀ sig, parseMethodDescriptor (mE y).1.desc = some sig → (mE y).2.2.2.2.2.2 = sig.parameters.length) := by
  obtain ⟨⟨k1, -⟩, k2, k3, k4, k5, -⟩ := mE_ck hy
  have hin := cwd_in hy
  refine ⟨⟨rfl, rfl, hRf, ?_, fun w hw a' U hW => ?_, List.mem_cons_self⟩, hS.2.1 _ hin rfl args, ?_, k2, fun sig hsig => ?_⟩
  · show 8 + ((mE y).2.2.1 + 11) + 60 * (d + 6) ≤ R.locals
    exact rm_le k1 hRl
  · rw [List.mem_singleton.mp hw]
    exact (hS.2.1.warm hW) _ hin rfl a'
  · rw [k4]
    have := inT_mem oT_ok k5
    exact hS.2.1 _ this.1 this.2 args
  · rw [hsig] at k3
    exact (Option.some.inj k3).symm
theorem x_callS (hx : p.tables.exec = Jvm.exec) (hb : c.code = cc) (hml : c.maxLocals = nL) (hls : lsR.size = nL) (hS : ST ao HL D cA L xs s) {own ix y d n : Nat} (hown : s.vm.findClass (onm own) = some m.cls) (hf : lk3 cT own ix = some (y, n)) (hy : y < 257) (hkd : (mE y).2.2.2.2.2.1 = 0) {av : List Value} {P : RT} (hM : MET l ao HL D cA L xs d y av h P) (r : REP ao HL D cA L xs h H) (hlen : av.length = (mE y).2.2.2.2.2.2) (hrm : (rest.map fun v => v.category).sum ≤ 8) (hRf : d + 7 ≤ R.frames) (hRl : 60 * (d + 7) ≤ R.locals) (hc : cells + (mA y).1 ≤ R.cells) (hs : slots + (mA y).2 ≤ R.slots) (hdg : decode cc pc = .ok (.invokestatic ix, 3))
    (kk : ∀ (H' : Heap) (L' : List Loc) (r : Option Value) (h' : MH), (∀ q ∈ L', HL.size ≤ q.base) → REP ao HL D cA L xs h' H' → P r h' → hcc h' = hcc h + (mA y).1 → hcu h' = hcu h + (mA y).2 → W p l e R s m args below meth c H' (locs ++ L') (cells + (mA y).1) (slots + (mA y).2) Z (F0 m (pc + 3) lsR ((r.map (svl (adr ao HL.size))).toList ++ rest))) : W p l e R s m args below meth c H locs cells slots Z (F0 m pc lsR ((av.map (svl (adr ao HL.size))).reverse ++ rest)) := by
  have hlnk := inT_mem cT_ok (lk3_mem hf)
  have hst := inT_mem sT_ok (k_0 hy hkd)
  obtain ⟨⟨b1, b2, b3, b4, b5, b6⟩, b7, b8, b9, b10⟩ := x_cb (args := args) hS hf hy hRf hRl
  have hp : PreS s H (PcM ao HL D cA L xs av h) (av.map (svl (adr ao HL.size))) := ⟨blindM, fun U hU hW => ⟨rfl, by rw [hU]; exact r, hS.warm hW⟩⟩
  have hl2 : (av.map (svl (adr ao HL.size))).length = (mE y).2.2.2.2.2.2 := by rw [List.length_map]; exact hlen
  match n, hlnk with
  | 0, hlnk => exact x_run (va_runS (g := F0 m pc lsR ((av.map (svl (adr ao HL.size))).reverse ++ rest)) (Ts := []) ⟨hx, hb, hml, hown, fun w hw => by cases hw⟩ hM ⟨⟨b1, b2, b3, b4, b5, b6, b7, b8, b9, b10, hS.2.1 _ hlnk.1 hlnk.2 args⟩, hS.2.1 _ hst.1 hst.2 args⟩ hp rfl hl2 hls rfl (lv_room hrm) hdg ⟨hc, hs⟩) kk
  | n + 1, hlnk => exact x_run (va_runSN (g := F0 m pc lsR ((av.map (svl (adr ao HL.size))).reverse ++ rest)) (Ts := []) ⟨hx, hb, hml, hown, fun w hw => by cases hw⟩ hM ⟨⟨⟨b1, b2, b3, b4, b5, b6⟩, b7, b8, b9, b10, hS.2.1 _ hlnk.1 hlnk.2 args⟩, hS.2.1 _ hst.1 hst.2 args, trivial⟩ hp rfl hl2 hls rfl (lv_room hrm) hdg ⟨hc, hs⟩) kk
theorem x_callV (hx : p.tables.exec = Jvm.exec) (hb : c.code = cc) (hml : c.maxLocals = nL) (hls : lsR.size = nL) (hS : ST ao HL D cA L xs s) {own ix y d n q : Nat} (hown : s.vm.findClass (onm own) = some m.cls) (hf : lk3 cT own ix = some (y, n)) (hy : y < 257) (hkd' : (mE y).2.2.2.2.2.1 = 1) (hq : hkd h q = (mE y).2.2.2.2.1) {av : List Value} {P : RT} (hM : MET l ao HL D cA L xs d y (.ref q :: av) h P) (r : REP ao HL D cA L xs h H) (hlen : av.length = (mE y).2.2.2.2.2.2) (hrm : (rest.map fun v => v.category).sum ≤ 8) (hRf : d + 7 ≤ R.frames) (hRl : 60 * (d + 7) ≤ R.locals) (hc : cells + (mA y).1 ≤ R.cells) (hs : slots + (mA y).2 ≤ R.slots) (hdg : decode cc pc = .ok (.invokevirtual ix, 3))
    (kk : ∀ (H' : Heap) (L' : List Loc) (r : Option Value) (h' : MH), (∀ q ∈ L', HL.size ≤ q.base) → REP ao HL D cA L xs h' H' → P r h' → hcc h' = hcc h + (mA y).1 → hcu h' = hcu h + (mA y).2 → W p l e R s m args below meth c H' (locs ++ L') (cells + (mA y).1) (slots + (mA y).2) Z (F0 m (pc + 3) lsR ((r.map (svl (adr ao HL.size))).toList ++ rest))) : W p l e R s m args below meth c H locs cells slots Z (F0 m pc lsR ((av.map (svl (adr ao HL.size))).reverse ++ .ref (adr ao HL.size q) :: rest)) := by
  have hlnk := inT_mem cT_ok (lk3_mem hf)
  have hst := inT_mem nT_ok (k_1 hy hkd').1
  have hse := inT_mem vT_ok (k_1 hy hkd').2
  obtain ⟨-, -, -, k4, -, k6, -⟩ := mE_ck hy
  have h9 := k6 (by rw [hkd']; decide)
  obtain ⟨-, -, qc, hqc, cell, v1, v2, v3, -⟩ := r.obj hq h9
  obtain ⟨q', hq', q1, -, -⟩ := vwN_q _ h9
  cases hqc.symm.trans hq'
  have hcls := (hS.1.1 _ qc hqc).2.1
  rw [q1, ← k4] at hcls
  obtain ⟨⟨b1, b2, b3, b4, b5, b6⟩, b7, b8, b9, b10⟩ := x_cb (args := args) hS hf hy hRf hRl
  have hp : PreV s H (mE y).1.cls (adr ao HL.size q) (PcM ao HL D cA L xs (.ref q :: av) h) (av.map (svl (adr ao HL.size))) := ⟨blindM, ⟨cell, v1, by rw [v3]; rfl, by rw [v2]; exact hcls⟩, fun U hU hW => ⟨rfl, by rw [hU]; exact r, hS.warm hW⟩⟩
  have hl2 : (av.map (svl (adr ao HL.size))).length = (mE y).2.2.2.2.2.2 := by rw [List.length_map]; exact hlen
  match n, hlnk with
  | 0, hlnk => exact x_run (va_runV (g := F0 m pc lsR ((av.map (svl (adr ao HL.size))).reverse ++ .ref (adr ao HL.size q) :: rest)) (Ts := []) ⟨hx, hb, hml, hown, fun w hw => by cases hw⟩ hM ⟨⟨b1, b2, b3, b4, b5, b6, b7, b8, b9, b10, hS.2.1 _ hlnk.1 hlnk.2 args⟩, hS.2.1 _ hst.1 hst.2 args, hS.2.1 _ hse.1 hse.2 args⟩ hp rfl hl2 hls rfl (lv_room hrm) hdg ⟨hc, hs⟩) kk
  | n + 1, hlnk => exact x_run (va_runVN (g := F0 m pc lsR ((av.map (svl (adr ao HL.size))).reverse ++ .ref (adr ao HL.size q) :: rest)) (Ts := []) ⟨hx, hb, hml, hown, fun w hw => by cases hw⟩ hM ⟨⟨⟨b1, b2, b3, b4, b5, b6⟩, b7, b8, b9, b10, hS.2.1 _ hlnk.1 hlnk.2 args⟩, hS.2.1 _ hst.1 hst.2 args, hS.2.1 _ hse.1 hse.2 args⟩ hp rfl hl2 hls rfl (lv_room hrm) hdg ⟨hc, hs⟩) kk
theorem x_callI (hx : p.tables.exec = Jvm.exec) (hb : c.code = cc) (hml : c.maxLocals = nL) (hls : lsR.size = nL) (hS : ST ao HL D cA L xs s) {own ix y d n q : Nat} (hown : s.vm.findClass (onm own) = some m.cls) (hf : lk3 cT own ix = some (y, n)) (hy : y < 257) (hkd' : (mE y).2.2.2.2.2.1 = 2) {av : List Value} {P : RT} (hM : MET l ao HL D cA L xs d y (.ref q :: av) h P) (r : REP ao HL D cA L xs h H) (hlen : av.length = (mE y).2.2.2.2.2.2) (hrm : (rest.map fun v => v.category).sum ≤ 8) (hRf : d + 7 ≤ R.frames) (hRl : 60 * (d + 7) ≤ R.locals) (hc : cells + (mA y).1 ≤ R.cells) (hs : slots + (mA y).2 ≤ R.slots) (hdg : decode cc pc = .ok (.invokespecial ix, 3))
    (kk : ∀ (H' : Heap) (L' : List Loc) (r : Option Value) (h' : MH), (∀ q ∈ L', HL.size ≤ q.base) → REP ao HL D cA L xs h' H' → P r h' → hcc h' = hcc h + (mA y).1 → hcu h' = hcu h + (mA y).2 → W p l e R s m args below meth c H' (locs ++ L') (cells + (mA y).1) (slots + (mA y).2) Z (F0 m (pc + 3) lsR ((r.map (svl (adr ao HL.size))).toList ++ rest))) : W p l e R s m args below meth c H locs cells slots Z (F0 m pc lsR ((av.map (svl (adr ao HL.size))).reverse ++ .ref (adr ao HL.size q) :: rest)) := by
  have hlnk := inT_mem cT_ok (lk3_mem hf)
  have hst := inT_mem nT_ok (k_2 hy hkd')
  obtain ⟨-, -, -, -, -, -, k7⟩ := mE_ck hy
  obtain ⟨hname, hret⟩ := k7 hkd'
  obtain ⟨⟨b1, b2, b3, b4, b5, b6⟩, b7, b8, b9, b10⟩ := x_cb (args := args) hS hf hy hRf hRl
  have hp : PreS s H (PcM ao HL D cA L xs (.ref q :: av) h) (.ref (adr ao HL.size q) :: av.map (svl (adr ao HL.size))) := ⟨blindM, fun U hU hW => ⟨rfl, by rw [hU]; exact r, hS.warm hW⟩⟩
  have hl2 : (av.map (svl (adr ao HL.size))).length = (mE y).2.2.2.2.2.2 := by rw [List.length_map]; exact hlen
  have b7' : (Cond.code (mE y).1 (mE y).2.1 (mE y).2.2.1 none).before args s = true := by rw [← hret]; exact b7
  have b6' : Cond.code (mE y).1 (mE y).2.1 (mE y).2.2.1 none ∈ [cwd y] := by rw [← hret]; exact b6
  match n, hlnk with
  | 0, hlnk => exact x_run (va_runI (g := F0 m pc lsR ((av.map (svl (adr ao HL.size))).reverse ++ .ref (adr ao HL.size q) :: rest)) (Ts := []) ⟨hx, hb, hml, hown, fun w hw => by cases hw⟩ hM ⟨⟨b1, b2, b3, b4, b5, b6', b7', b8, b9, b10, hS.2.1 _ hlnk.1 hlnk.2 args⟩, hname, hS.2.1 _ hst.1 hst.2 args⟩ hp rfl hl2 hls rfl (lv_room hrm) hdg ⟨hc, hs⟩) kk
  | n + 1, hlnk => exact x_run (va_runIN (g := F0 m pc lsR ((av.map (svl (adr ao HL.size))).reverse ++ .ref (adr ao HL.size q) :: rest)) (Ts := []) ⟨hx, hb, hml, hown, fun w hw => by cases hw⟩ hM ⟨⟨⟨b1, b2, b3, b4, b5, b6'⟩, b7', b8, b9, b10, hS.2.1 _ hlnk.1 hlnk.2 args⟩, hname, hS.2.1 _ hst.1 hst.2 args⟩ hp rfl hl2 hls rfl (lv_room hrm) hdg ⟨hc, hs⟩) kk
end Calls
