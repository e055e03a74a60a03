theorem two_of {a : Nat} (h1 : 2 ≤ a) (h2 : a < 24) : ∃ k : Nat, a = k + 2 ∧ k < 22 := ⟨a - 2, by omega, by omega⟩
section Aux
variable {p : Program} {l : Launch} {e : Env} {R : Room} {s : State} {m : MethodId} {args : Array Value} {below : List Frame} {meth : Method} {c : Code} {Z : State → Prop} {ao : Nat → Nat} {HL : Heap} {D : va_G} {cA : Nat → ClassId} {L : Nat} {xs : Nat → Int32} {c0 u0 nL : Nat} {lm : Nat × Nat}
variable {X : KT} {pc nx : Nat} {st : List Value} {ls : LT} {h : MH} {cc : ByteArray} {H : Heap} {locs : List Loc} {cells slots : Nat} {lsR : Array Slot} {rest : List Value}
theorem fvl_wi {f : Nat → Nat} {a ci k j : Nat} {x : Int32} (e0 : fty ci k = 0) : fvl f (sFI h a (up1 (hfi h a) k x)) a ci j = if j = k then svl f (.int x) else fvl f h a ci j := by
  have h1 : hfi (sFI h a (up1 (hfi h a) k x)) a = up1 (hfi h a) k x := up1_self _ _ _
  by_cases e : j = k
  · subst e
    rw [if_pos rfl]
    unfold fvl
    rw [e0, h1]
    show Value.int (up1 (hfi h a) j x j) = _
    rw [up1_self]; rfl
  · rw [if_neg e]
    unfold fvl
    rw [h1]
    have h2 : up1 (hfi h a) k x j = hfi h a j := up1_ne e
    rw [h2]
    rfl
theorem fvl_wj {f : Nat → Nat} {a ci k j : Nat} {x : Int64} (e0 : fty ci k = 1) : fvl f (sFJ h a (up1 (hfj h a) k x)) a ci j = if j = k then svl f (.long x) else fvl f h a ci j := by
  have h1 : hfj (sFJ h a (up1 (hfj h a) k x)) a = up1 (hfj h a) k x := up1_self _ _ _
  by_cases e : j = k
  · subst e
    rw [if_pos rfl]
    unfold fvl
    rw [e0, h1]
    show Value.long (up1 (hfj h a) j x j) = _
    rw [up1_self]; rfl
  · rw [if_neg e]
    unfold fvl
    rw [h1]
    have h2 : up1 (hfj h a) k x j = hfj h a j := up1_ne e
    rw [h2]
    rfl
theorem fvl_wr {f : Nat → Nat} {a ci k j : Nat} {x : Nat} (e0 : fty ci k = 2) : fvl f (sFR h a (up1 (hfr h a) k (some x))) a ci j = if j = k then svl f (.ref x) else fvl f h a ci j := by
  have h1 : hfr (sFR h a (up1 (hfr h a) k (some x))) a = up1 (hfr h a) k (some x) := up1_self _ _ _
  by_cases e : j = k
  · subst e
    rw [if_pos rfl]
    unfold fvl
    rw [e0, h1]
    show rfv ((up1 (hfr h a) j (some x) j).map f) = _
    rw [up1_self]; rfl
  · rw [if_neg e]
    unfold fvl
    rw [h1]
    have h2 : up1 (hfr h a) k (some x) j = hfr h a j := up1_ne e
    rw [h2]
    rfl
theorem nar_r {f : Nat → Nat} {ci k : Nat} (e : fty ci k = 2) (x : Nat) : narrow (tyT ci k) (svl f (.ref x)) = svl f (.ref x) := by
  unfold fty at e
  cases h : tyT ci k <;> rw [h] at e <;> first | rfl | cases e
theorem fit_r {f : Nat → Nat} {ci k : Nat} (e : fty ci k = 2) (x : Nat) : fits (tyT ci k) (svl f (.ref x)) = true := by
  unfold fty at e
  cases h : tyT ci k <;> rw [h] at e <;> first | rfl | cases e
theorem acp_w : nativeFrameWords "java/lang/System" "arraycopy" 5 ≤ 40 := by decide +kernel
theorem acp_room {d : Nat} (hRl : 60 * (d + 7) ≤ R.locals) : (([] : List Value).map fun v => v.category).sum + (nativeFrameWords "java/lang/System" "arraycopy" 5 + 11) ≤ R.locals := by
  have h1 := acp_w
  have h2 := rm_420 hRl
  clear hRl
  show 0 + (nativeFrameWords "java/lang/System" "arraycopy" 5 + 11) ≤ R.locals
  omega
theorem SC.mk {h' : MH} {H' : Heap} {n : Nat} (q : SC ao HL D cA L xs c0 u0 nL lm ls h H locs cells slots lsR) (hR : REP ao HL D cA L xs h' H') (e1 : hcc h' = hcc h + 1) (e2 : hcu h' = hcu h + n) (b1 : hcc h + 1 ≤ lm.1) (b2 : hcu h + n ≤ lm.2) : SC ao HL D cA L xs c0 u0 nL lm ls h' H' locs (cells + 1) (slots + n) lsR := by
  obtain ⟨q1, q2, q3, q4, ⟨q5, q6⟩, q7⟩ := q
  exact ⟨hR, q2, by omega, by omega, ⟨by omega, by omega⟩, q7⟩
theorem crow_s {pc y : Nat} (hk : (mE y).2.2.2.2.2.1 = 0) : ((mA y).1 = 0 ∧ (mA y).2 = 0 ∧ crow pc y = (76, pc + 3, y, (mE y).2.2.2.2.2.2, 0, 0, [])) ∨ crow pc y = (89, pc + 3, y, (mE y).2.2.2.2.2.2, 0, 0, [(mA y).1, (mA y).2]) := by
  unfold crow
  rw [hk]
  cases hA : mA y with
  | mk a b =>
    cases a with
    | zero =>
      cases b with
      | zero => exact Or.inl ⟨rfl, rfl, rfl⟩
      | succ b => exact Or.inr rfl
    | succ a => exact Or.inr rfl
theorem crow_r {pc y : Nat} (hk : (mE y).2.2.2.2.2.1 ≠ 0) : ((mA y).1 = 0 ∧ (mA y).2 = 0 ∧ crow pc y = (86, pc + 3, y, (mE y).2.2.2.2.2.2, 0, 0, [(mE y).2.2.2.2.1])) ∨ crow pc y = (90, pc + 3, y, (mE y).2.2.2.2.2.2, 0, 0, [(mE y).2.2.2.2.1, (mA y).1, (mA y).2]) := by
  unfold crow
  obtain ⟨k, hk'⟩ := Nat.exists_eq_succ_of_ne_zero hk
  rw [hk']
  cases hA : mA y with
  | mk a b =>
    cases a with
    | zero =>
      cases b with
      | zero => exact Or.inl ⟨rfl, rfl, rfl⟩
      | succ b => exact Or.inr rfl
    | succ a => exact Or.inr rfl
theorem x_oin (hx : p.tables.exec = Jvm.exec) (hb : c.code = cc) (hml : c.maxLocals = nL) (hls : lsR.size = nL) (hS : ST ao HL D cA L xs s) {own ix d : Nat} (hown : s.vm.findClass (onm own) = some m.cls) (hf : lk2 bT own ix = true) (hRf : d + 7 ≤ R.frames) (hRl : 60 * (d + 7) ≤ R.locals) {a : Nat} (hdg : decode cc pc = .ok (.invokespecial ix, 3))
    (kk : W p l e R s m args below meth c H locs cells slots Z (F0 m (pc + 3) lsR [])) : W p l e R s m args below meth c H locs cells slots Z (F0 m pc lsR [.ref a]) := by
  have hlnk := inT_mem bT_ok (lk2_mem hf)
  refine W.objInit (g := F0 m pc lsR [.ref a]) hx hb hown (hS.2.1 _ hlnk.1 hlnk.2 args) (hS.2.1 _ (tin1 (List.mem_of_getElem? (i := 24) rfl)) rfl args) (hS.2.1 _ (tin1 (List.mem_of_getElem? (i := 25) rfl)) rfl args) rfl (by rw [hml, ← hls]) rfl hdg (by clear hRl; omega) ?_ kk
  have h2 := rm_420 hRl
  clear hRl
  show 2 * 0 + 0 + 12 ≤ R.locals
  omega
theorem w_chk (hx : p.tables.exec = Jvm.exec) (hb : c.code = cc) (hS : ST ao HL D cA L xs s) (hown : s.vm.findClass (onm 10) = some m.cls) (hd : decode cc pc = .ok (.checkcast 317, 3)) (hX : ∀ pc st ls h, X pc st ls h → WS p l e R s m args below meth c Z ao HL D cA L xs c0 u0 nL lm pc st ls h) (q : s_chk X (pc + 3) st ls h) : WS p l e R s m args below meth c Z ao HL D cA L xs c0 u0 nL lm pc st ls h := by
  unfold s_chk at q; split at q
  · rename_i a r
    intro H locs cells slots lsR hs
    have g1 := hs.1.arr (Or.inl q.1.2) q.1.1
    rw [q.1.2] at g1
    refine va_castA (D := D) (cl := vwCl) (ws := [(adr ao HL.size a, .inl (cA 20, hln h a, .inl (hia h a)))]) hx hb hown (hS.2.1 _ (tin3 (List.mem_of_getElem? (i := 237) rfl)) rfl args) (fun k x hk => ?_) 0 rfl (hS.1.2 0 _ rfl).2 hd (hX _ _ _ _ q.2 H locs cells slots lsR hs)
    have hz : k < 1 := (List.getElem?_eq_some_iff.mp hk).1
    rw [show k = 0 by omega] at hk
    cases hk
    exact g1
  · exact q.elim
theorem w_cln {d : Nat} (hx : p.tables.exec = Jvm.exec) (hb : c.code = cc) (hml : c.maxLocals = nL) (hS : ST ao HL D cA L xs s) (hown : s.vm.findClass (onm 10) = some m.cls) (hRf : d + 7 ≤ R.frames) (hRl : 60 * (d + 7) ≤ R.locals) (hRc : R.cells + c0 = lm.1) (hRs : R.slots + u0 = lm.2) (hd : decode cc pc = .ok (.invokevirtual 316, 3)) (hX : ∀ pc st ls h, X pc st ls h → WS p l e R s m args below meth c Z ao HL D cA L xs c0 u0 nL lm pc st ls h) (q : s_cln X (pc + 3) lm st ls h) : WS p l e R s m args below meth c Z ao HL D cA L xs c0 u0 nL lm pc st ls h := by
  unfold s_cln at q; split at q
  · rename_i a
    obtain ⟨⟨h24, hk, b1, b2⟩, q⟩ := q
    intro H locs cells slots lsR hs
    have g1 := hs.1.arr (Or.inl hk) h24
    rw [hk] at g1
    have hnm : s.vm.findClass "[I" = some (cA 20) := (hS.1.2 0 _ rfl).2
    obtain ⟨c9, t9, f1, f2, f3⟩ := Cond.castable_spec (hS.2.1 (.castable "[I" "java/lang/Cloneable") (tin3 (List.mem_of_getElem? (i := 236) rfl)) rfl args)
    cases hnm.symm.trans f1
    intro T hT Xs
    have hcellT : T.heap[adr ao HL.size a]? = some (vp_cell (cA 20) (hln h a, .inl (hia h a))) := by rw [hT]; exact g1
    obtain ⟨-, kA, hkA, comp, hkind⟩ := State.isArrayOf_alike Xs.warmed.alike ((hS.1.2 0 _ rfl).1 0 (fun _ => .null))
    obtain ⟨-, kS, hkS, compS, hkindS⟩ := (hS.1.2 0 _ rfl).1 0 (fun _ => .null)
    obtain ⟨vm', X', stp'⟩ := Xs.cloneArray hx hown (hS.2.1 _ (tin3 (List.mem_of_getElem? (i := 231) rfl)) rfl args) (hS.2.1 _ (tin3 (List.mem_of_getElem? (i := 232) rfl)) rfl args) (hS.2.1 _ (tin3 (List.mem_of_getElem? (i := 233) rfl)) rfl args) (hS.2.1 _ (tin3 (List.mem_of_getElem? (i := 234) rfl)) rfl args) (hS.2.1 _ (tin3 (List.mem_of_getElem? (i := 235) rfl)) rfl args) (a := adr ao HL.size a) (cell := vp_cell (cA 20) (hln h a, .inl (hia h a))) hcellT (fun k h => by cases h) (fun h => by cases h) hnm f2 f3
      (fun i v hv => by
        have hk' : T.vm.classes[cA 20]? = some kA := hkA
        have hv' : (arrV (cA 20) (hln h a) (fun j => .int (hia h a j))).slots[i]? = some v := hv
        have hi : i < hln h a := by
          have := (Array.getElem?_eq_some_iff.mp hv').1
          rwa [arrV_size] at this
        rw [arrV_read _ _ hi] at hv'
        cases hv'
        show State.fitsSlot _ (cA 20) .none i (.int (hia h a i)) = true
        simp [State.fitsSlot, State.slotType?, hk', hkind, fits])
      (g := F0 m pc lsR [.ref (adr ao HL.size a)]) rfl (by rw [hml]; exact hs.2.2.2.2.2.2.1) rfl (by rw [hb]; exact hd) (by clear hRl; omega) (by have h2 := rm_420 hRl; clear hRl; show 2 * 0 + 0 + 14 ≤ _; omega) (rm1 hRc hs.2.2.1 b1) (by show slots + (arrV _ _ _).slots.size ≤ _; rw [arrV_size]; exact rm1 hRs hs.2.2.2.1 b2) (hloader := Vm.clonesLoader_of_array hkS hkindS)
    have hs9 : (vp_cell (cA 20) (hln h a, .inl (hia h a))).slots.size = hln h a := arrV_size _ _ _
    rw [hs9] at X'
    have hz2 : H.size = adr ao HL.size (hsz h) := hs.1.sz.symm
    have hR : REP ao HL D cA L xs (sIA (hnew h 20 (hln h a)) (hsz h) (hia h a)) (H.push (vp_cell (cA 20) (hln h a, .inl (hia h a)))) := by
      refine hs.1.new (by simp) (fun q hq => by rw [Array.getElem?_push, if_neg (Nat.ne_of_lt hq)]) rfl (fun k e => ?_) ?_ ?_
      · obtain ⟨y1, y2, y3, y4, y5, y6, y7, y8⟩ := hnew_e (kd := 20) (n := hln h a) k e
        refine ⟨y1, y2, y3, y4, y5, ?_, y7, y8⟩
        show up1 (hia (hnew h 20 (hln h a))) (hsz h) (hia h a) k = hia h k
        rw [up1_ne e]; exact y6
      · right
        show 20 ≤ up1 (hkd h) (hsz h) 20 (hsz h) ∧ up1 (hkd h) (hsz h) 20 (hsz h) ≤ 25
        rw [up1_self]; decide
      · have hk' : hkd (sIA (hnew h 20 (hln h a)) (hsz h) (hia h a)) (hsz h) = 20 := up1_self _ _ _
        have hl' : hln (sIA (hnew h 20 (hln h a)) (hsz h) (hia h a)) (hsz h) = hln h a := up1_self _ _ _
        have hi' : hia (sIA (hnew h 20 (hln h a)) (hsz h) (hia h a)) (hsz h) = hia h a := up1_self _ _ _
        rw [cel_kd (Or.inl hk'), hk', hl', hi', ← hz2]
        show (H.push _)[H.size]? = some (vp_cell _ _)
        rw [Array.getElem?_push_size]
    obtain ⟨t, a1, b3⟩ := hX _ _ _ _ q _ _ _ _ lsR (hs.mk hR rfl rfl b1 b2) ((T.setVm vm').pushCell (vp_cell (cA 20) (hln h a, .inl (hia h a)))) (by rw [← hT]; rfl) X'
    refine ⟨t, stp' t ?_, b3⟩
    rw [hT, hz2]
    exact a1
  · exact q.elim
theorem w_sln {d : Nat} (hRc : R.cells + c0 = lm.1) (hRs : R.slots + u0 = lm.2) (hx : p.tables.exec = Jvm.exec) (hb : c.code = cc) (hml : c.maxLocals = nL) (hS : ST ao HL D cA L xs s) (hown : s.vm.findClass (onm 5) = some m.cls) (hRf : d + 7 ≤ R.frames) (hRl : 60 * (d + 7) ≤ R.locals) (hd : decode cc pc = .ok (.invokevirtual 45, 3)) (hX : ∀ pc st ls h, X pc st ls h → WS p l e R s m args below meth c Z ao HL D cA L xs c0 u0 nL lm pc st ls h) (q : s_sln X (pc + 3) st ls h) : WS p l e R s m args below meth c Z ao HL D cA L xs c0 u0 nL lm pc st ls h := by
  unfold s_sln at q; split at q
  · rename_i a r
    obtain ⟨⟨g1, g2, g3⟩, q⟩ := q
    intro H locs cells slots lsR hs
    obtain ⟨k, rfl, hk⟩ := two_of g1 g2
    have ha : adr ao HL.size (k + 2) = ao (k + 2) := if_pos g2
    rw [Nat.add_sub_cancel] at q
    show W p l e R s m args below meth c H locs cells slots Z (F0 m pc lsR (.ref (adr ao HL.size (k + 2)) :: r.map (svl (adr ao HL.size))))
    rw [ha]
    obtain ⟨cell, v1, v2, v3, -⟩ := (hS.2.2.2.2.2.1.1 k hk).1.kept (fun a h _ => hs.1.2.2.1 a h)
    refine x_runP (va_runV (b := ao (k + 2)) (C := "java/lang/String") (As := []) (rest := r.map (svl (adr ao HL.size))) (Ts := []) ⟨hx, hb, hml, hown, fun w hw => by cases hw⟩ (sc_len hk 0) ⟨cbS (d := 2) (n := 0) hS (tin3 (List.mem_of_getElem? (i := 96) rfl)) (hS.2.1 _ (tin1 (List.mem_of_getElem? (i := 13) rfl)) rfl _) (by decide) (by decide +kernel) (by clear hRl; omega) (by have h2 := rm_420 hRl; clear hRl; omega) (hS.2.1 _ (tin3 (List.mem_of_getElem? (i := 93) rfl)) rfl _), (hS.2.1 _ (tin3 (List.mem_of_getElem? (i := 94) rfl)) rfl _), (hS.2.1 _ (tin3 (List.mem_of_getElem? (i := 95) rfl)) rfl _)⟩ ⟨blindS, ⟨cell, v1, v2, v3⟩, fun U hU hW => ⟨rfl, fun q hq => by rw [hU]; exact hs.1.2.2.1 q hq, hS.warm hW⟩⟩ rfl rfl hs.2.2.2.2.2.2.1 rfl (lv_room (cat_sum _ _ g3)) hd ⟨by have h1 := hs.2.2.1; have h2 := hs.2.2.2.2.1.1; omega, by have h1 := hs.2.2.2.1; have h2 := hs.2.2.2.2.1.2; omega⟩) ?_
    exact hX _ _ _ _ q H locs cells slots lsR hs
  · exact q.elim
theorem w_sch {d : Nat} (hRc : R.cells + c0 = lm.1) (hRs : R.slots + u0 = lm.2) (hx : p.tables.exec = Jvm.exec) (hb : c.code = cc) (hml : c.maxLocals = nL) (hS : ST ao HL D cA L xs s) (hown : s.vm.findClass (onm 5) = some m.cls) (hRf : d + 7 ≤ R.frames) (hRl : 60 * (d + 7) ≤ R.locals) (hd : decode cc pc = .ok (.invokevirtual 50, 3)) (hX : ∀ pc st ls h, X pc st ls h → WS p l e R s m args below meth c Z ao HL D cA L xs c0 u0 nL lm pc st ls h) (q : s_sch X (pc + 3) st ls h) : WS p l e R s m args below meth c Z ao HL D cA L xs c0 u0 nL lm pc st ls h := by
  unfold s_sch at q; split at q
  · rename_i i a r
    obtain ⟨⟨⟨g1, g2, g3⟩, g4⟩, q⟩ := q
    intro H locs cells slots lsR hs
    obtain ⟨k, rfl, hk⟩ := two_of g1 g2
    have ha : adr ao HL.size (k + 2) = ao (k + 2) := if_pos g2
    rw [Nat.add_sub_cancel] at q g4
    show W p l e R s m args below meth c H locs cells slots Z (F0 m pc lsR (.int i :: .ref (adr ao HL.size (k + 2)) :: r.map (svl (adr ao HL.size))))
    rw [ha]
    obtain ⟨cell, v1, v2, v3, -⟩ := (hS.2.2.2.2.2.1.1 k hk).1.kept (fun a h _ => hs.1.2.2.1 a h)
    refine x_runP (va_runV (b := ao (k + 2)) (C := "java/lang/String") (As := [.int i]) (rest := r.map (svl (adr ao HL.size))) (Ts := []) ⟨hx, hb, hml, hown, fun w hw => by cases hw⟩ (sc_chr hk g4 0) ⟨cbS (d := 4) (n := 1) hS (tin3 (List.mem_of_getElem? (i := 106) rfl)) (hS.2.1 _ (tin1 (List.mem_of_getElem? (i := 13) rfl)) rfl _) (by decide) (by decide +kernel) (by clear hRl; omega) (by have h2 := rm_420 hRl; clear hRl; omega) (hS.2.1 _ (tin3 (List.mem_of_getElem? (i := 103) rfl)) rfl _), (hS.2.1 _ (tin3 (List.mem_of_getElem? (i := 104) rfl)) rfl _), (hS.2.1 _ (tin3 (List.mem_of_getElem? (i := 105) rfl)) rfl _)⟩ ⟨blindS, ⟨cell, v1, v2, v3⟩, fun U hU hW => ⟨rfl, fun q hq => by rw [hU]; exact hs.1.2.2.1 q hq, hS.warm hW⟩⟩ rfl rfl hs.2.2.2.2.2.2.1 rfl (lv_room (cat_sum _ _ g3)) hd ⟨by have h1 := hs.2.2.1; have h2 := hs.2.2.2.2.1.1; omega, by have h1 := hs.2.2.2.1; have h2 := hs.2.2.2.2.1.2; omega⟩) ?_
    exact hX _ _ _ _ q H locs cells slots lsR hs
  · exact q.elim
theorem qT_lt : ∀ q ∈ qT, q.2.2 < 24 := by decide +kernel
theorem w_str {own ix a : Nat} (hx : p.tables.exec = Jvm.exec) (hb : c.code = cc) (hS : ST ao HL D cA L xs s) (hown : s.vm.findClass (onm own) = some m.cls) (hf : (own, ix, a) ∈ qT) (hd : decode cc pc = .ok (.ldc ix, 2)) (hX : ∀ pc st ls h, X pc st ls h → WS p l e R s m args below meth c Z ao HL D cA L xs c0 u0 nL lm pc st ls h) (q : X (pc + 2) (.ref a :: st) ls h) : WS p l e R s m args below meth c Z ao HL D cA L xs c0 u0 nL lm pc st ls h := by
  intro H locs cells slots lsR hs
  have hz : vk_R (onm own) ix (qTx (a - 2)) (ao a) s := hS.2.2.2.2.2.2.1 (own, ix, a) hf
  have ha : adr ao HL.size a = ao a := if_pos (qT_lt (own, ix, a) hf)
  have hk : W p l e R s m args below meth c H locs cells slots Z (F0 m (pc + 2) lsR (.ref (adr ao HL.size a) :: st.map (svl (adr ao HL.size)))) := hX _ _ _ _ q H locs cells slots lsR hs
  generalize adr ao HL.size a = b at ha hk
  subst ha
  exact va_ldcS (tx := qTx (a - 2)) (q := ao a) hx hb hown hz hd hk
theorem w_most (hx : p.tables.exec = Jvm.exec) (hb : c.code = cc) (hS : ST ao HL D cA L xs s) (hown : s.vm.findClass (onm 7) = some m.cls) (hd : decode cc pc = .ok (.getstatic 162, 3)) (hX : ∀ pc st ls h, X pc st ls h → WS p l e R s m args below meth c Z ao HL D cA L xs c0 u0 nL lm pc st ls h) (q : X (pc + 3) (.ref 1 :: st) ls h) : WS p l e R s m args below meth c Z ao HL D cA L xs c0 u0 nL lm pc st ls h := by
  intro H locs cells slots lsR hs
  obtain ⟨cf, kf, fi, f, a, cell, h1, h2, h3, h4, h5, h6, h7, h8⟩ := hS.2.2.2.2.1
  have hlt : a < HL.size := (Array.getElem?_eq_some_iff.mp h5).1
  exact W.gets hx hb hown (hS.2.1 _ (tin2 (List.mem_of_getElem? (i := 150) rfl)) rfl args) h1 h2 h3 h4 (by rw [hs.1.2.2.1 a hlt]; exact h5) (fun e => by rw [e] at h6; cases h6) h7 rfl hd (hX _ _ _ _ q H locs cells slots lsR hs)
end Aux
