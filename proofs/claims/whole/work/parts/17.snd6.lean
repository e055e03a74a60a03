/-! ===== new objects, arrays of references, copies ===== -/
theorem fty_3 (ci k : Nat) : fty ci k = 0 ∨ fty ci k = 1 ∨ fty ci k = 2 := by
  unfold fty
  cases tyT ci k <;> first | exact Or.inl rfl | exact Or.inr (Or.inl rfl) | exact Or.inr (Or.inr rfl)
def dvl (t : Nat) : Value := match t with
  | 0 => .int 0
  | 1 => .long 0
  | _ => .null
theorem dv_in : ∀ ci, ci < 9 → ∀ j, j < vwN ci → defaultValue (tyT ci j) = dvl (fty ci j) := by decide +kernel
section New
variable {p : Program} {l : Launch} {e : Env} {R : Room} {s : State} {m : MethodId} {args : Array Value} {below : List Frame} {meth : Method} {c : Code} {Z : State → Prop} {ao : Nat → Nat} {HL : Heap} {D : va_G} {cA : Nat → ClassId} {L : Nat} {xs : Nat → Int32} {c0 u0 nL : Nat} {lm : Nat × Nat}
variable {X : KT} {pc nx : Nat} {st : List Value} {ls : LT} {h : MH} {cc : ByteArray} {H : Heap} {locs : List Loc} {cells slots : Nat} {lsR : Array Slot} {rest : List Value}
theorem fvl_new {f : Nat → Nat} {kd n ci j : Nat} : fvl f (hnew h kd n) (hsz h) ci j = dvl (fty ci j) := by
  unfold fvl dvl
  have h1 : hfi (hnew h kd n) (hsz h) = fun _ => 0 := up1_self _ _ _
  have h2 : hfj (hnew h kd n) (hsz h) = fun _ => 0 := up1_self _ _ _
  have h3 : hfr (hnew h kd n) (hsz h) = fun _ => none := up1_self _ _ _
  rw [h1, h2, h3]
  rcases fty_3 ci j with e | e | e <;> rw [e] <;> rfl
theorem x_new (hx : p.tables.exec = Jvm.exec) (hb : c.code = cc) (hS : ST ao HL D cA L xs s) {own ix ci : Nat} (hown : s.vm.findClass (onm own) = some m.cls) (hf : lk3 kT own ix = some ci) (hc9 : ci < 9) (r : REP ao HL D cA L xs h H) (hc : cells + 1 ≤ R.cells) (hs : slots + vwN ci ≤ R.slots) (hdg : decode cc pc = .ok (.new ix, 3))
    (kk : ∀ H' : Heap, REP ao HL D cA L xs (hnew h ci (vwN ci)) H' → W p l e R s m args below meth c H' locs (cells + 1) (slots + vwN ci) Z (F0 m (pc + 3) lsR (.ref (adr ao HL.size (hsz h)) :: rest))) : W p l e R s m args below meth c H locs cells slots Z (F0 m pc lsR rest) := by
  obtain ⟨q, hq, q1, q2, q3⟩ := vwN_q ci hc9
  have hlnk := inT_mem kT_ok (lk3_mem hf)
  have hins := inT_mem zT_ok (e := ci) (by
    rcases (show ci = 0 ∨ ci = 1 ∨ ci = 2 ∨ ci = 3 ∨ ci = 4 ∨ ci = 5 ∨ ci = 6 ∨ ci = 7 ∨ ci = 8 by omega) with e | e | e | e | e | e | e | e | e <;> subst e <;> decide)
  have hini := inT_mem oT_ok (e := ci) (by
    rcases (show ci = 0 ∨ ci = 1 ∨ ci = 2 ∨ ci = 3 ∨ ci = 4 ∨ ci = 5 ∨ ci = 6 ∨ ci = 7 ∨ ci = 8 by omega) with e | e | e | e | e | e | e | e | e <;> subst e <;> decide)
  have hts := hS.2.1.st args
  have hin : ∀ w ∈ u_ws (onm ci) (vwT ci) (vwN ci), w ∈ lw_st := fun w hw => st_in (lay_in ci hc9 w hw)
  have hKn := hS.1.1 ci _ hq
  rw [q1, q2, q3] at hKn
  refine W.newcK (g := F0 m pc lsR rest) hx hb hown (hS.2.1 _ hlnk.1 hlnk.2 args) (hS.2.1 _ hins.1 hins.2 args) (hS.2.1 _ hini.1 hini.2 args) rfl hdg hc hs hKn.2.1 r.sz.symm fun H' kC hkC e1 z1 o1 => ?_
  refine kk H' (r.new (by rw [z1, r.sz]) (fun q hq => o1 q (by rw [r.sz]; exact hq)) rfl hnew_e ?_ ?_)
  · left
    show up1 (hkd h) (hsz h) ci (hsz h) ≤ 8
    rw [up1_self]; omega
  · rw [cel_O (h := hnew h ci (vwN ci)) (ci := ci) (up1_self _ _ _) hc9]
    refine ⟨q, hq, ?_⟩
    rw [q3]
    refine (u_born (tyT ci) hts hin hKn hkC e1 (ty_in ci hc9)).to (fun j hj => ?_)
    rw [dv_in ci hc9 j hj]
    simp only [vp_V, List.getD_eq_getElem?_getD, List.getElem?_map, List.getElem?_range hj, Option.map_some, Option.getD_some, fvl_new]
theorem x_anew (hx : p.tables.exec = Jvm.exec) (hb : c.code = cc) (hS : ST ao HL D cA L xs s) {own ix ci : Nat} (hown : s.vm.findClass (onm own) = some m.cls) (hf : lk3 kT own ix = some ci) {kd : Nat} (hkd3 : (ci = 2 ∧ kd = 23) ∨ (ci = 3 ∧ kd = 24) ∨ (ci = 6 ∧ kd = 25)) {n : Int32} (r : REP ao HL D cA L xs h H) (hn : ¬ n < 0) (hn2 : n.toNatClampNeg ≤ 40000) (hc : cells + 1 ≤ R.cells) (hs : slots + n.toNatClampNeg ≤ R.slots) (hdg : decode cc pc = .ok (.anewarray ix, 3))
    (kk : ∀ H' : Heap, REP ao HL D cA L xs (hnew h kd n.toNatClampNeg) H' → W p l e R s m args below meth c H' locs (cells + 1) (slots + n.toNatClampNeg) Z (F0 m (pc + 3) lsR (.ref (adr ao HL.size (hsz h)) :: rest))) : W p l e R s m args below meth c H locs cells slots Z (F0 m pc lsR (.int n :: rest)) := by
  have hlnk := inT_mem kT_ok (lk3_mem hf)
  have hkr : 23 ≤ kd ∧ kd ≤ 25 ∧ rkd kd = ci := by
    rcases hkd3 with ⟨rfl, rfl⟩ | ⟨rfl, rfl⟩ | ⟨rfl, rfl⟩ <;> decide
  have hw : (Cond.arrayOver (.object (onm ci))).before args s = true := by
    have hT := hS.2.1
    rcases hkd3 with ⟨rfl, -⟩ | ⟨rfl, -⟩ | ⟨rfl, -⟩
    · exact hT _ (tin1 (List.mem_of_getElem? (i := 147) rfl)) rfl args
    · exact hT _ (tin1 (List.mem_of_getElem? (i := 101) rfl)) rfl args
    · exact hT _ (tin1 (List.mem_of_getElem? (i := 139) rfl)) rfl args
  obtain ⟨C, hC, g2, kA0, comp0, k1, k2, k3, k4⟩ := aTy_r hS (kd := kd) ⟨hkr.1, hkr.2.1⟩
  rw [hkr.2.2] at hC
  refine W.anew (g := F0 m pc lsR (.int n :: rest)) hx hb hown (hS.2.1 _ hlnk.1 hlnk.2 args) hw rfl hdg rfl hn (by omega) hc hs fun cA' kA comp h1 h2 h3 h4 => ?_
  rw [hC] at k4
  have hcA : cA' = cA kd := Option.some.inj (h1.symm.trans k4)
  subst hcA
  have hz9 : H.size = adr ao HL.size (hsz h) := r.sz.symm
  show W p l e R s m args below meth c _ locs (cells + 1) (slots + n.toNatClampNeg) Z (F0 m (pc + 3) lsR (.ref H.size :: rest))
  rw [hz9]
  refine kk _ (r.new (by simp) (fun q hq => by rw [Array.getElem?_push, if_neg (Nat.ne_of_lt hq)]) rfl hnew_e ?_ ?_)
  · right
    show 20 ≤ up1 (hkd h) (hsz h) kd (hsz h) ∧ up1 (hkd h) (hsz h) kd (hsz h) ≤ 25
    rw [up1_self]; omega
  · have hk' : hkd (hnew h kd n.toNatClampNeg) (hsz h) = kd := up1_self _ _ _
    have hl' : hln (hnew h kd n.toNatClampNeg) (hsz h) = n.toNatClampNeg := up1_self _ _ _
    have hr' : hra (hnew h kd n.toNatClampNeg) (hsz h) = fun _ => none := up1_self _ _ _
    rw [cel_R (by rw [hk']; exact hkr.1), hk', hl', hr', ← hz9]
    show (H.push _)[H.size]? = some (vp_cell _ _)
    rw [Array.getElem?_push_size, arrV_new]
    rfl
theorem x_acp (hx : p.tables.exec = Jvm.exec) (hb : c.code = cc) (hml : c.maxLocals = nL) (hls : lsR.size = nL) (hS : ST ao HL D cA L xs s) {own ix : Nat} (hown : s.vm.findClass (onm own) = some m.cls) (hf : lk2 aT own ix = true) {sp dp n : Int32} {a0 a : Nat} (r : REP ao HL D cA L xs h H) (h24 : 24 ≤ a0) (h24' : 24 ≤ a) (hk0 : hkd h a0 = 20) (hk : hkd h a = 20) (h1 : ¬ sp < 0) (h2 : ¬ dp < 0) (h3 : ¬ n < 0) (h4 : sp.toNatClampNeg + n.toNatClampNeg ≤ hln h a0) (h5 : dp.toNatClampNeg + n.toNatClampNeg ≤ hln h a)
    (hframes : 1 ≤ R.frames) (hlocals : (rest.map fun v => v.category).sum + (nativeFrameWords "java/lang/System" "arraycopy" 5 + 11) ≤ R.locals) (hdg : decode cc pc = .ok (.invokestatic ix, 3))
    (kk : ∀ (H' : Heap) (L' : List Loc), (∀ q ∈ L', HL.size ≤ q.base) → REP ao HL D cA L xs (sIA h a (va_cpy (hia h a0) (hia h a) sp.toNatClampNeg dp.toNatClampNeg n.toNatClampNeg)) H' → W p l e R s m args below meth c H' (locs ++ L') cells slots Z (F0 m (pc + 3) lsR rest)) : W p l e R s m args below meth c H locs cells slots Z (F0 m pc lsR (.int n :: .int dp :: .ref (adr ao HL.size a) :: .int sp :: .ref (adr ao HL.size a0) :: rest)) := by
  have hlnk := inT_mem aT_ok (lk2_mem hf)
  have nn : ∀ z : Int32, ¬ z < 0 → z.toInt = (z.toNatClampNeg : Int) := by
    intro z hz
    have hz0 : (0 : Int) ≤ z.toInt := by
      have := Int32.not_lt.mp hz
      simpa using Int32.le_iff_toInt_le.mp this
    show z.toInt = ((z.toInt.toNat : Nat) : Int)
    omega
  have hc0 := r.arr (Or.inl hk0) h24
  have hc1 := r.arr (Or.inl hk) h24'
  rw [hk0] at hc0
  rw [hk] at hc1
  intro T hT Xs
  obtain ⟨-, k0, hk0', cm0, hkk0⟩ := (hS.1.2 0 _ rfl).1 (hln h a0) (fun j => .int (hia h a0 j))
  obtain ⟨-, k1, hk1', cm1, hkk1⟩ := (hS.1.2 0 _ rfl).1 (hln h a) (fun j => .int (hia h a j))
  obtain ⟨vm', X', step⟩ := Xs.arraycopy hx hown (hS.2.1 _ hlnk.1 hlnk.2 args) (hS.2.1 _ (tin2 (List.mem_of_getElem? (i := 214) rfl)) rfl args) (hS.2.1 _ (tin2 (List.mem_of_getElem? (i := 213) rfl)) rfl args) (hS.2.1 _ (tin1 (List.mem_of_getElem? (i := 11) rfl)) rfl args) (src := adr ao HL.size a0) (dst := adr ao HL.size a) (cs := vp_cell (cA 20) (hln h a0, .inl (hia h a0))) (cd := vp_cell (cA 20) (hln h a, .inl (hia h a))) (srcPos := sp) (destPos := dp) (n := n) (by rw [hT]; exact hc0) (by rw [hT]; exact hc1)
    (fun _ h => by cases h) (fun _ h => by cases h) (fun h => by cases h) (fun h => by cases h) hk0' hk1' hkk0 hkk1 (by simp) h1 h2 h3
    (by rw [nn sp h1, nn n h3]; show ¬ _ > ((arrV (cA 20) (hln h a0) (fun j => .int (hia h a0 j))).slots.size : Int); rw [arrV_size]; omega)
    (by rw [nn dp h2, nn n h3]; show ¬ _ > ((arrV (cA 20) (hln h a) (fun j => .int (hia h a j))).slots.size : Int); rw [arrV_size]; omega)
    (fun vm₁ _ i hi => by
      have e : (vp_cell (cA 20) (hln h a0, .inl (hia h a0))).slots.getD (sp.toNatClampNeg + i) .null = .int (hia h a0 (sp.toNatClampNeg + i)) := by
        show (arrV (cA 20) (hln h a0) (fun j => .int (hia h a0 j))).slots.getD _ _ = _
        rw [Array.getD_eq_getD_getElem?, arrV_read _ _ (by omega)]
        rfl
      refine ⟨?_, ?_⟩
      · rw [e]
        rfl
      · rw [e]
        exact trivial)
    (g := F0 m pc lsR (.int n :: .int dp :: .ref (adr ao HL.size a) :: .int sp :: .ref (adr ao HL.size a0) :: rest)) rfl (by rw [hml, ← hls]) (rest := rest) rfl (by rw [hb]; exact hdg) hframes (by show 2 * 0 + _ + _ ≤ _; omega)
  have e1 : copied (vp_cell (cA 20) (hln h a0, .inl (hia h a0))) (vp_cell (cA 20) (hln h a, .inl (hia h a))) sp dp n = vp_cell (cA 20) (hln h a, .inl (va_cpy (hia h a0) (hia h a) sp.toNatClampNeg dp.toNatClampNeg n.toNatClampNeg)) := va_copied (fun z => .int z) (cA 20) (cA 20) (hia h a0) (hia h a) h4
  rw [e1] at X' step
  have hl : adr ao HL.size a < H.size := (Array.getElem?_eq_some_iff.mp hc1).1
  have hheap : ((T.setVm vm').setCell (adr ao HL.size a) (vp_cell (cA 20) (hln h a, .inl (va_cpy (hia h a0) (hia h a) sp.toNatClampNeg dp.toNatClampNeg n.toNatClampNeg)))).heap = H.setIfInBounds (adr ao HL.size a) (vp_cell (cA 20) (hln h a, .inl (va_cpy (hia h a0) (hia h a) sp.toNatClampNeg dp.toNatClampNeg n.toNatClampNeg))) := by rw [← hT]; rfl
  obtain ⟨t, a1, b1⟩ := kk _ _ (fun q hq => by
      obtain ⟨z, -, hz⟩ := List.mem_map.mp hq
      rw [← hz]
      show HL.size ≤ adr ao HL.size a
      rw [adr_hi h24']; omega) (r.wIA h24' (Or.inl hk) (by simp) (fun q hq => by simp [Array.getElem?_setIfInBounds, Ne.symm hq]) (by rw [hk]; simp [Array.getElem?_setIfInBounds, hl])) _ hheap X'
  exact ⟨t, step t a1, b1⟩
end New
