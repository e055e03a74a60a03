/-! ===== fields, arrays, new cells ===== -/
theorem vwN_q : ∀ ci, ci < 9 → ∃ q : vw_C, vwCl[ci]? = some q ∧ q.1 = onm ci ∧ q.2.1 = vwT ci ∧ q.2.2 = vwN ci := by
  intro ci hc
  match ci, hc with
  | 0, _ => exact ⟨_, rfl, rfl, rfl, rfl⟩
  | 1, _ => exact ⟨_, rfl, rfl, rfl, rfl⟩
  | 2, _ => exact ⟨_, rfl, rfl, rfl, rfl⟩
  | 3, _ => exact ⟨_, rfl, rfl, rfl, rfl⟩
  | 4, _ => exact ⟨_, rfl, rfl, rfl, rfl⟩
  | 5, _ => exact ⟨_, rfl, rfl, rfl, rfl⟩
  | 6, _ => exact ⟨_, rfl, rfl, rfl, rfl⟩
  | 7, _ => exact ⟨_, rfl, rfl, rfl, rfl⟩
  | 8, _ => exact ⟨_, rfl, rfl, rfl, rfl⟩
/-- the words of the layouts, all of them stable -/
theorem lay_in : ∀ ci, ci < 9 → ∀ w ∈ u_ws (onm ci) (vwT ci) (vwN ci), w ∈ lw_tbl ∧ stw w = true := by
  intro ci hc w hw
  unfold u_ws at hw
  obtain ⟨k, hk, rfl⟩ := List.mem_map.mp hw
  match ci, hc with
  | 0, _ => exact inT_mem lay0_ok hk
  | 1, _ => exact inT_mem lay1_ok hk
  | 2, _ => exact inT_mem lay2_ok hk
  | 3, _ => exact inT_mem lay3_ok hk
  | 4, _ => exact inT_mem lay4_ok hk
  | 5, _ => exact inT_mem lay5_ok hk
  | 6, _ => exact inT_mem lay6_ok hk
  | 7, _ => exact inT_mem lay7_ok hk
  | 8, _ => exact inT_mem lay8_ok hk
theorem nm_in : ∀ ci, ci < 9 → ∀ a, a < vwN ci → ∀ b, b < vwN ci → a ≠ b → (vwT ci a).2.1 ≠ (vwT ci b).2.1 := by
  intro ci hc
  match ci, hc with
  | 0, _ => exact nmX0
  | 1, _ => exact nmX1
  | 2, _ => exact nmX2
  | 3, _ => exact nmX3
  | 4, _ => exact nmX4
  | 5, _ => exact nmX5
  | 6, _ => exact nmX6
  | 7, _ => exact nmX7
  | 8, _ => exact nmX8
theorem ty_in : ∀ ci, ci < 9 → ∀ k, k < vwN ci → parseFieldDescriptor (vwT ci k).2.2.1 = some (tyT ci k) := by
  intro ci hc
  match ci, hc with
  | 0, _ => exact tyX0_ok
  | 1, _ => exact tyX1_ok
  | 2, _ => exact tyX2_ok
  | 3, _ => exact tyX3_ok
  | 4, _ => exact tyX4_ok
  | 5, _ => exact tyX5_ok
  | 6, _ => exact tyX6_ok
  | 7, _ => exact tyX7_ok
  | 8, _ => exact tyX8_ok
theorem dcl_in : ∀ ci, ci < 9 → ∀ k, k < vwN ci → (vwT ci k).1 = onm ci := by decide +kernel
/-- stable words as a list of its own -/
def lw_st : List Cond := lw_tbl.filter stw
theorem st_in {w : Cond} (h : w ∈ lw_tbl ∧ stw w = true) : w ∈ lw_st := List.mem_filter.mpr h
theorem TW.st {s : State} (h : TW s) (a : Array Value) : ∀ w ∈ lw_st, w.before a s = true := fun w hw => h w (List.mem_filter.mp hw).1 (List.mem_filter.mp hw).2 a
section Flds
variable {p : Program} {l : Launch} {e : Env} {R : Room} {s : State} {m : MethodId} {args : Array Value} {below : List Frame} {meth : Method} {c : Code} {Z : State → Prop} {ao : Nat → Nat} {HL : Heap} {D : va_G} {cA : Nat → ClassId} {L : Nat} {xs : Nat → Int32} {c0 u0 nL : Nat} {lm : Nat × Nat}
variable {X : KT} {pc nx : Nat} {st : List Value} {ls : LT} {h : MH} {cc : ByteArray} {H : Heap} {locs : List Loc} {cells slots : Nat} {lsR : Array Slot} {rest : List Value}
/-- a field of an object read, by either link -/
theorem x_get (hx : p.tables.exec = Jvm.exec) (hb : c.code = cc) {own ix ci k n : Nat} (hown : s.vm.findClass (onm own) = some m.cls) (hS : ST ao HL D cA L xs s) (hf : lk3 fT own ix = some (ci, k, n)) (hc : ci < 9) (hk : k < vwN ci) {a : Nat} (r : REP ao HL D cA L xs h H) (hkd : hkd h a = ci) (hdg : decode cc pc = .ok (.getfield ix, 3))
    (kk : W p l e R s m args below meth c H locs cells slots Z (F0 m (pc + 3) lsR (fvl (adr ao HL.size) h a ci k :: rest))) : W p l e R s m args below meth c H locs cells slots Z (F0 m pc lsR (.ref (adr ao HL.size a) :: rest)) := by
  obtain ⟨q, hq, q1, q2, q3⟩ := vwN_q ci hc
  obtain ⟨-, -, q', hq', cell, g1, g2, g3, g4⟩ := r.obj hkd hc
  cases hq.symm.trans hq'
  have hlnk := inT_mem fT_ok (lk3_mem hf)
  obtain ⟨hSl, hfc, kC, hkC, hkind⟩ := hS.1.1 ci _ hq
  rw [q1] at hfc
  rw [q2, q3] at hSl
  obtain ⟨cf, kf, fi, f, hi, hsl⟩ := hSl k hk
  have hst := (u_facts hfc hkC (u_lays (C := onm ci) (T := vwT ci) (N := vwN ci) (hS.2.1.st args) (fun w hw => st_in (lay_in ci hc w hw)) hk) hi).1
  have hslot : cell.slots[f.slot]? = some (fvl (adr ao HL.size) h a ci k) := by
    rw [hsl, g4 k (by rw [q3]; exact hk)]
    simp only [vp_V, List.getD_eq_getElem?_getD, List.getElem?_map, List.getElem?_range hk, Option.map_some, Option.getD_some]
  match n, hlnk with
  | 0, hlnk => exact W.getf hx hb hown (hS.2.1 _ hlnk.1 hlnk.2 args) hi hst g1 (by rw [g3]; exact fun h => by cases h) hslot rfl rfl hdg kk
  | n + 1, hlnk => exact va_Wgetf hx hb hown (hS.2.1 _ hlnk.1 hlnk.2 args) hi hst g1 (by rw [g3]; exact fun h => by cases h) hslot rfl rfl hdg kk
/-- a field written -/
theorem x_put (hx : p.tables.exec = Jvm.exec) (hb : c.code = cc) {own ix ci k n : Nat} {ini : Bool} (hown : s.vm.findClass (onm own) = some m.cls) (hS : ST ao HL D cA L xs s) (hf : lk3 fT own ix = some (ci, k, n)) (hc : ci < 9) (hk : k < vwN ci) (hini : ini = true → meth.name = "<init>") (hfin : (vwT ci k).2.2.2 = false ∨ (ini = true ∧ own = ci ∧ n = 0)) {a : Nat} {v : Value} (r : REP ao HL D cA L xs h H) (hkd' : hkd h a = ci) (hn : narrow (tyT ci k) v = v) (hfit : fits (tyT ci k) v = true) (hdg : decode cc pc = .ok (.putfield ix, 3))
    {h' : MH} (e1 : hsz h' = hsz h) (e2 : hkd h' = hkd h) (e3 : hln h' = hln h) (e4 : ∀ k, k ≠ a → hfi h' k = hfi h k ∧ hfj h' k = hfj h k ∧ hfr h' k = hfr h k ∧ hia h' k = hia h k ∧ hja h' k = hja h k ∧ hra h' k = hra h k) (e5 : ∀ j, j < vwN ci → fvl (adr ao HL.size) h' a ci j = if j = k then v else fvl (adr ao HL.size) h a ci j)
    (kk : ∀ (H' : Heap) (i : Nat), REP ao HL D cA L xs h' H' → 24 ≤ a → W p l e R s m args below meth c H' (locs ++ [⟨adr ao HL.size a, i⟩]) cells slots Z (F0 m (pc + 3) lsR rest)) : W p l e R s m args below meth c H locs cells slots Z (F0 m pc lsR (v :: .ref (adr ao HL.size a) :: rest)) := by
  obtain ⟨q, hq, q1, q2, q3⟩ := vwN_q ci hc
  obtain ⟨h24, hz, q', hq', cell, g1, g2, g3, g4⟩ := r.obj hkd' hc
  cases hq.symm.trans hq'
  have hlnk := inT_mem fT_ok (lk3_mem hf)
  have hts := hS.2.1.st args
  have hin : ∀ w ∈ u_ws (onm ci) (vwT ci) (vwN ci), w ∈ lw_st := fun w hw => st_in (lay_in ci hc w hw)
  have hq2 : vwCl[ci]? = some (onm ci, vwT ci, vwN ci) := by rw [hq, ← q1, ← q2, ← q3]
  have hap := va_apart (own := onm own) hts hin (tyT ci) (ty_in ci hc) (nm_in ci hc) hS.1 hq2
  obtain ⟨hSl, hfc, kC, hkC, hkind⟩ := hS.1.1 ci _ hq
  rw [q1] at hfc
  rw [q2, q3] at hSl
  obtain ⟨cf, kf, fi, f, hi, hsl⟩ := hSl k hk
  have hst := (u_facts hfc hkC (u_lays hts hin hk) hi).1
  have hlay := hts _ (hin _ (u_in_lay hk))
  have hd := ty_in ci hc k hk
  have hlt : f.slot < cell.slots.size := by rw [hsl]; exact k2_hasslot (g4 k (by rw [q3]; exact hk))
  have kk' : ∀ H' : Heap, H'[adr ao HL.size a]? = some (cell.setSlot f.slot v) → H'.size = H.size → (∀ q, q ≠ adr ao HL.size a → H'[q]? = H[q]?) → W p l e R s m args below meth c H' (locs ++ [⟨adr ao HL.size a, f.slot⟩]) cells slots Z (F0 m (pc + 3) lsR rest) := by
    intro H' f1 f2 f3
    rw [hsl] at f1
    exact kk H' _ (r.fld h24 hz hkd' hc hq hk q3 g1 g2 g3 g4 (by rw [q3]; exact hap) f1 f2 f3 e1 e2 e3 e4 e5) h24
  unfold u_lay at hlay
  by_cases hf1 : (vwT ci k).2.2.2 = false
  · rw [if_neg (by rw [hf1]; decide)] at hlay
    have h6 := u_store hfc hkC hkind hlay hi hd hn hfit
    match n, hlnk with
    | 0, hlnk => exact W.putK hx hb (f := f) ⟨hown, hS.2.1 _ hlnk.1 hlnk.2 args, ⟨_, _, _, hi⟩, hst⟩ (by rw [g2]; exact h6) g1 g3 hlt rfl rfl hdg kk'
    | n + 1, hlnk => exact va_WputK hx hb (f := f) hown (hS.2.1 _ hlnk.1 hlnk.2 args) hi hst (by rw [g2]; exact h6) g1 g3 hlt rfl rfl hdg kk'
  · rcases hfin with hf2 | ⟨i1, i2, i3⟩
    · exact absurd hf2 hf1
    · subst i3
      subst i2
      have hf1' : (vwT own k).2.2.2 = true := by simpa using hf1
      rw [if_pos hf1'] at hlay
      have hdecl : (vwT own k).1 = onm own := by
        have := dcl_in own hc k hk
        exact this
      have hcf : m.cls = cf := by
        obtain ⟨_, _, c', _, _, _, -, -, hf', -, -, -, hown2, -⟩ := Cond.laysFinal_spec hlay
        have e1 : c' = cf := by have := hi.symm.trans hf'; simp at this; exact this.1.symm
        rw [hdecl] at hown2
        rw [← e1]; exact Option.some.inj (hown.symm.trans hown2)
      have h6 := u_fits hfc hkC hkind (Or.inr hlay) hi hd hn hfit
      exact W.putFinK hx hb hown (hS.2.1 _ hlnk.1 hlnk.2 args) hi hst hcf (hini i1) (by rw [g2]; exact h6) g1 g3 hlt rfl rfl hdg kk'
end Flds
