/-! ===== one row, whichever it is ===== -/
theorem rm1 {a b c0 l n x : Nat} (h1 : a + c0 = l) (h2 : b + c0 = x) (h3 : x + n ≤ l) : b + n ≤ a := by omega
theorem lcmp_e (x y : Int64) : (if x < y then (-1 : Int32) else if x = y then 0 else 1) = lg_cmp x y := by
  unfold lg_cmp
  by_cases h1 : x < y
  · have h2 : ¬ y < x := lg_lt_not h1
    have h3 : ¬ x = y := fun e => by subst e; exact h2 h1
    simp [h1, h2, h3]
  · by_cases h3 : x = y
    · subst h3; simp [h1]
    · have h2 : y < x := by
        rw [Int64.lt_iff_toInt_lt] at *
        have : x.toInt ≠ y.toInt := fun e => h3 (Int64.toInt_inj.mp e)
        omega
      simp [h1, h2, h3]
theorem map_ret (f : Nat → Nat) (r : Option Value) (l : List Value) : (r.map (svl f)).toList ++ l.map (svl f) = (r.toList ++ l).map (svl f) := by cases r <;> rfl
theorem cat_sum (f : Nat → Nat) (l : List Value) (h : l.length ≤ 4) : ((l.map (svl f)).map fun v => v.category).sum ≤ 8 := by
  have h2 : ∀ l : List Value, ((l.map (svl f)).map fun v => v.category).sum ≤ 2 * l.length := by
    intro l
    induction l with
    | nil => simp
    | cons v l ih =>
      rw [List.map_cons, List.map_cons, List.sum_cons, List.length_cons]
      have hv : (svl f v).category ≤ 2 := by rw [svl_cat]; rcases lv_cat v with e | e <;> rw [e] <;> decide
      omega
  have := h2 l
  omega
section Row
variable {p : Program} {l : Launch} {e : Env} {R : Room} {s : State} {m : MethodId} {args : Array Value} {below : List Frame} {meth : Method} {c : Code} {Z : State → Prop} {ao : Nat → Nat} {HL : Heap} {D : va_G} {cA : Nat → ClassId} {L : Nat} {xs : Nat → Int32} {c0 u0 nL : Nat} {lm : Nat × Nat}
variable {X : KT} {pc nx : Nat} {st : List Value} {ls : LT} {h : MH} {cc : ByteArray}
theorem w_tsw {dflt lo hi : Int} {offs : Array Int} {len : Nat} (hx : p.tables.exec = Jvm.exec) (hb : c.code = cc) (hd : decode cc pc = .ok (.tableswitch dflt lo hi offs, len)) (hlo : (Int32.ofInt lo).toInt = lo) (hsz : lo + offs.size = hi + 1) (hdf : 0 ≤ (pc : Int) + dflt) (hof : ∀ o ∈ offs.toList, 0 ≤ (pc : Int) + o) (hX : ∀ pc st ls h, X pc st ls h → WS p l e R s m args below meth c Z ao HL D cA L xs c0 u0 nL lm pc st ls h) (q : s_tsw X ((pc : Int) + dflt).toNat (Int32.ofInt lo) (offs.toList.map fun o => ((pc : Int) + o).toNat) st ls h) : WS p l e R s m args below meth c Z ao HL D cA L xs c0 u0 nL lm pc st ls h := by
  unfold s_tsw at q; split at q
  · rename_i x r
    intro H locs cells slots lsR hs
    rw [hlo] at q
    have hlen : (offs.toList.map fun o => ((pc : Int) + o).toNat).length = offs.size := by simp
    rw [hlen] at q
    show W p l e R s m args below meth c H locs cells slots Z (F0 m pc lsR (.int x :: r.map (svl (adr ao HL.size))))
    by_cases c1 : x.toInt < lo ∨ lo + offs.size ≤ x.toInt
    · exact lv_tableOut hx hb hd (by omega) (Int.toNat_of_nonneg hdf).symm (hX _ _ _ _ (q.1 c1) H locs cells slots lsR hs)
    · have hk : (x.toInt - lo).toNat < offs.size := by omega
      have h2 := q.2 (x.toInt - lo).toNat hk (by omega)
      have hget : offs[(x.toInt - lo).toNat]? = some (offs[(x.toInt - lo).toNat]'hk) := Array.getElem?_eq_getElem hk
      have hmem : offs[(x.toInt - lo).toNat]'hk ∈ offs.toList := by simp
      have e2 : (offs.toList.map fun o => ((pc : Int) + o).toNat).getD (x.toInt - lo).toNat 0 = ((pc : Int) + offs[(x.toInt - lo).toNat]'hk).toNat := by
        simp [List.getD_eq_getElem?_getD, hk]
      rw [e2] at h2
      exact lv_tableIn hx hb hd (by omega) (by omega) hget (Int.toNat_of_nonneg (hof _ hmem)).symm (hX _ _ _ _ h2 H locs cells slots lsR hs)
  · exact q.elim
theorem SC.cn {h' : MH} {H H' : Heap} {locs L' : List Loc} {cells slots mc ms : Nat} {lsR : Array Slot} (q : SC ao HL D cA L xs c0 u0 nL lm ls h H locs cells slots lsR) (hL : ∀ q ∈ L', HL.size ≤ q.base) (h1 : REP ao HL D cA L xs h' H') (e1 : hcc h' = hcc h + mc) (e2 : hcu h' = hcu h + ms) (b1 : hcc h + mc ≤ lm.1) (b2 : hcu h + ms ≤ lm.2) : SC ao HL D cA L xs c0 u0 nL lm ls h' H' (locs ++ L') (cells + mc) (slots + ms) lsR := by
  obtain ⟨q1, q2, q3, q4, ⟨q5, q6⟩, q7⟩ := q
  refine ⟨h1, fun x hx => ?_, by omega, by omega, ⟨by omega, by omega⟩, q7⟩
  rcases List.mem_append.mp hx with hx | hx
  · exact q2 x hx
  · exact hL x hx
theorem w_inv {G : GT} {own ix y n d : Nat} (hx : p.tables.exec = Jvm.exec) (hb : c.code = cc) (hml : c.maxLocals = nL) (hS : ST ao HL D cA L xs s) (hown : s.vm.findClass (onm own) = some m.cls) (hRf : d + 7 ≤ R.frames) (hRl : 60 * (d + 7) ≤ R.locals) (hRc : R.cells + c0 = lm.1) (hRs : R.slots + u0 = lm.2) (hG : ∀ y av h P, G y av h P → y < 257 → MET l ao HL D cA L xs d y av h P) (hf : lk3 cT own ix = some (y, n)) (hy : y < 257) (hkd : (mE y).2.2.2.2.2.1 = 0) (hd : decode cc pc = .ok (.invokestatic ix, 3)) (hX : ∀ pc st ls h, X pc st ls h → WS p l e R s m args below meth c Z ao HL D cA L xs c0 u0 nL lm pc st ls h) (b1 : hcc h ≤ lm.1 → hcc h + (mA y).1 ≤ lm.1) (b2 : hcu h ≤ lm.2 → hcu h + (mA y).2 ≤ lm.2) (q : s_inv X (pc + 3) G y (mE y).2.2.2.2.2.2 st ls h) : WS p l e R s m args below meth c Z ao HL D cA L xs c0 u0 nL lm pc st ls h := by
  intro H locs cells slots lsR hs
  obtain ⟨⟨n1, n2⟩, q⟩ := q
  obtain ⟨r1, r2, r3, r4, ⟨r5, r6⟩, r7⟩ := id hs
  have hb1 := b1 r5
  have hb2 := b2 r6
  have est : st.map (svl (adr ao HL.size)) = (((st.take (mE y).2.2.2.2.2.2).reverse).map (svl (adr ao HL.size))).reverse ++ (st.drop (mE y).2.2.2.2.2.2).map (svl (adr ao HL.size)) := by
    rw [List.map_reverse, List.reverse_reverse, ← List.map_append, List.take_append_drop]
  rw [est]
  refine x_callS hx hb hml r7.2.1 hS hown hf hy hkd (hG _ _ _ _ q hy) r1 (by simp [n1]) (cat_sum _ _ (by simp; omega)) hRf hRl (rm1 hRc r3 hb1) (rm1 hRs r4 hb2) hd (fun H' L' r h' hL hR hP e1 e2 => ?_)
  rw [map_ret]
  exact hX _ _ _ _ hP H' _ _ _ lsR (hs.cn hL hR e1 e2 hb1 hb2)
theorem take_succ' {st : List Value} {n q : Nat} (h : st[n]? = some (.ref q)) : st = st.take n ++ .ref q :: st.drop (n + 1) := by
  have hlt : n < st.length := (List.getElem?_eq_some_iff.mp h).1
  have e : st[n]'hlt = .ref q := (List.getElem?_eq_some_iff.mp h).2
  rw [← e, ← List.drop_eq_getElem_cons hlt, List.take_append_drop]
theorem w_inr {G : GT} {own ix y n d kd : Nat} {ins : Instr} (hx : p.tables.exec = Jvm.exec) (hb : c.code = cc) (hml : c.maxLocals = nL) (hS : ST ao HL D cA L xs s) (hown : s.vm.findClass (onm own) = some m.cls) (hRf : d + 7 ≤ R.frames) (hRl : 60 * (d + 7) ≤ R.locals) (hRc : R.cells + c0 = lm.1) (hRs : R.slots + u0 = lm.2) (hG : ∀ y av h P, G y av h P → y < 257 → MET l ao HL D cA L xs d y av h P) (hf : lk3 cT own ix = some (y, n)) (hy : y < 257) (hkd : (mE y).2.2.2.2.2.1 = kd) (hins : (kd = 1 ∧ ins = .invokevirtual ix) ∨ (kd = 2 ∧ ins = .invokespecial ix)) (hd : decode cc pc = .ok (ins, 3)) (hX : ∀ pc st ls h, X pc st ls h → WS p l e R s m args below meth c Z ao HL D cA L xs c0 u0 nL lm pc st ls h) (b1 : hcc h ≤ lm.1 → hcc h + (mA y).1 ≤ lm.1) (b2 : hcu h ≤ lm.2 → hcu h + (mA y).2 ≤ lm.2) (q : s_inr X (pc + 3) G y (mE y).2.2.2.2.2.2 (mE y).2.2.2.2.1 st ls h) : WS p l e R s m args below meth c Z ao HL D cA L xs c0 u0 nL lm pc st ls h := by
  intro H locs cells slots lsR hs
  obtain ⟨⟨⟨n1, n2⟩, qa, hqa, hka⟩, q⟩ := q
  obtain ⟨r1, r2, r3, r4, ⟨r5, r6⟩, r7⟩ := id hs
  have hb1 := b1 r5
  have hb2 := b2 r6
  have est0 := take_succ' hqa
  have hq2 : (st.take ((mE y).2.2.2.2.2.2 + 1)).reverse = .ref qa :: (st.take (mE y).2.2.2.2.2.2).reverse := by
    rw [List.take_succ, hqa]
    simp
  rw [hq2] at q
  have est : st.map (svl (adr ao HL.size)) = (((st.take (mE y).2.2.2.2.2.2).reverse).map (svl (adr ao HL.size))).reverse ++ .ref (adr ao HL.size qa) :: (st.drop ((mE y).2.2.2.2.2.2 + 1)).map (svl (adr ao HL.size)) := by
    conv => lhs; rw [est0]
    rw [List.map_append, List.map_reverse, List.reverse_reverse]
    rfl
  rw [est]
  rcases hins with ⟨k1, rfl⟩ | ⟨k1, rfl⟩
  · refine x_callV hx hb hml r7.2.1 hS hown hf hy (hkd.trans k1) hka (hG _ _ _ _ q hy) r1 (by simp; omega) (cat_sum _ _ (by simp; omega)) hRf hRl (rm1 hRc r3 hb1) (rm1 hRs r4 hb2) hd (fun H' L' r h' hL hR hP e1 e2 => ?_)
    rw [map_ret]
    exact hX _ _ _ _ hP H' _ _ _ lsR (hs.cn hL hR e1 e2 hb1 hb2)
  · refine x_callI hx hb hml r7.2.1 hS hown hf hy (hkd.trans k1) (hG _ _ _ _ q hy) r1 (by simp; omega) (cat_sum _ _ (by simp; omega)) hRf hRl (rm1 hRc r3 hb1) (rm1 hRs r4 hb2) hd (fun H' L' r h' hL hR hP e1 e2 => ?_)
    rw [map_ret]
    exact hX _ _ _ _ hP H' _ _ _ lsR (hs.cn hL hR e1 e2 hb1 hb2)
end Row
