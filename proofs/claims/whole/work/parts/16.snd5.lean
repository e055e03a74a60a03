/-! ===== arrays, new cells ===== -/
theorem svl_rfv (f : Nat → Nat) (r : Option Nat) : svl f (rfv r) = va_rf (r.map f) := by cases r <;> rfl
theorem fvl_r (f : Nat → Nat) (h : MH) (k ci j : Nat) (e : fty ci j = 2) : fvl f h k ci j = svl f (rfv (hfr h k j)) := by
  unfold fvl; rw [e]; cases hfr h k j <;> rfl
section Arrs
variable {p : Program} {l : Launch} {e : Env} {R : Room} {s : State} {m : MethodId} {args : Array Value} {below : List Frame} {meth : Method} {c : Code} {Z : State → Prop} {ao : Nat → Nat} {HL : Heap} {D : va_G} {cA : Nat → ClassId} {L : Nat} {xs : Nat → Int32} {c0 u0 nL : Nat} {lm : Nat × Nat}
variable {X : KT} {pc nx : Nat} {st : List Value} {ls : LT} {h : MH} {cc : ByteArray} {H : Heap} {locs : List Loc} {cells slots : Nat} {lsR : Array Slot} {rest : List Value}
theorem x_iald (hx : p.tables.exec = Jvm.exec) (hb : c.code = cc) (hS : ST ao HL D cA L xs s) {a : Nat} {i : Int32} (r : REP ao HL D cA L xs h H) (hk : hkd h a = 20) (hin : vp_in i (hln h a)) (hdg : decode cc pc = .ok (.iaload, 1))
    (kk : W p l e R s m args below meth c H locs cells slots Z (F0 m (pc + 1) lsR (.int (hia h a i.toNatClampNeg) :: rest))) : W p l e R s m args below meth c H locs cells slots Z (F0 m pc lsR (.int i :: .ref (adr ao HL.size a) :: rest)) := by
  obtain ⟨cell, g1, g2, g3, g4, g5⟩ := r.ints hS hk
  have hlt : i.toNatClampNeg < hln h a := Nat.not_le.mp fun q => hin (Or.inr q)
  exact W.iald hx hb g1 g2 g3 (fun z => hin (z.imp id (fun z => Nat.le_trans g4.1 z))) (g5 _ hlt) rfl rfl hdg kk
theorem x_zald (hx : p.tables.exec = Jvm.exec) (hb : c.code = cc) (hS : ST ao HL D cA L xs s) {a : Nat} {i : Int32} (r : REP ao HL D cA L xs h H) (hk : hkd h a = 22) (hin : vp_in i (hln h a)) (hdg : decode cc pc = .ok (.baload, 1))
    (kk : W p l e R s m args below meth c H locs cells slots Z (F0 m (pc + 1) lsR (.int (hia h a i.toNatClampNeg) :: rest))) : W p l e R s m args below meth c H locs cells slots Z (F0 m pc lsR (.int i :: .ref (adr ao HL.size a) :: rest)) := by
  have g1 := r.arr (Or.inr hk) (r.hi (Or.inr (by omega))).1
  rw [hk] at g1
  have hlt : i.toNatClampNeg < hln h a := Nat.not_le.mp fun q => hin (Or.inr q)
  exact W.zald (v := .int (hia h a i.toNatClampNeg)) hx hb g1 ((hS.1.2 2 _ rfl).1 _ (fun j => .int (hia h a j))) (fun q => by cases q) (by show ¬ (i < 0 ∨ (arrV _ _ _).slots.size ≤ _); rw [arrV_size]; exact hin) (by show (arrV _ _ _).slots[_]? = _; rw [arrV_read _ _ hlt]) rfl rfl hdg kk
theorem x_jald (hx : p.tables.exec = Jvm.exec) (hb : c.code = cc) (hS : ST ao HL D cA L xs s) {a : Nat} {i : Int32} (r : REP ao HL D cA L xs h H) (hk : hkd h a = 21) (hin : vp_in i (hln h a)) (hdg : decode cc pc = .ok (.laload, 1))
    (kk : W p l e R s m args below meth c H locs cells slots Z (F0 m (pc + 1) lsR (.long (hja h a i.toNatClampNeg) :: rest))) : W p l e R s m args below meth c H locs cells slots Z (F0 m pc lsR (.int i :: .ref (adr ao HL.size a) :: rest)) := by
  obtain ⟨-, -, g1⟩ := r.arrJ hk
  have hlt : i.toNatClampNeg < hln h a := Nat.not_le.mp fun q => hin (Or.inr q)
  exact W.lald (v := .long (hja h a i.toNatClampNeg)) hx hb g1 ((hS.1.2 1 _ rfl).1 _ (fun j => .long (hja h a j))) (fun q => by cases q) (by show ¬ (i < 0 ∨ (arrV _ _ _).slots.size ≤ _); rw [arrV_size]; exact hin) (by show (arrV _ _ _).slots[_]? = _; rw [arrV_read _ _ hlt]) rfl rfl hdg kk
theorem aTy_r {U : State} (hS : ST ao HL D cA L xs U) {kd : Nat} (hk : 23 ≤ kd ∧ kd ≤ 25) : ∃ C : String, C = onm (rkd kd) ∧ ArrOfT U (cA kd) (.object C) ∧ va_RA U (cA kd) (.object C) := by
  rcases (show kd = 23 ∨ kd = 24 ∨ kd = 25 by omega) with e | e | e <;> subst e
  · exact ⟨_, rfl, hS.1.2 3 _ rfl⟩
  · exact ⟨_, rfl, hS.1.2 4 _ rfl⟩
  · exact ⟨_, rfl, hS.1.2 5 _ rfl⟩
theorem x_aald (hx : p.tables.exec = Jvm.exec) (hb : c.code = cc) (hS : ST ao HL D cA L xs s) {a : Nat} {i : Int32} (r : REP ao HL D cA L xs h H) (hk : 23 ≤ hkd h a ∧ hkd h a ≤ 25) (hin : vp_in i (hln h a)) (hdg : decode cc pc = .ok (.aaload, 1))
    (kk : W p l e R s m args below meth c H locs cells slots Z (F0 m (pc + 1) lsR (svl (adr ao HL.size) (rfv (hra h a i.toNatClampNeg)) :: rest))) : W p l e R s m args below meth c H locs cells slots Z (F0 m pc lsR (.int i :: .ref (adr ao HL.size a) :: rest)) := by
  obtain ⟨-, -, g1⟩ := r.arrR hk
  obtain ⟨C, -, g2, -⟩ := aTy_r hS hk
  rw [svl_rfv] at kk
  have hlt : i.toNatClampNeg < hln h a := Nat.not_le.mp fun q => hin (Or.inr q)
  exact W.aald (v := va_rf ((hra h a i.toNatClampNeg).map (adr ao HL.size))) (ty := .object C) hx hb g1 (g2 _ (fun j => va_rf ((hra h a j).map (adr ao HL.size)))) rfl (fun q => by cases q) (by show ¬ (i < 0 ∨ (arrV _ _ _).slots.size ≤ _); rw [arrV_size]; exact hin) (by show (arrV _ _ _).slots[_]? = _; rw [arrV_read _ _ hlt]) rfl rfl hdg kk
theorem x_iast (hx : p.tables.exec = Jvm.exec) (hb : c.code = cc) (hS : ST ao HL D cA L xs s) {a : Nat} {i x : Int32} (r : REP ao HL D cA L xs h H) (h24 : 24 ≤ a) (hk : hkd h a = 20) (hin : vp_in i (hln h a)) (hdg : decode cc pc = .ok (.iastore, 1))
    (kk : ∀ H' : Heap, REP ao HL D cA L xs (sIA h a (up1 (hia h a) i.toNatClampNeg x)) H' → W p l e R s m args below meth c H' (locs ++ [⟨adr ao HL.size a, i.toNatClampNeg⟩]) cells slots Z (F0 m (pc + 1) lsR rest)) : W p l e R s m args below meth c H locs cells slots Z (F0 m pc lsR (.int x :: .int i :: .ref (adr ao HL.size a) :: rest)) := by
  have g1 := r.arr (Or.inl hk) h24
  rw [hk] at g1
  refine W.iast hx hb g1 ((hS.1.2 0 _ rfl).1 _ (fun j => .int (hia h a j))) (fun q => by cases q) (by show ¬ (i < 0 ∨ (arrV _ _ _).slots.size ≤ _); rw [arrV_size]; exact hin) rfl rfl hdg fun H1 e1 z oq => kk H1 (r.wIA h24 (Or.inl hk) z oq ?_)
  rw [e1, hk, vp_cell_i, vp_cell_i, arrV_store]
  congr 2
  funext q
  by_cases hq : q = i.toNatClampNeg
  · subst hq; simp [updV, up1]
  · simp [updV, up1, hq]
theorem x_zast (hx : p.tables.exec = Jvm.exec) (hb : c.code = cc) (hS : ST ao HL D cA L xs s) {a : Nat} {i x : Int32} (r : REP ao HL D cA L xs h H) (hk : hkd h a = 22) (hin : vp_in i (hln h a)) (hz : x = 0 ∨ x = 1) (hdg : decode cc pc = .ok (.bastore, 1))
    (kk : ∀ H' : Heap, REP ao HL D cA L xs (sIA h a (up1 (hia h a) i.toNatClampNeg x)) H' → W p l e R s m args below meth c H' (locs ++ [⟨adr ao HL.size a, i.toNatClampNeg⟩]) cells slots Z (F0 m (pc + 1) lsR rest)) : W p l e R s m args below meth c H locs cells slots Z (F0 m pc lsR (.int x :: .int i :: .ref (adr ao HL.size a) :: rest)) := by
  have h24 := (r.hi (a := a) (Or.inr (by omega))).1
  have g1 := r.arr (Or.inr hk) h24
  rw [hk] at g1
  have hn : narrow .boolean (.int x) = .int x := by rcases hz with rfl | rfl <;> rfl
  refine W.zast hx hb g1 ((hS.1.2 2 _ rfl).1 _ (fun j => .int (hia h a j))) (fun q => by cases q) (by show ¬ (i < 0 ∨ (arrV _ _ _).slots.size ≤ _); rw [arrV_size]; exact hin) rfl rfl hdg fun H1 e1 z oq => kk H1 (r.wIA h24 (Or.inr hk) z oq ?_)
  rw [e1, hn, hk, vp_cell_i, vp_cell_i, arrV_store]
  congr 2
  funext q
  by_cases hq : q = i.toNatClampNeg
  · subst hq; simp [updV, up1]
  · simp [updV, up1, hq]
theorem x_jast (hx : p.tables.exec = Jvm.exec) (hb : c.code = cc) (hS : ST ao HL D cA L xs s) {a : Nat} {i : Int32} {x : Int64} (r : REP ao HL D cA L xs h H) (hk : hkd h a = 21) (hin : vp_in i (hln h a)) (hdg : decode cc pc = .ok (.lastore, 1))
    (kk : ∀ H' : Heap, REP ao HL D cA L xs (sJA h a (up1 (hja h a) i.toNatClampNeg x)) H' → W p l e R s m args below meth c H' (locs ++ [⟨adr ao HL.size a, i.toNatClampNeg⟩]) cells slots Z (F0 m (pc + 1) lsR rest)) : W p l e R s m args below meth c H locs cells slots Z (F0 m pc lsR (.long x :: .int i :: .ref (adr ao HL.size a) :: rest)) := by
  obtain ⟨h24, -, g1⟩ := r.arrJ hk
  refine W.last hx hb g1 ((hS.1.2 1 _ rfl).1 _ (fun j => .long (hja h a j))) (fun q => by cases q) (by show ¬ (i < 0 ∨ (arrV _ _ _).slots.size ≤ _); rw [arrV_size]; exact hin) rfl rfl hdg fun H1 e1 z oq => kk H1 (r.wJA h24 hk z oq ?_)
  rw [e1, vp_cell_l, vp_cell_l, arrV_store]
  congr 2
  funext q
  by_cases hq : q = i.toNatClampNeg
  · subst hq; simp [updV, up1]
  · simp [updV, up1, hq]
theorem x_aast (hx : p.tables.exec = Jvm.exec) (hb : c.code = cc) (hS : ST ao HL D cA L xs s) {a v : Nat} {i : Int32} (r : REP ao HL D cA L xs h H) (hk : 23 ≤ hkd h a ∧ hkd h a ≤ 25) (hv : hkd h v = rkd (hkd h a)) (hin : vp_in i (hln h a)) (hdg : decode cc pc = .ok (.aastore, 1))
    (kk : ∀ H' : Heap, REP ao HL D cA L xs (sRA h a (up1 (hra h a) i.toNatClampNeg (some v))) H' → W p l e R s m args below meth c H' (locs ++ [⟨adr ao HL.size a, i.toNatClampNeg⟩]) cells slots Z (F0 m (pc + 1) lsR rest)) : W p l e R s m args below meth c H locs cells slots Z (F0 m pc lsR (.ref (adr ao HL.size v) :: .int i :: .ref (adr ao HL.size a) :: rest)) := by
  obtain ⟨h24, -, g1⟩ := r.arrR hk
  obtain ⟨C, hC, -, ⟨kA, comp, k1, k2, k3, -⟩⟩ := aTy_r hS hk
  have hr9 : rkd (hkd h a) < 9 := by unfold rkd; split <;> first | decide | (split <;> decide)
  obtain ⟨-, -, q, hq, cellV, v1, v2, v3, -⟩ := r.obj hv hr9
  obtain ⟨q', hq', q1, -, -⟩ := vwN_q _ hr9
  cases hq.symm.trans hq'
  have hcls := (hS.1.1 _ q hq).2
  have hcomp : comp = D.1 (rkd (hkd h a)) := by
    have h5 := hcls.1
    rw [q1, ← hC] at h5
    exact Option.some.inj (k3.symm.trans h5)
  subst hcomp
  obtain ⟨kC, hkC, -⟩ := hcls.2
  have hlt : i.toNatClampNeg < hln h a := Nat.not_le.mp fun q => hin (Or.inr q)
  refine W.aast hx hb g1 (fun q h => by cases h) (fun h => by cases h) k1 k2 rfl hkC ⟨fun q => hin (Or.inl q), by show _ < (arrV _ _ _).slots.size; rw [arrV_size]; exact hlt⟩ v1 (fun q h => by rw [v3] at h; cases h) (by rw [v2]; exact hkC) (by rw [v2]; exact va_assign hcls) rfl rfl hdg fun H1 e1 z oq => kk H1 (r.wRA h24 hk z oq ?_)
  rw [e1, vp_cell_q, vp_cell_q, arrV_store]
  congr 2
  funext q
  by_cases hq : q = i.toNatClampNeg
  · subst hq; simp [updV, up1, va_rf]
  · simp [updV, up1, hq]
theorem x_aastN (hx : p.tables.exec = Jvm.exec) (hb : c.code = cc) (hS : ST ao HL D cA L xs s) {a : Nat} {i : Int32} (r : REP ao HL D cA L xs h H) (hk : 23 ≤ hkd h a ∧ hkd h a ≤ 25) (hin : vp_in i (hln h a)) (hdg : decode cc pc = .ok (.aastore, 1))
    (kk : ∀ H' : Heap, REP ao HL D cA L xs (sRA h a (up1 (hra h a) i.toNatClampNeg none)) H' → W p l e R s m args below meth c H' (locs ++ [⟨adr ao HL.size a, i.toNatClampNeg⟩]) cells slots Z (F0 m (pc + 1) lsR rest)) : W p l e R s m args below meth c H locs cells slots Z (F0 m pc lsR (.null :: .int i :: .ref (adr ao HL.size a) :: rest)) := by
  obtain ⟨h24, -, g1⟩ := r.arrR hk
  obtain ⟨C, hC, g2, -⟩ := aTy_r hS hk
  refine va_WaastN (C := C) hx hb g1 (g2 _ (fun j => va_rf ((hra h a j).map (adr ao HL.size)))) (fun h => by cases h) (by show ¬ (i < 0 ∨ (arrV _ _ _).slots.size ≤ _); rw [arrV_size]; exact hin) rfl rfl hdg fun H1 e1 z oq => kk H1 (r.wRA h24 hk z oq ?_)
  rw [e1, vp_cell_q, vp_cell_q, arrV_store]
  congr 2
  funext q
  by_cases hq : q = i.toNatClampNeg
  · subst hq; simp [updV, up1, va_rf]
  · simp [updV, up1, hq]
theorem x_alen (hx : p.tables.exec = Jvm.exec) (hb : c.code = cc) (hS : ST ao HL D cA L xs s) {a : Nat} (r : REP ao HL D cA L xs h H) (hk : 20 ≤ hkd h a ∧ hkd h a ≤ 25) (hdg : decode cc pc = .ok (.arraylength, 1))
    (kk : W p l e R s m args below meth c H locs cells slots Z (F0 m (pc + 1) lsR (.int (nI (hln h a)) :: rest))) : W p l e R s m args below meth c H locs cells slots Z (F0 m pc lsR (.ref (adr ao HL.size a) :: rest)) := by
  rcases (show hkd h a = 20 ∨ hkd h a = 21 ∨ hkd h a = 22 ∨ (23 ≤ hkd h a ∧ hkd h a ≤ 25) by omega) with k | k | k | k
  · obtain ⟨cell, g1, g2, g3, g4, -⟩ := r.ints hS k
    exact W.alen (n := nI (hln h a)) hx hb g1 g2 g4.2 rfl rfl hdg kk
  · obtain ⟨-, -, g1⟩ := r.arrJ k
    exact W.alen (n := nI (hln h a)) hx hb g1 ((hS.1.2 1 _ rfl).1 _ (fun j => .long (hja h a j))) (by rw [vp_cell_l, arrV_size]; rfl) rfl rfl hdg kk
  · have g1 := r.arr (Or.inr k) (r.hi (Or.inr (by omega))).1
    rw [k] at g1
    exact W.alen (n := nI (hln h a)) hx hb g1 ((hS.1.2 2 _ rfl).1 _ (fun j => .int (hia h a j))) (by rw [vp_cell_i, arrV_size]; rfl) rfl rfl hdg kk
  · obtain ⟨-, -, g1⟩ := r.arrR k
    obtain ⟨C, hC, g2, -⟩ := aTy_r hS k
    exact W.alen (n := nI (hln h a)) hx hb g1 (g2 _ (fun j => va_rf ((hra h a j).map (adr ao HL.size)))) (by rw [vp_cell_q, arrV_size]; rfl) rfl rfl hdg kk
theorem REP.sz (r : REP ao HL D cA L xs h H) : adr ao HL.size (hsz h) = H.size := by
  rw [adr_hi r.1, r.2.1]
theorem hnew_e {h : MH} {kd n : Nat} : ∀ k, k ≠ hsz h → hkd (hnew h kd n) k = hkd h k ∧ hln (hnew h kd n) k = hln h k ∧ hfi (hnew h kd n) k = hfi h k ∧ hfj (hnew h kd n) k = hfj h k ∧ hfr (hnew h kd n) k = hfr h k ∧ hia (hnew h kd n) k = hia h k ∧ hja (hnew h kd n) k = hja h k ∧ hra (hnew h kd n) k = hra h k := fun k e => ⟨up1_ne e, up1_ne e, up1_ne e, up1_ne e, up1_ne e, up1_ne e, up1_ne e, up1_ne e⟩
theorem up1_self {α : Type} (f : Nat → α) (a : Nat) (x : α) : up1 f a x a = x := if_pos rfl
/-- the array of a type that newarray makes: its class -/
theorem x_newa (hx : p.tables.exec = Jvm.exec) (hb : c.code = cc) (hS : ST ao HL D cA L xs s) {n : Int32} (r : REP ao HL D cA L xs h H) {at_ : ArrayType} {kd : Nat} (hkd3 : (at_ = .int ∧ kd = 20) ∨ (at_ = .long ∧ kd = 21) ∨ (at_ = .boolean ∧ kd = 22)) (hn : ¬ n < 0) (hn2 : n.toNatClampNeg ≤ 40000) (hc : cells + 1 ≤ R.cells) (hs : slots + n.toNatClampNeg ≤ R.slots) (hdg : decode cc pc = .ok (.newarray at_, 2))
    (kk : ∀ H' : Heap, REP ao HL D cA L xs (hnew h kd n.toNatClampNeg) H' → W p l e R s m args below meth c H' locs (cells + 1) (slots + n.toNatClampNeg) Z (F0 m (pc + 2) lsR (.ref (adr ao HL.size (hsz h)) :: rest))) : W p l e R s m args below meth c H locs cells slots Z (F0 m pc lsR (.int n :: rest)) := by
  have hw : (Cond.arrayClass (newarray.typeOf at_)).before args s = true := by
    have hT := hS.2.1
    rcases hkd3 with ⟨rfl, -⟩ | ⟨rfl, -⟩ | ⟨rfl, -⟩
    · exact hT _ (tin1 (List.mem_of_getElem? (i := 99) rfl)) rfl args
    · exact hT _ (tin2 (List.mem_of_getElem? (i := 47) rfl)) rfl args
    · exact hT _ (tin5 (List.mem_of_getElem? (i := 148) rfl)) rfl args
  have hbytes : n.toNatClampNeg * componentBytes (newarray.typeOf at_) ≤ 536870912 := by
    rcases hkd3 with ⟨rfl, -⟩ | ⟨rfl, -⟩ | ⟨rfl, -⟩ <;> exact Nat.le_trans (Nat.mul_le_mul_right _ hn2) (by decide)
  refine va_newaK (g := F0 m pc lsR (.int n :: rest)) hx hb hw rfl hdg rfl hn rfl hbytes hc hs r.sz.symm fun H' cA' e1 z1 o1 hAr hNm => ?_
  refine kk H' (r.new (by rw [z1, r.sz]) (fun q hq => o1 q (by rw [r.sz]; exact hq)) rfl hnew_e ?_ ?_)
  · show up1 (hkd h) (hsz h) kd (hsz h) ≤ 8 ∨ _
    rw [up1_self]
    rcases hkd3 with ⟨-, rfl⟩ | ⟨-, rfl⟩ | ⟨-, rfl⟩ <;> (right; show 20 ≤ up1 (hkd h) (hsz h) _ (hsz h) ∧ up1 (hkd h) (hsz h) _ (hsz h) ≤ 25; rw [up1_self]; decide)
  · have hk' : hkd (hnew h kd n.toNatClampNeg) (hsz h) = kd := up1_self _ _ _
    have hl' : hln (hnew h kd n.toNatClampNeg) (hsz h) = n.toNatClampNeg := up1_self _ _ _
    have hi' : hia (hnew h kd n.toNatClampNeg) (hsz h) = fun _ => 0 := up1_self _ _ _
    have hj' : hja (hnew h kd n.toNatClampNeg) (hsz h) = fun _ => 0 := up1_self _ _ _
    rcases hkd3 with ⟨rfl, rfl⟩ | ⟨rfl, rfl⟩ | ⟨rfl, rfl⟩
    · have hcA : cA' = cA 20 := Option.some.inj (hNm.symm.trans (hS.1.2 0 _ rfl).2)
      rw [cel_kd (Or.inl hk'), hk', hl', hi']
      subst hcA
      exact e1
    · have hcA : cA' = cA 21 := Option.some.inj (hNm.symm.trans (hS.1.2 1 _ rfl).2)
      rw [cel_J hk', hl', hj']
      subst hcA
      exact e1
    · have hcA : cA' = cA 22 := Option.some.inj (hNm.symm.trans (hS.1.2 2 _ rfl).2)
      rw [cel_kd (Or.inr hk'), hk', hl', hi']
      subst hcA
      exact e1
end Arrs
