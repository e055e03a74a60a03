/-! ===== every call of the small machine is a contract over the real one ===== -/
theorem padL_len : ∀ (l : LT) (n : Nat), l.length ≤ n → (padL l n).length = n
  | [], 0, _ => rfl
  | [], n + 1, _ => by show (none :: padL [] n).length = _; rw [List.length_cons, padL_len [] n (Nat.zero_le _)]
  | x :: l, 0, h => by simp at h
  | x :: l, n + 1, h => by show (x :: padL l n).length = _; rw [List.length_cons, padL_len l n (by simpa using h)]
theorem padL_get : ∀ (l : LT) (n i : Nat) (v : Value), lget (padL l n) i = some v → lget l i = some v
  | l, 0, i, v, h => by
    have : padL l 0 = l := by cases l <;> rfl
    rw [this] at h; exact h
  | [], n + 1, 0, v, h => by cases h
  | [], n + 1, i + 1, v, h => by
    have := padL_get [] n i v h
    cases this
  | x :: l, n + 1, 0, v, h => h
  | x :: l, n + 1, i + 1, v, h => padL_get l n i v h
theorem argL_len (f : Nat → Nat) : ∀ (vs : List Value), (argL vs).length = (lg_sl (vs.map (svl f))).length
  | [] => rfl
  | v :: vs => by
    have ih := argL_len f vs
    unfold argL
    simp only [List.map_cons, lg_sl, List.flatMap_cons, svl_cat]
    unfold lg_sl at ih
    split <;> simp [ih] <;> omega
theorem argL_get (f : Nat → Nat) : ∀ (vs : List Value) (i : Nat) (v : Value) (k : Nat), lget (argL vs) i = some v → (k + i, svl f v) ∈ lv_args k (vs.map (svl f))
  | [], i, v, k, h => by cases h
  | w :: vs, i, v, k, h => by
    unfold argL at h
    simp only [List.map_cons, lv_args, svl_cat]
    split at h
    · rename_i hc
      rw [if_pos hc]
      match i, h with
      | 0, h => cases h; exact List.mem_cons_self
      | 1, h => cases h
      | i + 2, h =>
        have := argL_get f vs i v (k + 2) h
        rw [show k + 2 + i = k + (i + 2) by omega] at this
        exact List.mem_cons_of_mem _ this
    · rename_i hc
      rw [if_neg hc]
      match i, h with
      | 0, h => cases h; exact List.mem_cons_self
      | i + 1, h =>
        have := argL_get f vs i v (k + 1) h
        rw [show k + 1 + i = k + (i + 1) by omega] at this
        exact List.mem_cons_of_mem _ this
theorem LRL_entry {f : Nat → Nat} {vs : List Value} {n : Nat} (h : (argL vs).length ≤ n) : LRL f (padL (argL vs) n) n ((lg_sl (vs.map (svl f)) ++ List.replicate (n - (lg_sl (vs.map (svl f))).length) Slot.unset).toArray) := by
  have hl := lv_entry (vs.map (svl f)) (n := n) (by rw [← argL_len f]; exact h)
  refine ⟨padL_len _ _ h, hl.1, hl.2.1, fun i v hv => ?_⟩
  have := hl.2.2 (0 + i, svl f v) (argL_get f vs i v 0 (padL_get _ _ _ _ hv))
  rw [Nat.zero_add] at this
  exact this
theorem rz_0 {r : Option FieldType} (h : rzT r = 0) : r = some .int := by
  unfold rzT at h; split at h <;> first | rfl | cases h
theorem rz_1 {r : Option FieldType} (h : rzT r = 1) : r = some .boolean := by
  unfold rzT at h; split at h <;> first | rfl | cases h
theorem rz_2 {r : Option FieldType} (h : rzT r = 2) : r = some .long := by
  unfold rzT at h; split at h <;> first | rfl | cases h
theorem rz_3 {r : Option FieldType} (h : rzT r = 3) : ∃ t, r = some t ∧ ((∃ n, t = .object n) ∨ ∃ u, t = .array u) := by
  unfold rzT at h; split at h <;> first | exact ⟨_, rfl, Or.inl ⟨_, rfl⟩⟩ | exact ⟨_, rfl, Or.inr ⟨_, rfl⟩⟩ | cases h
theorem rz_4 {r : Option FieldType} (h : rzT r = 4) : r = none := by
  unfold rzT at h; split at h <;> first | rfl | cases h
theorem mE_get {y : Nat} {b : MethodName × ByteArray × Nat × Option FieldType × Nat × Nat × Nat} (h : mT[y]? = some b) : mE y = b := by
  unfold mE
  rw [List.getD_eq_getElem?_getD, h]
  rfl
set_option maxHeartbeats 4000000 in
/-- a method's body, from WP to the machine: P' is what it comes to, with its cells charged -/
theorem snd_body {l : Launch} {ao : Nat → Nat} {HL : Heap} {D : va_G} {cA : Nat → ClassId} {L : Nat} {xs : Nat → Int32} {d y : Nat} {cd : Nat → Option PI} {av : List Value} {h : MH} {P Q' : RT} {mc ms : Nat}
    (hG : ∀ y av h P, callD d y av h P → y < 257 → MET l ao HL D cA L xs d y av h P) (hy : y < 257) (hmA : mA y = (mc, ms))
    (hcd : ∀ pc r, cd pc = some r → RowOK (mE y).2.2.2.2.1 (mE y).2.1 (mE y).2.2.1 ((mE y).2.2.2.2.2.1 == 2) (rzT (mE y).2.2.2.1) pc r)
    (hQ : ∀ r h', hcc h ≤ hcc h' → hcc h' ≤ hcc h + mc → hcu h ≤ hcu h' → hcu h' ≤ hcu h + ms → Q' r h' → ∃ h'', P r h'' ∧ hcc h'' = hcc h + mc ∧ hcu h'' = hcu h + ms ∧ ∀ H, REP ao HL D cA L xs h' H → REP ao HL D cA L xs h'' H)
    (hlen : (argL av).length ≤ (mE y).2.2.1) (hwp : WP cd (callD d) Q' (hcc h + mc, hcu h + ms) 0 [] (padL (argL av) (mE y).2.2.1) h) : MET l ao HL D cA L xs (d + 1) y av h P := by
  obtain ⟨⟨-, kpl⟩, -, -, k4, -, -, k7⟩ := mE_ck hy
  unfold MET
  rw [hmA]
  refine va_MetF (cc := (mE y).2.1) (maxL := (mE y).2.2.1) (ret := (mE y).2.2.2.1) kpl rfl ?_
  intro p e s m args below meth c s₁ B hml hv
  obtain ⟨rfl, hR, hS⟩ := hv
  have hx := B.exec
  have hb := B.bytes
  have hr := B.returns
  have hown : s.vm.findClass (onm (mE y).2.2.2.2.1) = some m.cls := by rw [← k4]; exact findClass_of_methodNamed B.named
  have hlocks := B.notSynchronized
  have hin : ((mE y).2.2.2.2.2.1 == 2) = true → meth.name = "<init>" := fun z => by
    rw [(name_of_methodNamed B.named B.method).1]
    exact (k7 (by simpa using z)).1
  have key : ∀ (r : Option Value) (ls : LT) (h' : MH) (H : Heap) (locs : List Loc) (cells slots : Nat) (lsR : Array Slot), SC ao HL D cA L xs (hcc h) (hcu h) (mE y).2.2.1 (hcc h + mc, hcu h + ms) ls h' H locs cells slots lsR → Q' r h' → (cells ≤ mc ∧ slots ≤ ms) ∧ (∀ t : State, t.heap = H → s.WarmedH t.vm → QcM ao HL D cA L xs (hcc h + mc) (hcu h + ms) P (av.map (svl (adr ao HL.size))).toArray s (.returned (r.map (svl (adr ao HL.size)))) t) ∧ ∀ q ∈ locs, AH HL q.base := by
    intro r ls h' H locs cells slots lsR hs hq
    obtain ⟨q1, q2, q3, q4, ⟨q5, q6⟩, q7⟩ := hs
    dsimp only at q5 q6
    obtain ⟨h'', g1, g2, g3, g4⟩ := hQ r h' (by omega) q5 (by omega) q6 hq
    exact ⟨⟨by omega, by omega⟩, fun t ht _ => ⟨r, h'', rfl, g1, by rw [ht]; exact g4 _ q1, g2, g3⟩, q2⟩
  have hW := hwp (WS p l e (headSpec [cwd y] (rmD (d + 1) mc ms)).room s m (av.map (svl (adr ao HL.size))).toArray below meth c (MQ below (QcM ao HL D cA L xs (hcc h + mc) (hcu h + ms) P) (av.map (svl (adr ao HL.size))).toArray s mc ms (AH HL)) ao HL D cA L xs (hcc h) (hcu h) (mE y).2.2.1 (hcc h + mc, hcu h + ms)) (fun pc st ls h9 ⟨r, hr9, q⟩ => by
    refine snd_row (d := d) (rz := rzT (mE y).2.2.2.1) (ini := ((mE y).2.2.2.2.2.1 == 2)) hx hb hml hS hown hin (Nat.le_refl _) (Nat.le_refl _) (Nat.add_comm _ _) (Nat.add_comm _ _) hG ?_ ?_ ?_ ?_ (fun _ _ _ _ z => z) (hcd pc r hr9) q
    · intro hz x pc ls h' H locs cells slots lsR hzz hdg hs hq
      obtain ⟨⟨c1, c2⟩, c3, c4⟩ := key _ ls h' H locs cells slots lsR hs hq
      refine W.widen c1 c2 ?_
      rcases hz with hz | hz
      · exact W.iret hx hb (hr.trans (rz_0 hz)) c3 c4 hdg hlocks
      · exact W.zret hx hb (hr.trans (rz_1 hz)) (by rcases hzz hz with rfl | rfl <;> rfl) c3 c4 hdg hlocks
    · intro hz x pc ls h' H locs cells slots lsR hdg hs hq
      obtain ⟨⟨c1, c2⟩, c3, c4⟩ := key _ ls h' H locs cells slots lsR hs hq
      refine W.widen c1 c2 ?_
      exact W.lret hx hb (hr.trans (rz_2 hz)) c3 c4 hdg hlocks
    · intro hz v pc ls h' H locs cells slots lsR hv hdg hs hq
      obtain ⟨⟨c1, c2⟩, c3, c4⟩ := key _ ls h' H locs cells slots lsR hs hq
      obtain ⟨t, ht, ht2⟩ := rz_3 hz
      refine W.widen c1 c2 ?_
      exact W.aret hx hb (hr.trans ht) ht2 (by rcases hv with rfl | ⟨a, rfl⟩; exact Or.inl rfl; exact Or.inr ⟨_, rfl⟩) c3 c4 hdg hlocks
    · intro hz pc ls h' H locs cells slots lsR hdg hs hq
      obtain ⟨⟨c1, c2⟩, c3, c4⟩ := key _ ls h' H locs cells slots lsR hs hq
      refine W.widen c1 c2 ?_
      exact W.vret hx hb (hr.trans (rz_4 hz)) c3 c4 hdg hlocks)
  rw [lg_entry_eq]
  exact hW s.heap [] 0 0 _ ⟨hR, (fun q hq => (by cases hq)), Nat.zero_add _, Nat.zero_add _, ⟨Nat.le_add_right _ _, Nat.le_add_right _ _⟩, LRL_entry hlen⟩
theorem snd_call {l : Launch} {ao : Nat → Nat} {HL : Heap} {D : va_G} {cA : Nat → ClassId} {L : Nat} {xs : Nat → Int32} : ∀ (d y : Nat) (av : List Value) (h : MH) (P : RT), callD d y av h P → y < 257 → MET l ao HL D cA L xs d y av h P
  | 0, y, av, h, P, q, _ => q.elim
  | d + 1, y, av, h, P, q, hy => by
    have hG : ∀ y av h P, callD d y av h P → y < 257 → MET l ao HL D cA L xs d y av h P := fun y av h P => snd_call d y av h P
    unfold callD at q
    split at q
    · rename_i cd ml hm
      split at q
      · rename_i hlen
        obtain ⟨b, hb, hok⟩ := All2.get mokAll hm
        have e := mE_get hb
        obtain ⟨hml, hrow⟩ := hok
        subst e
        dsimp only at hml
        subst hml
        refine snd_body (mc := 0) (ms := 0) hG hy (by unfold mA; rw [hm]) hrow (fun r h' a1 a2 a3 a4 hq => ⟨h', hq, by omega, by omega, fun _ z => z⟩) hlen q
      · exact q.elim
    · rename_i cd ml mc ms hne hm
      split at q
      · rename_i hlen
        obtain ⟨b, hb, hok⟩ := All2.get mokAll hm
        have e := mE_get hb
        obtain ⟨hml, hrow⟩ := hok
        subst e
        dsimp only at hml
        subst hml
        refine snd_body (mc := mc) (ms := ms) (Q' := fun r h' => P r (sCC h' (hcc h + mc) (hcu h + ms))) hG hy (by unfold mA; rw [hm]) hrow (fun r h' a1 a2 a3 a4 hq => ⟨sCC h' (hcc h + mc) (hcu h + ms), hq, rfl, rfl, fun _ z => z⟩) hlen q
      · exact q.elim
    · exact q.elim
