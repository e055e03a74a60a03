def R_law : String := "DiffusingRoutesLaw"
def lw_P (b : Addr) (xs : List Int32) (args : Array Value) (s : State) : Prop := args = #[.ref b] ∧ s.IntsAt b xs ∧ xs.length ≤ 3072 ∧ (Jvm.Cond.and given_1 narrow_1).before args s = true
def lw_Q (_ : Array Value) (s : State) (o : Outcome) (t : State) : Prop := o = .returned (some (.int 1)) ∧ Framed s o t [] 600000 7302250
def lw_Z (below : List Frame) (a : Array Value) (s : State) : State → Prop := fun t => ∃ o, t.status = .running ∧ Ended t below o ∧ lw_Q a s o t
/-- the law's own end, with 1 on the stack, nothing written that was there before, its room as the claim has it -/
theorem lw_ret {p : Program} {l : Launch} {e : Env} {s : State} {m : MethodId} {below : List Frame} {meth : Method} {c : Code} {b : Nat} (hx : p.tables.exec = Jvm.exec) (hb : c.code = code) (hr : meth.sig.returnType = ret) (hlocks : meth.locks = false) {pc : Nat} {H : Heap} {ls : Array Slot} (hdg : decode code pc = .ok (.ireturn, 1)) : W p l e room_1 s m #[Value.ref b] below meth c H [] 600000 7302250 (lw_Z below #[Value.ref b] s) (F0 m pc ls [.int 1]) := by
  intro T hT X
  obtain ⟨fs, hret, hrun, hended, hW, hframe⟩ := X.leave (v := some (.int 1)) (hlocks := hlocks) (fun h => by rw [hr] at h; cases h)
  have hmeth' : T.vm.method? m = some meth := X.method'
  refine ⟨T.setFrames fs, ?_, .returned (some (.int 1)), hrun, hended, rfl, ⟨_, rfl⟩, hW, hframe⟩
  jvm_step X.here [X.here.top, hx, hb, hdg, hmeth', hr, ret, narrow_b1]
  (try refine ⟨rfl, ?_⟩); (try refine ⟨rfl, ?_⟩)
  first | (intro acts; rw [hret _ acts rfl rfl rfl]) | rw [hret _ _ rfl rfl rfl]
  exact Steps.refl _
/-- what holds at the law's entry: the machine, the code, the tables' words (any of lw_tbl by 'hts w (by decide +kernel)'), the script of L ints xs at the cell b, what the Statement gives of the start (any of its parts by flat_of_before) -/
def lw_At (p : Program) (s : State) (m : MethodId) (meth : Method) (c : Code) (b L : Nat) (xs : Nat → Int32) : Prop :=
  p.tables.exec = Jvm.exec ∧ c.code = code ∧ meth.sig.returnType = ret ∧ c.maxLocals = 4 ∧ s.vm.findClass R_law = some m.cls ∧ (∀ w ∈ lw_tbl, w.before #[Value.ref b] s = true) ∧ va_X b L xs s s.heap ∧ b < s.heap.size ∧ meth.locks = false ∧ (Jvm.Cond.and given_1 narrow_1).before #[Value.ref b] s = true
/-- where the small machine begins -/
def h0 (L : Nat) (xs : Nat → Int32) : MH := (24, 0, 0, fun k => if k < 2 then 20 else if k < 24 then 30 else 99, fun k => if k = 0 then L else if k = 1 then 3 else 0, fun _ _ => 0, fun _ _ => 0, fun _ _ => none, fun k => if k = 0 then xs else if k = 1 then mostF else fun _ => 0, fun _ _ => 0, fun _ _ => none)
theorem h0_rep {ao : Nat → Nat} {HL : Heap} {D : va_G} {cA : Nat → ClassId} {L : Nat} {xs : Nat → Int32} : REP ao HL D cA L xs (h0 L xs) HL := by
  refine ⟨Nat.le_refl _, rfl, fun _ _ => rfl, fun k h1 h2 => absurd h1 (Nat.not_le.mpr h2), fun k hk => ?_, ⟨rfl, rfl, fun _ _ => rfl⟩, ⟨rfl, rfl, fun _ _ => rfl⟩, fun k h1 h2 => ?_⟩
  · have hk : 24 ≤ k := hk
    show (if k < 2 then 20 else if k < 24 then 30 else 99) = 99
    rw [if_neg (by omega), if_neg (by omega)]
  · show (if k < 2 then 20 else if k < 24 then 30 else 99) = 30
    rw [if_neg (by omega), if_pos h2]
theorem law_start {p : Program} {e : Env} {s : State} {m : MethodId} {below : List Frame} {meth : Method} {c : Code} (l : Launch) {b L : Nat} {xs : Nat → Int32} (C0 : lw_At p s m meth c b L xs) (hw : WP cd_law (callD 1000) (fun r _ => r = some (.int 1)) (600000, 7302250) 0 [] [some (.ref 0), none, none, none] (h0 L xs)) : W p l e room_1 s m #[Value.ref b] below meth c s.heap [] 0 0 (lw_Z below #[Value.ref b] s) (entryFrame m ([Value.ref b] : List Value).toArray 4) := by
  obtain ⟨hx, hb, hr, hml, hown, hts, hX, hbl, hlocks, hgv⟩ := C0
  obtain ⟨ao, D, cA, e0, hS⟩ := st_start hts hX hbl hgv
  subst e0
  have hW := hw (WS p l e room_1 s m #[Value.ref (ao 0)] below meth c (lw_Z below #[Value.ref (ao 0)] s) ao s.heap D cA L xs 0 0 4 (600000, 7302250)) (fun pc st ls h9 ⟨r, hr9, q⟩ => by
    refine snd_row (d := 1000) (own := 9) (rz := 1) (ini := false) hx hb hml hS hown (fun z => by cases z) (by decide) (by decide) rfl rfl (fun y av h P => snd_call 1000 y av h P) ?_ (fun z => by cases z) (fun z => by cases z) (fun z => by cases z) (fun _ _ _ _ z => z) (ok_law pc r hr9) q
    intro _ x pc ls h' H locs cells slots lsR _ hdg hs hq
    obtain ⟨q1, q2, q3, q4, ⟨q5, q6⟩, q7⟩ := hs
    dsimp only at q5 q6
    cases hq
    refine va_forget q2 (W.widen (by omega) (by omega) (lw_ret hx hb hr hlocks hdg)))
  rw [lg_entry_eq]
  exact hW s.heap [] 0 0 _ ⟨h0_rep, (fun q hq => (by cases hq)), rfl, rfl, ⟨Nat.zero_le _, Nat.zero_le _⟩, LRL_entry (vs := [.ref 0]) (n := 4) (by decide)⟩
