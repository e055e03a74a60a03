/-! ===== the heap: reading, writing, making ===== -/
section Heap
variable {ao : Nat → Nat} {HL : Heap} {D : va_G} {cA : Nat → ClassId} {L : Nat} {xs : Nat → Int32} {h : MH} {H : Heap} {s : State}
theorem REP.hi (r : REP ao HL D cA L xs h H) {a : Nat} (hk : hkd h a ≤ 8 ∨ (21 ≤ hkd h a ∧ hkd h a ≤ 25)) : 24 ≤ a ∧ a < hsz h := by
  obtain ⟨r1, r2, r3, r4, r5, ⟨r6, -⟩, ⟨r7, -⟩, r8⟩ := r
  refine ⟨Nat.le_of_not_lt fun c => ?_, Nat.lt_of_not_le fun c => ?_⟩
  · rcases (show a = 0 ∨ a = 1 ∨ 2 ≤ a by omega) with e | e | e
    · rw [e, r6] at hk; omega
    · rw [e, r7] at hk; omega
    · rw [r8 a e c] at hk; omega
  · rw [r5 a c] at hk; omega
theorem REP.lt (r : REP ao HL D cA L xs h H) {a : Nat} (hk : hkd h a ≤ 30) : a < hsz h := by
  obtain ⟨r1, r2, r3, r4, r5, -⟩ := r
  exact Nat.lt_of_not_le fun c => by rw [r5 a c] at hk; omega
theorem REP.at (r : REP ao HL D cA L xs h H) {a : Nat} (h24 : 24 ≤ a) (hz : a < hsz h) : va_at D vwCl (adr ao HL.size a, cel (adr ao HL.size) cA h a) H := (r.2.2.2.1 a h24 hz).1
/-- an object -/
theorem REP.obj (r : REP ao HL D cA L xs h H) {a ci : Nat} (hk : hkd h a = ci) (hc : ci < 9) : 24 ≤ a ∧ a < hsz h ∧ ∃ q : vw_C, vwCl[ci]? = some q ∧ t_OB (adr ao HL.size a) (D.1 ci) q.2.2 (D.2 ci) H (vp_V ((List.range (vwN ci)).map (fvl (adr ao HL.size) h a ci))) := by
  obtain ⟨h1, h2⟩ := r.hi (a := a) (Or.inl (by omega))
  refine ⟨h1, h2, ?_⟩
  have h3 := r.at h1 h2
  unfold cel at h3
  rw [hk, if_pos (by omega)] at h3
  exact h3
/-- an array of our own -/
theorem REP.arr (r : REP ao HL D cA L xs h H) {a : Nat} (hk : hkd h a = 20 ∨ hkd h a = 22) (h24 : 24 ≤ a) : H[adr ao HL.size a]? = some (vp_cell (cA (hkd h a)) (hln h a, .inl (hia h a))) := by
  have h3 := r.at h24 (r.lt (by omega))
  unfold cel at h3
  rw [if_neg (by omega), if_neg (by omega), if_pos (by omega)] at h3
  exact h3
theorem REP.arrJ (r : REP ao HL D cA L xs h H) {a : Nat} (hk : hkd h a = 21) : 24 ≤ a ∧ a < hsz h ∧ H[adr ao HL.size a]? = some (vp_cell (cA 21) (hln h a, .inr (.inl (hja h a)))) := by
  obtain ⟨h1, h2⟩ := r.hi (a := a) (Or.inr (by omega))
  refine ⟨h1, h2, ?_⟩
  have h3 := r.at h1 h2
  unfold cel at h3
  rw [if_neg (by omega), if_pos (by omega)] at h3
  exact h3
theorem REP.arrR (r : REP ao HL D cA L xs h H) {a : Nat} (hk : 23 ≤ hkd h a ∧ hkd h a ≤ 25) : 24 ≤ a ∧ a < hsz h ∧ H[adr ao HL.size a]? = some (vp_cell (cA (hkd h a)) (hln h a, .inr (.inr (.inr (.inr fun j => (hra h a j).map (adr ao HL.size)))))) := by
  obtain ⟨h1, h2⟩ := r.hi (a := a) (Or.inr (by omega))
  refine ⟨h1, h2, ?_⟩
  have h3 := r.at h1 h2
  unfold cel at h3
  rw [if_neg (by omega), if_neg (by omega), if_neg (by omega)] at h3
  exact h3
/-- an array of ints, ours or not -/
theorem REP.ints (r : REP ao HL D cA L xs h H) (hS : ST ao HL D cA L xs s) {a : Nat} (hk : hkd h a = 20) : ∃ cell : Cell, H[adr ao HL.size a]? = some cell ∧ s.isArrayOf cell .int ∧ cell.vm ≠ .unknown ∧ (hln h a ≤ cell.slots.size ∧ cell.slots.size.toInt32 = nI (hln h a)) ∧ ∀ j, j < hln h a → cell.slots[j]? = some (.int (hia h a j)) := by
  by_cases h24 : 24 ≤ a
  · refine ⟨_, r.arr (Or.inl hk) h24, ?_, fun q => (by cases q), ⟨Nat.le_of_eq (arrV_size _ _ _).symm, congrArg Nat.toInt32 (arrV_size _ _ _)⟩, fun j hj => arrV_read _ _ hj⟩
    rw [hk]
    exact (hS.1.2 0 _ rfl).1 _ (fun j => .int (hia h a j))
  · have r' := r
    obtain ⟨r1, r2, r3, r4, r5, ⟨r6, r6a, r6b⟩, ⟨r7, r7a, r7b⟩, r8⟩ := r'
    obtain ⟨⟨⟨scr, x1, x2, x3, x4, x5⟩, o1⟩, ⟨scr2, y1, y2, y3, y4, y5, y6, -⟩, -⟩ := hS.2.2
    rcases (show a = 0 ∨ a = 1 ∨ 2 ≤ a by omega) with e | e | e
    · subst e
      have ea : adr ao HL.size 0 = ao 0 := rfl
      exact ⟨scr, by rw [ea, r3 _ o1]; exact x1, x2, x3, ⟨by rw [x4, r6a]; exact Nat.le_refl _, by rw [x4, r6a]; rfl⟩, fun j hj => by rw [r6a] at hj; rw [x5 j hj, r6b j hj]⟩
    · subst e
      have ea : adr ao HL.size 1 = ao 1 := rfl
      exact ⟨scr2, by rw [ea, r3 _ (Array.getElem?_eq_some_iff.mp y1).1]; exact y1, y2, y3, ⟨by rw [r7a]; exact y4, by rw [r7a]; exact y5⟩, fun j hj => by rw [r7a] at hj; rw [y6 j hj, r7b j hj]⟩
    · rw [r8 a e (by omega)] at hk; cases hk
theorem adr_ne {k a : Nat} (hk : 24 ≤ k) (ha : 24 ≤ a) (h : k ≠ a) : adr ao HL.size k ≠ adr ao HL.size a := by
  rw [adr_hi hk, adr_hi ha]; omega
/-- one cell written -/
theorem REP.put (r : REP ao HL D cA L xs h H) {h' : MH} {H' : Heap} {a : Nat} (h24 : 24 ≤ a) (hz : a < hsz h) (z : H'.size = H.size) (oq : ∀ q, q ≠ adr ao HL.size a → H'[q]? = H[q]?) (e1 : hsz h' = hsz h) (e2 : hkd h' = hkd h) (e3 : hln h' = hln h) (e4 : ∀ k, k ≠ a → hfi h' k = hfi h k ∧ hfj h' k = hfj h k ∧ hfr h' k = hfr h k ∧ hia h' k = hia h k ∧ hja h' k = hja h k ∧ hra h' k = hra h k) (hat : va_at D vwCl (adr ao HL.size a, cel (adr ao HL.size) cA h' a) H') : REP ao HL D cA L xs h' H' := by
  obtain ⟨r1, r2, r3, r4, r5, ⟨r6, r6a, r6b⟩, ⟨r7, r7a, r7b⟩, r8⟩ := r
  refine ⟨by rw [e1]; exact r1, by rw [z, r2, e1], fun q hq => ?_, fun k hk1 hk2 => ?_, fun k hk => by rw [e2]; exact r5 k (by rw [← e1]; exact hk), ⟨by rw [e2]; exact r6, by rw [e3]; exact r6a, fun j hj => ?_⟩, ⟨by rw [e2]; exact r7, by rw [e3]; exact r7a, fun j hj => ?_⟩, fun k k1 k2 => by rw [e2]; exact r8 k k1 k2⟩
  · rw [oq q (by rw [adr_hi h24]; omega)]
    exact r3 q hq
  · rw [e1] at hk2
    by_cases e : k = a
    · subst e
      exact ⟨hat, by rw [e2]; exact (r4 k hk1 hk2).2⟩
    · obtain ⟨f1, f2, f3, f4, f5, f6⟩ := e4 k e
      have hc : cel (adr ao HL.size) cA h' k = cel (adr ao HL.size) cA h k := by
        unfold cel
        have hf : ∀ ci, fvl (adr ao HL.size) h' k ci = fvl (adr ao HL.size) h k ci := fun ci => by
          funext j; unfold fvl; rw [f1, f2, f3]
        rw [e2, e3, f4, f5, f6, hf]
      rw [hc, e2]
      exact ⟨(r4 k hk1 hk2).1.kept (oq _ (adr_ne hk1 h24 e)), (r4 k hk1 hk2).2⟩
  · rw [(e4 0 (by omega)).2.2.2.1]; exact r6b j hj
  · rw [(e4 1 (by omega)).2.2.2.1]; exact r7b j hj
/-- a cell made -/
theorem REP.new (r : REP ao HL D cA L xs h H) {h' : MH} {H' : Heap} (z : H'.size = H.size + 1) (oq : ∀ q, q < H.size → H'[q]? = H[q]?) (e1 : hsz h' = hsz h + 1) (e2 : ∀ k, k ≠ hsz h → hkd h' k = hkd h k ∧ hln h' k = hln h k ∧ hfi h' k = hfi h k ∧ hfj h' k = hfj h k ∧ hfr h' k = hfr h k ∧ hia h' k = hia h k ∧ hja h' k = hja h k ∧ hra h' k = hra h k) (hkd' : hkd h' (hsz h) ≤ 8 ∨ (20 ≤ hkd h' (hsz h) ∧ hkd h' (hsz h) ≤ 25)) (hat : va_at D vwCl (adr ao HL.size (hsz h), cel (adr ao HL.size) cA h' (hsz h)) H') : REP ao HL D cA L xs h' H' := by
  obtain ⟨r1, r2, r3, r4, r5, ⟨r6, r6a, r6b⟩, ⟨r7, r7a, r7b⟩, r8⟩ := r
  refine ⟨by omega, by omega, fun q hq => ?_, fun k hk1 hk2 => ?_, fun k hk => ?_, ⟨?_, ?_, fun j hj => ?_⟩, ⟨?_, ?_, fun j hj => ?_⟩, fun k k1 k2 => ?_⟩
  · rw [oq q (by omega)]; exact r3 q hq
  · by_cases e : k = hsz h
    · subst e
      exact ⟨hat, hkd'⟩
    · obtain ⟨g1, g2, f1, f2, f3, f4, f5, f6⟩ := e2 k e
      have hc : cel (adr ao HL.size) cA h' k = cel (adr ao HL.size) cA h k := by
        unfold cel
        have hf : ∀ ci, fvl (adr ao HL.size) h' k ci = fvl (adr ao HL.size) h k ci := fun ci => by
          funext j; unfold fvl; rw [f1, f2, f3]
        rw [g1, g2, f4, f5, f6, hf]
      rw [hc, g1]
      have hlt : k < hsz h := by omega
      exact ⟨(r4 k hk1 hlt).1.kept (oq _ (r4 k hk1 hlt).1.lt), (r4 k hk1 hlt).2⟩
  · rw [(e2 k (by omega)).1]; exact r5 k (by omega)
  · rw [(e2 0 (by omega)).1]; exact r6
  · rw [(e2 0 (by omega)).2.1]; exact r6a
  · rw [(e2 0 (by omega)).2.2.2.2.2.1]; exact r6b j hj
  · rw [(e2 1 (by omega)).1]; exact r7
  · rw [(e2 1 (by omega)).2.1]; exact r7a
  · rw [(e2 1 (by omega)).2.2.2.2.2.1]; exact r7b j hj
  · rw [(e2 k (by omega)).1]; exact r8 k k1 k2
theorem cc_rep {c u : Nat} (r : REP ao HL D cA L xs h H) : REP ao HL D cA L xs (sCC h c u) H := r
theorem cel_kd {f : Nat → Nat} {a : Nat} (e : hkd h a = 20 ∨ hkd h a = 22) : cel f cA h a = .inl (cA (hkd h a), hln h a, .inl (hia h a)) := by
  unfold cel; rw [if_neg (by omega), if_neg (by omega), if_pos (by omega)]
theorem cel_J {f : Nat → Nat} {a : Nat} (e : hkd h a = 21) : cel f cA h a = .inl (cA 21, hln h a, .inr (.inl (hja h a))) := by
  unfold cel; rw [if_neg (by omega), if_pos e]
theorem cel_R {f : Nat → Nat} {a : Nat} (e : 23 ≤ hkd h a) : cel f cA h a = .inl (cA (hkd h a), hln h a, .inr (.inr (.inr (.inr fun j => (hra h a j).map f)))) := by
  unfold cel; rw [if_neg (by omega), if_neg (by omega), if_neg (by omega)]
theorem cel_O {f : Nat → Nat} {a ci : Nat} (e : hkd h a = ci) (hc : ci < 9) : cel f cA h a = .inr (ci, (List.range (vwN ci)).map (fvl f h a ci)) := by
  unfold cel; rw [e, if_pos (by omega)]
theorem up1_ne {α : Type} {f : Nat → α} {a k : Nat} {x : α} (e : k ≠ a) : up1 f a x k = f k := if_neg e
theorem REP.wIA (r : REP ao HL D cA L xs h H) {H' : Heap} {a : Nat} {f : Nat → Int32} (h24 : 24 ≤ a) (hk : hkd h a = 20 ∨ hkd h a = 22) (z : H'.size = H.size) (oq : ∀ q, q ≠ adr ao HL.size a → H'[q]? = H[q]?) (hat : H'[adr ao HL.size a]? = some (vp_cell (cA (hkd h a)) (hln h a, .inl f))) : REP ao HL D cA L xs (sIA h a f) H' := by
  refine r.put h24 (r.lt (by omega)) z oq rfl rfl rfl (fun k e => ⟨rfl, rfl, rfl, up1_ne e, rfl, rfl⟩) ?_
  rw [cel_kd (h := sIA h a f) hk]
  show H'[_]? = some (vp_cell _ (_, .inl (up1 (hia h) a f a)))
  rw [show up1 (hia h) a f a = f from if_pos rfl]
  exact hat
theorem REP.wJA (r : REP ao HL D cA L xs h H) {H' : Heap} {a : Nat} {f : Nat → Int64} (h24 : 24 ≤ a) (hk : hkd h a = 21) (z : H'.size = H.size) (oq : ∀ q, q ≠ adr ao HL.size a → H'[q]? = H[q]?) (hat : H'[adr ao HL.size a]? = some (vp_cell (cA 21) (hln h a, .inr (.inl f)))) : REP ao HL D cA L xs (sJA h a f) H' := by
  refine r.put h24 (r.lt (by omega)) z oq rfl rfl rfl (fun k e => ⟨rfl, rfl, rfl, rfl, up1_ne e, rfl⟩) ?_
  rw [cel_J (h := sJA h a f) hk]
  show H'[_]? = some (vp_cell _ (_, .inr (.inl (up1 (hja h) a f a))))
  rw [show up1 (hja h) a f a = f from if_pos rfl]
  exact hat
theorem REP.wRA (r : REP ao HL D cA L xs h H) {H' : Heap} {a : Nat} {f : Nat → Option Nat} (h24 : 24 ≤ a) (hk : 23 ≤ hkd h a ∧ hkd h a ≤ 25) (z : H'.size = H.size) (oq : ∀ q, q ≠ adr ao HL.size a → H'[q]? = H[q]?) (hat : H'[adr ao HL.size a]? = some (vp_cell (cA (hkd h a)) (hln h a, .inr (.inr (.inr (.inr fun j => (f j).map (adr ao HL.size))))))) : REP ao HL D cA L xs (sRA h a f) H' := by
  refine r.put h24 (r.lt (by omega)) z oq rfl rfl rfl (fun k e => ⟨rfl, rfl, rfl, rfl, rfl, up1_ne e⟩) ?_
  rw [cel_R (h := sRA h a f) hk.1]
  show H'[_]? = some (vp_cell _ (_, .inr (.inr (.inr (.inr fun j => (up1 (hra h) a f a j).map _)))))
  rw [show up1 (hra h) a f a = f from if_pos rfl]
  exact hat
/-- an object's field written -/
theorem REP.fld (r : REP ao HL D cA L xs h H) {h' : MH} {H' : Heap} {a ci k : Nat} {v : Value} {q : vw_C} {cell : Cell} (h24 : 24 ≤ a) (hz : a < hsz h) (hk : hkd h a = ci) (hc : ci < 9) (hq : vwCl[ci]? = some q) (hkn : k < vwN ci) (hN : q.2.2 = vwN ci)
    (c1 : H[adr ao HL.size a]? = some cell) (c2 : cell.cls = D.1 ci) (c3 : cell.vm = .none) (c4 : ∀ j, j < q.2.2 → cell.slots[D.2 ci j]? = some (vp_V ((List.range (vwN ci)).map (fvl (adr ao HL.size) h a ci)) j)) (hap : ∀ x y, x < q.2.2 → y < q.2.2 → x ≠ y → (D.2 ci) x ≠ (D.2 ci) y)
    (e0 : H'[adr ao HL.size a]? = some (cell.setSlot (D.2 ci k) v)) (z : H'.size = H.size) (oq : ∀ q, q ≠ adr ao HL.size a → H'[q]? = H[q]?) (e1 : hsz h' = hsz h) (e2 : hkd h' = hkd h) (e3 : hln h' = hln h) (e4 : ∀ k, k ≠ a → hfi h' k = hfi h k ∧ hfj h' k = hfj h k ∧ hfr h' k = hfr h k ∧ hia h' k = hia h k ∧ hja h' k = hja h k ∧ hra h' k = hra h k)
    (e5 : ∀ j, j < vwN ci → fvl (adr ao HL.size) h' a ci j = if j = k then v else fvl (adr ao HL.size) h a ci j) : REP ao HL D cA L xs h' H' := by
  refine r.put h24 hz z oq e1 e2 e3 e4 ?_
  rw [cel_O (h := h') (ci := ci) (by rw [e2]; exact hk) hc]
  refine ⟨q, hq, t_OB.to (V := updV (vp_V ((List.range (vwN ci)).map (fvl (adr ao HL.size) h a ci))) k v) ⟨_, e0, c2, c3, t_set c4 hap (by omega) v⟩ (fun j hj => ?_)⟩
  have hj' : j < vwN ci := by omega
  unfold updV vp_V
  simp only [List.getD_eq_getElem?_getD, List.getElem?_map, List.getElem?_range hj', Option.map_some, Option.getD_some, e5 j hj']
end Heap
