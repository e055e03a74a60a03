/-! ===== messages of a link that is gone ===== -/
/-- every message is as it should be -/
def MVs (p : RW) : Prop := ∀ i, i < ql p → ∃ k f t d, MV p i k f t d
theorem mv4_at {p : RW} {a b j c : Nat} (hc : c < 4) : mv4 p a b (154 + 4 * j + c) = if j = a then p (154 + 4 * b + c) else p (154 + 4 * j + c) := by
  unfold mv4
  simp only [itr_s, itr_0, Nat.zero_add]
  by_cases e : j = a
  · subst e
    rw [if_pos rfl]
    by_cases eb : b = j
    · subst eb
      rcases (show c = 0 ∨ c = 1 ∨ c = 2 ∨ c = 3 by omega) with e | e | e | e <;> subst e <;> simp (disch := omega) only [up1_s, up1_n]
    · rcases (show c = 0 ∨ c = 1 ∨ c = 2 ∨ c = 3 by omega) with e | e | e | e <;> subst e <;> simp (disch := omega) only [up1_s, up1_n]
  · rw [if_neg e, up1_n _ _ (by omega), up1_n _ _ (by omega), up1_n _ _ (by omega), up1_n _ _ (by omega)]
theorem mv4_at0 {p : RW} {a b j : Nat} : mv4 p a b (154 + 4 * j) = if j = a then p (154 + 4 * b) else p (154 + 4 * j) := by
  have := mv4_at (p := p) (a := a) (b := b) (j := j) (c := 0) (by omega)
  simpa only [Nat.add_zero] using this
theorem pk_mv4 {p : RW} {a b j : Nat} : pk (mv4 p a b) j = if j = a then pk p b else pk p j := by
  unfold pk
  rw [mv4_at0, mv4_at (by omega), mv4_at (by omega), mv4_at (by omega)]
  by_cases e : j = a
  · rw [if_pos e, if_pos e, if_pos e, if_pos e, if_pos e]
  · rw [if_neg e, if_neg e, if_neg e, if_neg e, if_neg e]
theorem MVs.mv4 {p : RW} (h : MVs p) {a b : Nat} (hb : b < ql p) : MVs (mv4 p a b) := by
  intro j hj
  have hq : ql (Jvm.Pilot.CDiffusingRoutesLaw_law_r4474_45e1b3.mv4 p a b) = ql p := by unfold ql; rw [mv4_lo (by omega)]
  rw [hq] at hj
  by_cases e : j = a
  · obtain ⟨k, f, t, d, h1, h2, h3, h4, e1, e2, e3, e4⟩ := h b hb
    exact ⟨k, f, t, d, h1, h2, h3, h4, by rw [mv4_at0, if_pos e]; exact e1, by rw [mv4_at (by omega), if_pos e]; exact e2, by rw [mv4_at (by omega), if_pos e]; exact e3, by rw [mv4_at (by omega), if_pos e]; exact e4⟩
  · obtain ⟨k, f, t, d, h1, h2, h3, h4, e1, e2, e3, e4⟩ := h j hj
    exact ⟨k, f, t, d, h1, h2, h3, h4, by rw [mv4_at0, if_neg e]; exact e1, by rw [mv4_at (by omega), if_neg e]; exact e2, by rw [mv4_at (by omega), if_neg e]; exact e3, by rw [mv4_at (by omega), if_neg e]; exact e4⟩
theorem XN.mov {h0 h : MH} {n : Nat} {p : RW} (X : XN h0 n h p) {a i : Nat} (hi : i < ql p) : XN h0 n (sIA h (n + 9) (up1 (hia h (n + 9)) a (hia h (n + 9) i))) (mv4 p a i) := by
  refine ⟨X.1.trans (NF.i (n := n) (a := n + 9) h _ (by omega) (by omega)), (NF.i (n := n) (a := n + 9) h _ (by omega) (by omega)).S X.2.1, ?_⟩
  have v9 := X.2.2.2.2.2.2.2.2.2.2.1
  have v10 := X.2.2.2.2.2.2.2.2.2.2.2.1
  refine X.2.2.lo (fun b => ?_) (fun k hk => rfl) (fun j h1 h2 => mv4_lo h1) ?_ (fun j hj => ?_)
  · by_cases e : b ≤ n ∨ n + 9 ≤ b
    · exact Or.inl e
    · exact Or.inr (hia_n h _ (by omega))
  · rw [mv4_lo (by omega)]; exact v10
  · have hq : ql (mv4 p a i) = ql p := by unfold ql; rw [mv4_lo (by omega)]
    rw [hq] at hj
    rw [hia_s, pk_mv4]
    by_cases e : j = a
    · subst e; rw [up1_s, if_pos rfl]; exact v9 i hi
    · rw [up1_n _ _ e, if_neg e]; exact v9 j hj
theorem XN.cut {h0 h : MH} {n : Nat} {p : RW} (X : XN h0 n h p) {a : Nat} (ha : a ≤ ql p) (hq : ql p ≤ 5000) : XN h0 n (sFI h n (up1 (hfi h n) 9 (nI a))) (up1 p 6 (nI a)) := by
  refine ⟨X.1.trans (NF.f h _), (NF.f (n := n) h _).S X.2.1, ?_⟩
  have v9 := X.2.2.2.2.2.2.2.2.2.2.1
  refine X.2.2.lo (fun b => Or.inr rfl) (fun k hk => by rw [hfi_s, up1_n _ _ hk]) (fun j h1 h2 => up1_n _ _ h2) (by rw [hfi_s, up1_s, up1_s]) (fun j hj => ?_)
  have hl : ql (up1 p 6 (nI a)) = a := ql_of (up1_s _ _ _) (by omega)
  rw [hl] at hj
  rw [pk_up (by omega)]
  exact v9 j (by omega)
