theorem stl_inn {l : Nat} (hl : 1 ≤ l) : ∀ (pl : PLt) (cf : CFt) (nc : Nat), inn (stl l pl cf nc).1 = inn pl ∧ (stl l pl cf nc).2.2 + (stl l pl cf nc).1.length ≤ nc + pl.length
  | [], cf, nc => ⟨rfl, Nat.le_refl _⟩
  | (o, a) :: r, cf, nc => by
    have e : stl l ((o, a) :: r) cf nc = if l ≤ bnd o then (if o = 29 ∨ o = 30 then stl l r (up1 cf a ((cf a).1, nc)) nc else stl l r (up1 cf nc (o, 0)) (nc + 1)) else ((o, a) :: r, cf, nc) := rfl
    have ei : inn ((o, a) :: r) = if 31 ≤ o then o else inn r := rfl
    rw [e]
    by_cases c : l ≤ bnd o
    · have o31 : ¬ 31 ≤ o := fun z => by
        have : bnd o = 0 := if_pos z
        omega
      rw [if_pos c, ei, if_neg o31, List.length_cons]
      by_cases c2 : o = 29 ∨ o = 30
      · rw [if_pos c2]
        have := stl_inn hl r (up1 cf a ((cf a).1, nc)) nc
        exact ⟨this.1, by omega⟩
      · rw [if_neg c2]
        have := stl_inn hl r (up1 cf nc (o, 0)) (nc + 1)
        exact ⟨this.1, by omega⟩
    · rw [if_neg c]
      exact ⟨rfl, Nat.le_refl _⟩
