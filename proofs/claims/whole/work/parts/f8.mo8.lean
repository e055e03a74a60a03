/-! ===== the reference is made: put together ===== -/
def MIz (h H : MH) (l : List (Nat × Nat × Nat)) (F : Nat → Int32) : Prop := hsz H = 274 + l.length ∧ (∀ x, x < 273 → Kp h H x ∧ hfr H x = hfr h x) ∧ hkd H 273 = 8 ∧ hfi H 273 = F ∧ ∀ (i : Nat) (e : Nat × Nat × Nat), l[i]? = some e → AF H 273 e.1 (274 + i) e.2.1 e.2.2
def KV (g H : MH) : Prop := hsz g ≤ hsz H ∧ ∀ x, x < hsz g → hia H x = hia g x ∧ hja H x = hja g x
theorem KV.trans {a b c : MH} (u : KV a b) (v : KV b c) : KV a c := ⟨Nat.le_trans u.1 v.1, fun x hx => ⟨(v.2 x (Nat.lt_of_lt_of_le hx u.1)).1.trans (u.2 x hx).1, (v.2 x (Nat.lt_of_lt_of_le hx u.1)).2.trans (u.2 x hx).2⟩⟩
theorem KV.aa {G H : MH} {l : List (Nat × Nat × Nat)} (A : AA G H 273 l) : KV G H := ⟨by rw [A.1]; exact Nat.le_add_right _ _, fun x hx => ⟨(A.2.1 x hx).2.2.2.1, (A.2.1 x hx).2.2.2.2.1⟩⟩
theorem KV.aj {G H : MH} {f n : Nat} {W : Nat → Int64} (A : AJ1 G H 273 f n W) : KV G H := ⟨by rw [A.1.1]; exact Nat.le_add_right _ _, fun x hx => ⟨(A.2.1 x hx).2.2.2.1, (A.2.1 x hx).2.2.2.2.1⟩⟩
theorem MIz.aa {h G H : MH} {l l' : List (Nat × Nat × Nat)} {F : Nat → Int32} (M : MIz h G l F) (A : AA G H 273 l') (ne : ∀ e : Nat × Nat × Nat, e ∈ l → ∀ e' : Nat × Nat × Nat, e' ∈ l' → e'.1 ≠ e.1) : MIz h H (l ++ l') F := by
  obtain ⟨m1, m2, m3, m4, m5⟩ := M
  obtain ⟨a1, a2, a3, a4, a5⟩ := A
  refine ⟨by rw [a1, m1, List.length_append]; omega, fun x hx => ⟨(m2 x hx).1.trans (a2 x (by omega)), (a3 x (by omega) (by omega)).trans (m2 x hx).2⟩, by rw [(a2 273 (by omega)).1]; exact m3, by rw [(a2 273 (by omega)).2.2.1]; exact m4, fun i e z => ?_⟩
  by_cases c : i < l.length
  · rw [List.getElem?_append_left c] at z
    obtain ⟨b1, b2, b3⟩ := m5 i e z
    have k := a2 (274 + i) (by omega)
    exact ⟨by rw [a4 e.1 (fun j e' z' => ne e (List.mem_of_getElem? z) e' (List.mem_of_getElem? z'))]; exact b1, by rw [k.1]; exact b2, by rw [k.2.1]; exact b3⟩
  · rw [List.getElem?_append_right (by omega)] at z
    obtain ⟨b1, b2, b3, -⟩ := a5 _ e z
    rw [show hsz G + (i - l.length) = 274 + i by omega] at b1 b2 b3
    exact ⟨b1, b2, b3⟩
theorem MIz.aj {h G H : MH} {l : List (Nat × Nat × Nat)} {F : Nat → Int32} {f n : Nat} {W : Nat → Int64} (M : MIz h G l F) (A : AJ1 G H 273 f n W) (ne : ∀ e : Nat × Nat × Nat, e ∈ l → e.1 ≠ f) : MIz h H (l ++ [(f, 21, n)]) F := by
  obtain ⟨m1, m2, m3, m4, m5⟩ := M
  obtain ⟨⟨a1, -, -⟩, a2, a3, a4, a5, a6, -⟩ := A
  refine ⟨by rw [a1, m1, List.length_append]; rfl, fun x hx => ⟨(m2 x hx).1.trans (a2 x (by omega)), (a3 x (by omega) (by omega)).trans (m2 x hx).2⟩, by rw [(a2 273 (by omega)).1]; exact m3, by rw [(a2 273 (by omega)).2.2.1]; exact m4, fun i e z => ?_⟩
  by_cases c : i < l.length
  · rw [List.getElem?_append_left c] at z
    obtain ⟨b1, b2, b3⟩ := m5 i e z
    have k := a2 (274 + i) (by omega)
    exact ⟨by rw [a4, up1_n _ _ (ne e (List.mem_of_getElem? z))]; exact b1, by rw [k.1]; exact b2, by rw [k.2.1]; exact b3⟩
  · rw [List.getElem?_append_right (by omega)] at z
    have j0 : i - l.length = 0 := by
      refine Decidable.byContradiction (fun w => ?_)
      rw [List.getElem?_eq_none (by show 1 ≤ i - l.length; omega)] at z
      cases z
    rw [j0] at z
    have ee : e = (f, 21, n) := by injection z with z; exact z.symm
    rw [ee, show 274 + i = hsz G by omega]
    exact ⟨by rw [a4, up1_s], a5, a6⟩
theorem MIz.fi {h G : MH} {l : List (Nat × Nat × Nat)} {F : Nat → Int32} (M : MIz h G l F) (F' : Nat → Int32) : MIz h (sFI G 273 F') l F' ∧ KV G (sFI G 273 F') ∧ hcc (sFI G 273 F') = hcc G ∧ hcu (sFI G 273 F') = hcu G := by
  obtain ⟨m1, m2, m3, m4, m5⟩ := M
  obtain ⟨⟨i1, i2, i3, i4, i5, i6, i7⟩, j1, j2, j3, j4⟩ := fi_g G 273 F'
  generalize sFI G 273 F' = H at *
  refine ⟨⟨i1.trans m1, fun x hx => ⟨(m2 x hx).1.trans ⟨by rw [i4], by rw [i5], j4 x (by omega), by rw [j1], by rw [i7], by rw [j2]⟩, by rw [i6]; exact (m2 x hx).2⟩, by rw [i4]; exact m3, j3, fun i e z => ?_⟩, ⟨by rw [i1]; exact Nat.le_refl _, fun x hx => ⟨by rw [j1], by rw [i7]⟩⟩, i2, i3⟩
  obtain ⟨b1, b2, b3⟩ := m5 i e z
  exact ⟨by rw [i6]; exact b1, by rw [i4]; exact b2, by rw [i5]; exact b3⟩
theorem MIz.ia {h G : MH} {l : List (Nat × Nat × Nat)} {F : Nat → Int32} (M : MIz h G l F) (F' : Nat → Int32) : MIz h (sIA G 275 F') l F ∧ (∀ x, hja (sIA G 275 F') x = hja G x) ∧ hia (sIA G 275 F') 275 = F' ∧ ∀ x, x ≠ 275 → hia (sIA G 275 F') x = hia G x := by
  obtain ⟨m1, m2, m3, m4, m5⟩ := M
  obtain ⟨⟨i1, i2, i3, i4, i5, i6, i7⟩, j1, j2, j3, j4⟩ := ia_g G 275 F'
  generalize sIA G 275 F' = H at *
  refine ⟨⟨i1.trans m1, fun x hx => ⟨(m2 x hx).1.trans ⟨by rw [i4], by rw [i5], by rw [j1], j4 x (by omega), by rw [i7], by rw [j2]⟩, by rw [i6]; exact (m2 x hx).2⟩, by rw [i4]; exact m3, by rw [j1]; exact m4, fun i e z => ?_⟩, fun x => by rw [i7], j3, j4⟩
  obtain ⟨b1, b2, b3⟩ := m5 i e z
  exact ⟨by rw [i6]; exact b1, by rw [i4]; exact b2, by rw [i5]; exact b3⟩
def lM1 : List (Nat × Nat × Nat) := [(2, 20, 7), (3, 20, 7422), (4, 20, 14844), (5, 22, 2), (6, 20, 33231), (7, 20, 16), (9, 20, 27984), (10, 20, 16), (12, 20, 400)]
def lM2 : List (Nat × Nat × Nat) := [(22, 20, 96), (24, 20, 400), (25, 20, 400), (27, 20, 400), (28, 20, 400)]
def lM3 : List (Nat × Nat × Nat) := [(35, 21, 13), (36, 21, 13), (37, 21, 400), (41, 20, 7), (42, 20, 7), (43, 21, 21)]
def lMo : List (Nat × Nat × Nat) := ((((((([] ++ lM1) ++ lM2) ++ [(31, 21, 7)]) ++ [(32, 21, 6)]) ++ [(33, 21, 2)]) ++ lM3) ++ [(44, 21, 3)]) ++ [(45, 20, 120)] ++ [(51, 20, 21)]
theorem MIz.sh {h H : MH} {F : Nat → Int32} (M : MIz h H lMo F) : MoS H := by
  have c := M.2.2.2.2
  exact ⟨M.2.2.1, c 0 (2, 20, 7) rfl, c 1 (3, 20, 7422) rfl, c 2 (4, 20, 14844) rfl, c 3 (5, 22, 2) rfl, c 4 (6, 20, 33231) rfl, c 5 (7, 20, 16) rfl, c 6 (9, 20, 27984) rfl, c 7 (10, 20, 16) rfl, c 8 (12, 20, 400) rfl, c 9 (22, 20, 96) rfl, c 10 (24, 20, 400) rfl, c 11 (25, 20, 400) rfl, c 12 (27, 20, 400) rfl, c 13 (28, 20, 400) rfl, c 14 (31, 21, 7) rfl, c 15 (32, 21, 6) rfl, c 16 (33, 21, 2) rfl, c 17 (35, 21, 13) rfl, c 18 (36, 21, 13) rfl, c 19 (37, 21, 400) rfl, c 20 (41, 20, 7) rfl, c 21 (42, 20, 7) rfl, c 22 (43, 21, 21) rfl, c 23 (44, 21, 3) rfl, c 24 (45, 20, 120) rfl, c 25 (51, 20, 21) rfl⟩
