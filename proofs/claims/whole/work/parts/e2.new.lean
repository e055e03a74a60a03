/-! ===== cells that constructors make ===== -/
def Kp (h H : MH) (x : Nat) : Prop := hkd H x = hkd h x ∧ hln H x = hln h x ∧ hfi H x = hfi h x ∧ hia H x = hia h x ∧ hja H x = hja h x ∧ hra H x = hra h x
theorem Kp.refl (h : MH) (x : Nat) : Kp h h x := ⟨rfl, rfl, rfl, rfl, rfl, rfl⟩
theorem Kp.trans {a b c : MH} {x : Nat} (u : Kp a b x) (v : Kp b c x) : Kp a c x := ⟨v.1.trans u.1, v.2.1.trans u.2.1, v.2.2.1.trans u.2.2.1, v.2.2.2.1.trans u.2.2.2.1, v.2.2.2.2.1.trans u.2.2.2.2.1, v.2.2.2.2.2.trans u.2.2.2.2.2⟩
/-- one more array, its place in a field of q -/
def AS1 (h H : MH) (q f kd n : Nat) : Prop := (hsz H = hsz h + 1 ∧ hcc H = hcc h + 1 ∧ hcu H = hcu h + n) ∧ (∀ x, x < hsz h → Kp h H x) ∧ (∀ x, x < hsz h → x ≠ q → hfr H x = hfr h x) ∧ hfr H q = up1 (hfr h q) f (some (hsz h)) ∧ hkd H (hsz h) = kd ∧ hln H (hsz h) = n ∧ hia H (hsz h) = (fun _ => 0) ∧ hja H (hsz h) = (fun _ => 0) ∧ hra H (hsz h) = fun _ => none
theorem AS_g (h : MH) (q f kd n : Nat) (hq : q < hsz h) : AS1 h (sFR (hnew h kd n) q (up1 (hfr h q) f (some (hsz h)))) q f kd n := by
  have nn : ∀ x, x < hsz h → ¬ x = hsz h := fun x hx => by omega
  have e1 : hfr (sFR (hnew h kd n) q (up1 (hfr h q) f (some (hsz h)))) = up1 (hfr (hnew h kd n)) q (up1 (hfr h q) f (some (hsz h))) := rfl
  have e2 : hfr (hnew h kd n) = up1 (hfr h) (hsz h) (fun _ => none) := rfl
  refine ⟨⟨rfl, rfl, rfl⟩, fun x hx => ⟨up1_n _ _ (nn x hx), up1_n _ _ (nn x hx), up1_n _ _ (nn x hx), up1_n _ _ (nn x hx), up1_n _ _ (nn x hx), up1_n _ _ (nn x hx)⟩, fun x hx ne => by rw [e1, up1_n _ _ ne, e2, up1_n _ _ (nn x hx)], by rw [e1, up1_s], up1_s _ _ _, up1_s _ _ _, up1_s _ _ _, up1_s _ _ _, up1_s _ _ _⟩
/-- the arrays of l, made one behind another, their places in fields of q -/
def AA (h H : MH) (q : Nat) (l : List (Nat × Nat × Nat)) : Prop := hsz H = hsz h + l.length ∧ (∀ x, x < hsz h → Kp h H x) ∧ (∀ x, x < hsz h → x ≠ q → hfr H x = hfr h x) ∧ (∀ f, (∀ (i : Nat) (e : Nat × Nat × Nat), l[i]? = some e → e.1 ≠ f) → hfr H q f = hfr h q f) ∧ ∀ (i : Nat) (e : Nat × Nat × Nat), l[i]? = some e → hfr H q e.1 = some (hsz h + i) ∧ hkd H (hsz h + i) = e.2.1 ∧ hln H (hsz h + i) = e.2.2 ∧ hia H (hsz h + i) = (fun _ => 0) ∧ hja H (hsz h + i) = (fun _ => 0) ∧ hra H (hsz h + i) = fun _ => none
theorem AA.nil (h : MH) (q : Nat) : AA h h q [] := ⟨rfl, fun x _ => Kp.refl h x, fun _ _ _ => rfl, fun _ _ => rfl, fun i e z => by rw [List.getElem?_nil] at z; cases z⟩
theorem AA.push {h H H' : MH} {q f kd n : Nat} {l : List (Nat × Nat × Nat)} (hq : q < hsz h) (A : AA h H q l) (s : AS1 H H' q f kd n) (nf' : ∀ e : Nat × Nat × Nat, e ∈ l → e.1 ≠ f) : AA h H' q (l ++ [(f, kd, n)]) := by
  obtain ⟨a1, a2, a3, a4, a5⟩ := A
  obtain ⟨⟨s1, -, -⟩, s2, s3, s4, s5⟩ := s
  have nf : ∀ (i : Nat) (e : Nat × Nat × Nat), l[i]? = some e → e.1 ≠ f := fun i e z => nf' e (List.mem_of_getElem? z)
  have lt : ∀ (i : Nat) (e : Nat × Nat × Nat), l[i]? = some e → i < l.length := fun i e z => by
    by_cases c : i < l.length
    · exact c
    · rw [List.getElem?_eq_none (by omega)] at z; cases z
  have sp : ∀ (i : Nat) (e : Nat × Nat × Nat), (l ++ [(f, kd, n)])[i]? = some e → (i < l.length ∧ l[i]? = some e) ∨ (i = l.length ∧ e = (f, kd, n)) := fun i e z => by
    by_cases c : i < l.length
    · rw [List.getElem?_append_left c] at z
      exact Or.inl ⟨c, z⟩
    · rw [List.getElem?_append_right (by omega)] at z
      have j0 : i - l.length = 0 := by
        refine Decidable.byContradiction (fun w => ?_)
        rw [List.getElem?_eq_none (by show 1 ≤ i - l.length; omega)] at z
        cases z
      rw [j0] at z
      exact Or.inr ⟨by omega, by injection z with z; exact z.symm⟩
  have mem : (l ++ [(f, kd, n)])[l.length]? = some (f, kd, n) := by
    rw [List.getElem?_append_right (Nat.le_refl _), Nat.sub_self]; rfl
  refine ⟨by rw [s1, a1, List.length_append]; rfl, fun x hx => (a2 x hx).trans (s2 x (by omega)), fun x hx ne => (s3 x (by omega) ne).trans (a3 x hx ne), fun g hg => ?_, fun i e z => ?_⟩
  · have gf : g ≠ f := fun w => hg l.length _ mem w.symm
    rw [s4, up1_n _ _ gf]
    exact a4 g (fun i e z => hg i e (by rw [List.getElem?_append_left (lt i e z)]; exact z))
  · rcases sp i e z with ⟨w1, w2⟩ | ⟨w1, w2⟩
    · obtain ⟨b1, b2, b3, b4, b5, b6⟩ := a5 i e w2
      obtain ⟨k1, k2, k3, k5, k6, k7⟩ := s2 (hsz h + i) (by omega)
      exact ⟨by rw [s4, up1_n _ _ (nf i e w2)]; exact b1, k1.trans b2, k2.trans b3, k5.trans b4, k6.trans b5, k7.trans b6⟩
    · subst w1 w2
      rw [← a1]
      exact ⟨by rw [s4, up1_s], s5⟩
def ini (x : Nat) : Int32 := if x = 2 then -1 else if x = 3 then nI 1 else if 56 ≤ x ∧ x < 105 then nI 9999 else if 105 ≤ x ∧ x < 154 then (if (x - 105) % 7 = 2 then -1 else if (x - 105) % 7 < 2 then (if x < 112 then nI 0 else nI 9999) else nI 0) else nI 0
theorem ini_C (r o : Nat) (hr : r < 7) (ho : o < 7) : gC ini r o = nI 0 := by
  unfold gC ini
  rw [if_neg (by omega), if_neg (by omega), if_neg (by omega), if_neg (by omega)]
theorem ini_T (r o : Nat) (hr : r < 7) (ho : o < 7) : gT ini r o = nI 9999 := by
  unfold gT ini
  rw [if_neg (by omega), if_neg (by omega), if_pos (by omega)]
theorem ini_R (r j : Nat) (hr : r < 7) (hj : j < 7) : gR ini r j = if j = 2 then -1 else if j < 2 then (if r = 0 then nI 0 else nI 9999) else nI 0 := by
  unfold gR ini
  have e : (105 + 7 * r + j - 105) % 7 = j := by omega
  rw [if_neg (by omega), if_neg (by omega), if_neg (by omega), if_pos (by omega), e]
  by_cases c : j = 2
  · rw [if_pos c, if_pos c]
  · rw [if_neg c, if_neg c]
    by_cases c2 : j < 2
    · rw [if_pos c2, if_pos c2]
      by_cases c3 : r = 0
      · rw [if_pos c3, if_pos (by omega)]
      · rw [if_neg c3, if_neg (by omega)]
    · rw [if_neg c2, if_neg c2]
theorem ini_0 : ini 0 = nI 0 ∧ ini 1 = nI 0 ∧ ini 2 = -1 ∧ ini 3 = nI 1 ∧ ini 4 = nI 0 ∧ ini 5 = nI 0 ∧ ini 6 = nI 0 := ⟨rfl, rfl, rfl, rfl, rfl, rfl, rfl⟩
theorem bt_n0 (r : Nat) (hr : r < 7) : bt (nI 0) r = nI 0 := by
  rcases (show r = 0 ∨ r = 1 ∨ r = 2 ∨ r = 3 ∨ r = 4 ∨ r = 5 ∨ r = 6 by omega) with rfl | rfl | rfl | rfl | rfl | rfl | rfl <;> decide
theorem ini_IV : IV ini := by
  have q0 : ql ini = 0 := rfl
  refine ⟨⟨⟨fun r o hr ho => ⟨0, by omega, ini_C r o hr ho, ini_C o r ho hr, fun _ => rfl⟩, fun r o hr ho => ⟨9999, by omega, ini_T r o hr ho⟩, fun r hr => ?_⟩, fun i hi => ?_, ⟨0, by omega, ini_0.2.2.2.2.2.1⟩, ini_0.2.2.2.2.2.2, by rw [q0]; omega⟩, fun r hr => ⟨fun o ho z => ?_, fun _ => ?_⟩, ?_⟩
  · have R := ini_R r
    have r0 : gR ini r 0 = (if r = 0 then nI 0 else nI 9999) := by rw [R 0 hr (by omega), if_neg (by omega), if_pos (by omega)]
    have r2 : gR ini r 2 = -1 := by rw [R 2 hr (by omega), if_pos rfl]
    have r3 : gR ini r 3 = nI 0 := by rw [R 3 hr (by omega), if_neg (by omega), if_neg (by omega)]
    have r4 : gR ini r 4 = nI 0 := by rw [R 4 hr (by omega), if_neg (by omega), if_neg (by omega)]
    have r5 : gR ini r 5 = nI 0 := by rw [R 5 hr (by omega), if_neg (by omega), if_neg (by omega)]
    refine ⟨?_, Or.inl r2, Or.inl r3, ⟨⟨0, by omega, r4⟩, by rw [r4]; exact bt_n0 r hr⟩, ⟨0, by omega, r5⟩⟩
    rw [r0]
    by_cases c : r = 0
    · rw [if_pos c]; exact ⟨0, by omega, rfl⟩
    · rw [if_neg c]; exact ⟨9999, by omega, rfl⟩
  · rw [q0] at hi; omega
  · rw [ini_R r 5 hr (by omega), if_neg (by omega), if_neg (by omega), bt_n0 o ho] at z
    exact absurd z (by decide)
  · rw [ini_R r 5 hr (by omega), if_neg (by omega), if_neg (by omega)]
  · rw [ini_R 0 3 (by omega) (by omega), if_neg (by omega), if_neg (by omega)]
