/-! ===== least: the sixth round is the last that finds anything ===== -/
abbrev WY : Type := Nat → Nat
def rlx (c : Nat → Nat → Nat) (w : WY) (r o : Nat) : WY := if 0 < c r o ∧ w o + c r o < w r then up1 w r (w o + c r o) else w
def rnd1 (c : Nat → Nat → Nat) (w : WY) (r : Nat) : WY := itr (fun w o => rlx c w r o) 0 7 w
def rnd (c : Nat → Nat → Nat) (w : WY) : WY := itr (fun w r => rnd1 c w r) 0 7 w
def wDn (w w' : WY) : Prop := ∀ x, w' x ≤ w x
theorem wDn.refl (w : WY) : wDn w w := fun _ => Nat.le_refl _
theorem wDn.trans {a b c : WY} (x : wDn a b) (y : wDn b c) : wDn a c := fun z => Nat.le_trans (y z) (x z)
theorem itr_dn {f : WY → Nat → WY} (hf : ∀ w j, wDn w (f w j)) : ∀ (m k : Nat) (w : WY), wDn w (itr f k m w)
  | 0, _, w => wDn.refl w
  | m + 1, k, w => by rw [itr_s]; exact (hf w k).trans (itr_dn hf m (k + 1) _)
theorem itr_at {f : WY → Nat → WY} (hf : ∀ w j, wDn w (f w j)) (j : Nat) : ∀ (m k : Nat) (w : WY), k ≤ j → j < k + m → ∃ y, wDn w y ∧ wDn (f y j) (itr f k m w)
  | 0, k, w, h1, h2 => absurd h2 (by omega)
  | m + 1, k, w, h1, h2 => by
    rw [itr_s]
    by_cases e : j = k
    · subst e
      exact ⟨w, wDn.refl w, itr_dn hf m (j + 1) _⟩
    · obtain ⟨y, y1, y2⟩ := itr_at hf j m (k + 1) (f w k) (by omega) (by omega)
      exact ⟨y, (hf w k).trans y1, y2⟩
theorem rlx_dn (c : Nat → Nat → Nat) (w : WY) (r o : Nat) : wDn w (rlx c w r o) := fun x => by
  unfold rlx
  split
  · next h =>
    by_cases e : x = r
    · subst e; rw [up1_s]; omega
    · rw [up1_n _ _ e]; exact Nat.le_refl _
  · exact Nat.le_refl _
theorem rnd1_dn (c : Nat → Nat → Nat) (w : WY) (r : Nat) : wDn w (rnd1 c w r) := itr_dn (fun w j => rlx_dn c w r j) 7 0 w
theorem rnd_dn (c : Nat → Nat → Nat) (w : WY) : wDn w (rnd c w) := itr_dn (fun w j => rnd1_dn c w j) 7 0 w
theorem rnd_at (c : Nat → Nat → Nat) (w : WY) {r o : Nat} (hr : r < 7) (ho : o < 7) : ∃ y, wDn w y ∧ wDn (rlx c y r o) (rnd c w) := by
  obtain ⟨y, y1, y2⟩ := itr_at (fun w j => rnd1_dn c w j) r 7 0 w (by omega) (by omega)
  obtain ⟨z, z1, z2⟩ := itr_at (fun w j => rlx_dn c w r j) o 7 0 y (by omega) (by omega)
  exact ⟨z, y1.trans z1, z2.trans y2⟩
theorem itr_keep {P : WY → Prop} {f : WY → Nat → WY} {n : Nat} (hf : ∀ w j, j < n → P w → P (f w j)) : ∀ (m k : Nat) (w : WY), k + m ≤ n → P w → P (itr f k m w)
  | 0, _, _, _, h => h
  | m + 1, k, w, e, h => by rw [itr_s]; exact itr_keep hf m (k + 1) _ (by omega) (hf w k (by omega) h)
/-- each is what a way makes it -/
def wI (c : Nat → Nat → Nat) (w : WY) : Prop := w 0 = 0 ∧ ∀ r, r < 7 → w r ≤ 9999 ∧ (r ≠ 0 → w r = 9999 ∨ ∃ o, o < 7 ∧ 0 < c r o ∧ c r o + w o ≤ w r)
theorem rlx_I {c : Nat → Nat → Nat} {w : WY} {r o : Nat} (ho : o < 7) (h : wI c w) : wI c (rlx c w r o) := by
  have dn := rlx_dn c w r o
  obtain ⟨h0, h1⟩ := h
  have e0 : rlx c w r o 0 = 0 := by have := dn 0; omega
  refine ⟨e0, fun x hx => ?_⟩
  obtain ⟨a, b⟩ := h1 x hx
  refine ⟨Nat.le_trans (dn x) a, fun x0 => ?_⟩
  by_cases g : (0 < c r o ∧ w o + c r o < w r) ∧ x = r
  · obtain ⟨g, rfl⟩ := g
    have ex : rlx c w x o x = w o + c x o := by unfold rlx; rw [if_pos g, up1_s]
    refine Or.inr ⟨o, ho, g.1, ?_⟩
    have := dn o
    omega
  · have ex : rlx c w r o x = w x := by
      unfold rlx
      by_cases g2 : 0 < c r o ∧ w o + c r o < w r
      · rw [if_pos g2, up1_n _ _ (fun z => g ⟨g2, z⟩)]
      · rw [if_neg g2]
    rw [ex]
    rcases b x0 with z | ⟨o', ho', z1, z2⟩
    · exact Or.inl z
    · exact Or.inr ⟨o', ho', z1, by have := dn o'; omega⟩
theorem rnd_I {c : Nat → Nat → Nat} {w : WY} (h : wI c w) : wI c (rnd c w) :=
  itr_keep (n := 7) (fun w r _ hw => itr_keep (n := 7) (fun w o ho hw => rlx_I ho hw) 7 0 w (by omega) hw) 7 0 w (by omega) h
theorem rnd_hi {c : Nat → Nat → Nat} {w : WY} {x : Nat} (hx : 7 ≤ x) : rnd c w x = w x :=
  itr_keep (P := fun v => v x = w x) (n := 7) (fun v r hr hv => itr_keep (P := fun v => v x = w x) (n := 7) (fun v o _ hv => by
    show rlx c v r o x = w x
    unfold rlx
    split
    · rw [up1_n _ _ (by omega)]; exact hv
    · exact hv) 7 0 v (by omega) hv) 7 0 w (by omega) rfl
def rK (c : Nat → Nat → Nat) (w : WY) : Nat → WY
  | 0 => w
  | k + 1 => rnd c (rK c w k)
theorem rK_dn (c : Nat → Nat → Nat) (w : WY) (k : Nat) : ∀ j, wDn (rK c w k) (rK c w (k + j))
  | 0 => wDn.refl _
  | j + 1 => (rK_dn c w k j).trans (rnd_dn c _)
theorem rK_I {c : Nat → Nat → Nat} {w : WY} (h : wI c w) : ∀ k, wI c (rK c w k)
  | 0 => h
  | k + 1 => rnd_I (rK_I h k)
def sm7 (w : WY) : Nat := w 0 + w 1 + w 2 + w 3 + w 4 + w 5 + w 6
theorem sm7_eq {w w' : WY} (d : wDn w w') (e : sm7 w ≤ sm7 w') : ∀ x, x < 7 → w' x = w x := by
  have a0 := d 0
  have a1 := d 1
  have a2 := d 2
  have a3 := d 3
  have a4 := d 4
  have a5 := d 5
  have a6 := d 6
  unfold sm7 at e
  intro x hx
  rcases (show x = 0 ∨ x = 1 ∨ x = 2 ∨ x = 3 ∨ x = 4 ∨ x = 5 ∨ x = 6 by omega) with rfl | rfl | rfl | rfl | rfl | rfl | rfl <;> omega
theorem rK_shift (c : Nat → Nat → Nat) (w : WY) : ∀ k, rK c (rnd c w) k = rK c w (k + 1)
  | 0 => rfl
  | k + 1 => by
    show rnd c (rK c (rnd c w) k) = rnd c (rK c w (k + 1))
    rw [rK_shift c w k]
theorem rK_fix (c : Nat → Nat → Nat) : ∀ (n : Nat) (w : WY), sm7 w ≤ n → ∃ N, rnd c (rK c w N) = rK c w N
  | 0, w, h => by
    refine ⟨0, funext fun x => ?_⟩
    by_cases hx : x < 7
    · exact sm7_eq (rnd_dn c w) (by omega) x hx
    · exact rnd_hi (by omega)
  | n + 1, w, h => by
    by_cases e : sm7 w ≤ sm7 (rnd c w)
    · refine ⟨0, funext fun x => ?_⟩
      by_cases hx : x < 7
      · exact sm7_eq (rnd_dn c w) e x hx
      · exact rnd_hi (by omega)
    · obtain ⟨N, hN⟩ := rK_fix c n (rnd c w) (by omega)
      rw [rK_shift] at hN
      exact ⟨N + 1, hN⟩
theorem rK_stay {c : Nat → Nat → Nat} {w : WY} {N : Nat} (h : rnd c (rK c w N) = rK c w N) : ∀ j, rK c w (N + j) = rK c w N
  | 0 => rfl
  | j + 1 => by
    show rnd c (rK c w (N + j)) = _
    rw [rK_stay h j]; exact h
def ctB (f : Nat → Bool) : Nat → Nat
  | 0 => 0
  | n + 1 => ctB f n + (if f n = true then 1 else 0)
theorem ctB_le (f : Nat → Bool) : ∀ n, ctB f n ≤ n
  | 0 => Nat.le_refl _
  | n + 1 => by
    have := ctB_le f n
    show ctB f n + (if f n = true then 1 else 0) ≤ n + 1
    split <;> omega
theorem ctB_mono {f g : Nat → Bool} : ∀ n, (∀ x, x < n → f x = true → g x = true) → ctB f n ≤ ctB g n
  | 0, _ => Nat.le_refl _
  | n + 1, h => by
    have := ctB_mono n (fun x hx => h x (by omega))
    have h2 := h n (by omega)
    show ctB f n + (if f n = true then 1 else 0) ≤ ctB g n + (if g n = true then 1 else 0)
    by_cases a : f n = true
    · rw [if_pos a, if_pos (h2 a)]; omega
    · rw [if_neg a]; omega
theorem ctB_lt {f g : Nat → Bool} : ∀ n, (∀ x, x < n → f x = true → g x = true) → (∃ x, x < n ∧ ¬ f x = true ∧ g x = true) → ctB f n < ctB g n
  | 0, _, ⟨x, hx, _⟩ => absurd hx (Nat.not_lt_zero x)
  | n + 1, h, ⟨x, hx, a, b⟩ => by
    show ctB f n + (if f n = true then 1 else 0) < ctB g n + (if g n = true then 1 else 0)
    by_cases e : x = n
    · subst e
      have := ctB_mono x (fun y hy => h y (by omega))
      rw [if_neg a, if_pos b]; omega
    · have := ctB_lt n (fun y hy => h y (by omega)) ⟨x, by omega, a, b⟩
      have h2 := h n (by omega)
      by_cases a : f n = true
      · rw [if_pos a, if_pos (h2 a)]; omega
      · rw [if_neg a]; omega
theorem ctB_all {f : Nat → Bool} : ∀ n, n ≤ ctB f n → ∀ x, x < n → f x = true
  | 0, _, x, hx => absurd hx (Nat.not_lt_zero x)
  | n + 1, h, x, hx => by
    have h' : n + 1 ≤ ctB f n + (if f n = true then 1 else 0) := h
    have := ctB_le f n
    by_cases a : f n = true
    · rw [if_pos a] at h'
      by_cases e : x = n
      · subst e; exact a
      · exact ctB_all n (by omega) x (by omega)
    · rw [if_neg a] at h'; omega
/-- of those that are not there yet one is least -/
theorem leastOf {P : Nat → Prop} (hP : ∀ x, P x ∨ ¬ P x) (v : Nat → Nat) (ex : ∃ x, x < 7 ∧ P x) : ∃ x, x < 7 ∧ P x ∧ ∀ y, y < 7 → P y → v x ≤ v y := by
  have G : ∀ n, (∃ x, x < n ∧ P x) → ∃ x, x < n ∧ P x ∧ ∀ y, y < n → P y → v x ≤ v y := by
    intro n
    induction n with
    | zero => exact fun ⟨x, hx, _⟩ => absurd hx (Nat.not_lt_zero x)
    | succ n ih =>
      rintro ⟨x, hx, px⟩
      by_cases e : ∃ x, x < n ∧ P x
      · obtain ⟨z, z1, z2, z3⟩ := ih e
        by_cases g : P n ∧ v n < v z
        · refine ⟨n, by omega, g.1, fun y hy py => ?_⟩
          by_cases e : y = n
          · subst e; exact Nat.le_refl _
          · have := z3 y (by omega) py; omega
        · refine ⟨z, by omega, z2, fun y hy py => ?_⟩
          by_cases e : y = n
          · subst e
            exact Nat.not_lt.mp (fun q => g ⟨py, q⟩)
          · exact z3 y (by omega) py
      · have xn : x = n := by
          by_cases q : x = n
          · exact q
          · exact absurd ⟨x, by omega, px⟩ e
        subst xn
        refine ⟨x, by omega, px, fun y hy py => ?_⟩
        by_cases q : y = x
        · subst q; exact Nat.le_refl _
        · exact absurd ⟨y, by omega, py⟩ e
  exact G 7 ex
theorem six {c : Nat → Nat → Nat} {w : WY} (h : wI c w) : rK c w 7 = rK c w 6 := by
  obtain ⟨N, hN⟩ := rK_fix c _ w (Nat.le_refl _)
  generalize hL : rK c w N = L at *
  have lo : ∀ k, wDn (rK c w k) L := fun k => by
    by_cases e : k ≤ N
    · have := rK_dn c w k (N - k)
      rw [show k + (N - k) = N by omega, hL] at this
      exact this
    · have := rK_stay (c := c) (w := w) (N := N) (by rw [hL]; exact hN) (k - N)
      rw [show N + (k - N) = k by omega, hL] at this
      rw [this]; exact wDn.refl L
  have LI : wI c L := by rw [← hL]; exact rK_I h N
  have fixL : ∀ r o, r < 7 → o < 7 → 0 < c r o → L r ≤ L o + c r o := fun r o hr ho hc => by
    obtain ⟨y, y1, y2⟩ := rnd_at c L hr ho
    rw [hN] at y2
    have a := y1 o
    have b := y2 r
    have d := y1 r
    by_cases g : 0 < c r o ∧ y o + c r o < y r
    · have ex : rlx c y r o r = y o + c r o := by unfold rlx; rw [if_pos g, up1_s]
      omega
    · have : ¬ y o + c r o < y r := fun z => g ⟨hc, z⟩
      have e2 : rlx c y r o = y := by unfold rlx; rw [if_neg g]
      rw [e2] at b
      omega
  have key : ∀ k, k ≤ 6 → k + 1 ≤ ctB (fun x => decide (rK c w k x = L x)) 7 := by
    intro k
    induction k with
    | zero =>
      intro _
      have : ctB (fun _ => false) 7 < ctB (fun x => decide (rK c w 0 x = L x)) 7 := ctB_lt 7 (fun _ _ z => absurd z (by decide)) ⟨0, by omega, by decide, by
        rw [decide_eq_true_iff]
        show w 0 = L 0
        rw [h.1, LI.1]⟩
      omega
    | succ k ih =>
      intro hk
      have ihk := ih (by omega)
      have mono : ∀ x, x < 7 → decide (rK c w k x = L x) = true → decide (rK c w (k + 1) x = L x) = true := fun x _ z => by
        rw [decide_eq_true_iff] at *
        have a := rnd_dn c (rK c w k) x
        have b := lo (k + 1) x
        have a' : rK c w (k + 1) x ≤ rK c w k x := a
        omega
      by_cases all : ∀ x, x < 7 → rK c w k x = L x
      · have : ctB (fun _ => true) 7 ≤ ctB (fun x => decide (rK c w (k + 1) x = L x)) 7 := ctB_mono 7 (fun x hx _ => mono x hx (decide_eq_true (all x hx)))
        have e7 : ctB (fun _ => true) 7 = 7 := rfl
        omega
      · have ex : ∃ x, x < 7 ∧ ¬ rK c w k x = L x := by
          apply Classical.byContradiction
          intro q
          exact all (fun x hx => Classical.byContradiction (fun z => q ⟨x, hx, z⟩))
        obtain ⟨r, hr, nr, least⟩ := leastOf (fun x => (Classical.em _)) L ex
        have r0 : r ≠ 0 := fun z => nr (by rw [z, LI.1]; exact (rK_I h k).1)
        have lt : L r < rK c w k r := by have := lo k r; omega
        have le := ((rK_I h k).2 r hr).1
        obtain ⟨o, ho, co, eo⟩ := ((LI.2 r hr).2 r0).resolve_left (by omega)
        have so : rK c w k o = L o := Classical.byContradiction (fun z => by have := least o ho z; omega)
        have new : rK c w (k + 1) r = L r := by
          obtain ⟨y, y1, y2⟩ := rnd_at c (rK c w k) hr ho
          have a := y1 o
          have b := y2 r
          have d := lo (k + 1) r
          have b' : rK c w (k + 1) r ≤ rlx c y r o r := b
          by_cases g : 0 < c r o ∧ y o + c r o < y r
          · have ex : rlx c y r o r = y o + c r o := by unfold rlx; rw [if_pos g, up1_s]
            omega
          · have : ¬ y o + c r o < y r := fun z => g ⟨co, z⟩
            have e2 : rlx c y r o = y := by unfold rlx; rw [if_neg g]
            rw [e2] at b'
            omega
        have : ctB (fun x => decide (rK c w k x = L x)) 7 < ctB (fun x => decide (rK c w (k + 1) x = L x)) 7 := ctB_lt 7 mono ⟨r, hr, by rw [decide_eq_true_iff]; exact nr, by rw [decide_eq_true_iff]; exact new⟩
        omega
  have all6 := ctB_all 7 (key 6 (by omega))
  have hi : ∀ k x, 7 ≤ x → rK c w k x = w x := fun k x hx => by
    induction k with
    | zero => rfl
    | succ k ih => exact (rnd_hi hx).trans ih
  have e6 : rK c w 6 = L := funext fun x => by
    by_cases hx : x < 7
    · have := all6 x hx
      rw [decide_eq_true_iff] at this
      exact this
    · rw [hi 6 x (by omega), ← hL, hi N x (by omega)]
  show rnd c (rK c w 6) = rK c w 6
  rw [e6]
  exact hN
