/-! ===== ask ===== -/
def cnF (p : RW) (c : Int32) (f : Nat) (v : Int32) (n o : Nat) : Nat := if bt c o = nI 1 ∧ fcV p o f = v then n + 1 else n
def cnA (p : RW) (c : Int32) (f : Nat) (v : Int32) : Nat := itr (cnF p c f v) 0 7 0
theorem cnF_le (p : RW) (c : Int32) (f : Nat) (v : Int32) : ∀ (m k n : Nat), itr (cnF p c f v) k m n ≤ n + m ∧ n ≤ itr (cnF p c f v) k m n
  | 0, k, n => ⟨Nat.le_refl _, Nat.le_refl _⟩
  | m + 1, k, n => by
    rw [itr_s]
    obtain ⟨a, b⟩ := cnF_le p c f v m (k + 1) (cnF p c f v n k)
    have : cnF p c f v n k ≤ n + 1 ∧ n ≤ cnF p c f v n k := by
      unfold cnF
      split <;> omega
    omega
theorem cnF_0 (p : RW) (c : Int32) (f : Nat) (v : Int32) : ∀ (m k n : Nat), (∀ o, k ≤ o → o < k + m → ¬ (bt c o = nI 1 ∧ fcV p o f = v)) → itr (cnF p c f v) k m n = n
  | 0, k, n, _ => rfl
  | m + 1, k, n, h => by
    rw [itr_s]
    have : cnF p c f v n k = n := by
      unfold cnF
      rw [if_neg (h k (by omega) (by omega))]
    rw [this]
    exact cnF_0 p c f v m (k + 1) n (fun o h1 h2 => h o (by omega) (by omega))
def mxN (a b : Nat) : Nat := if a < b then b else a
theorem mxI {a b : Nat} (ha : a < 2 ^ 31) (hb : b < 2 ^ 31) : (if nI a < nI b then nI b else nI a) = nI (mxN a b) := by
  unfold mxN
  by_cases c : a < b
  · rw [if_pos c, if_pos (by rw [ltI ha hb]; exact c)]
  · rw [if_neg c, if_neg (by rw [ltI ha hb]; exact c)]
theorem mxG (g : Nat → Nat) : ∀ (m k x : Nat), (x ≤ itr (fun a j => mxN a (g j)) k m x) ∧ (∀ j, k ≤ j → j < k + m → g j ≤ itr (fun a j => mxN a (g j)) k m x) ∧ ∀ B, x ≤ B → (∀ j, k ≤ j → j < k + m → g j ≤ B) → itr (fun a j => mxN a (g j)) k m x ≤ B
  | 0, k, x => ⟨Nat.le_refl _, fun j h1 h2 => absurd h2 (by omega), fun B h _ => h⟩
  | m + 1, k, x => by
    rw [itr_s]
    obtain ⟨a, b, c⟩ := mxG g m (k + 1) (mxN x (g k))
    have h1 : x ≤ mxN x (g k) ∧ g k ≤ mxN x (g k) := by
      unfold mxN
      split <;> omega
    refine ⟨Nat.le_trans h1.1 a, fun j j1 j2 => ?_, fun B hx hB => ?_⟩
    · by_cases e : j = k
      · subst e; exact Nat.le_trans h1.2 a
      · exact b j (by omega) (by omega)
    · refine c B ?_ (fun j j1 j2 => hB j (by omega) (by omega))
      have := hB k (by omega) (by omega)
      unfold mxN
      split <;> omega
def maX (p : RW) (c : Int32) (f : Nat) : Nat := itr (fun a j => mxN a (cnA p c f (fcV p j f))) 0 7 0
def maM (p : RW) (c : Int32) (f : Nat) : Nat := itr (fun a j => mxN a (cnA p c f (dn j))) 0 8 0
set_option maxRecDepth 100000 in
theorem many6 : ∀ m, m < 128 → ∀ o, o < 7 → bt (nI m) o = nI 0 → mMany (nI m) = nI 0 ∨ mMany (nI m) = nI 1 ∨ mMany (nI m) = nI 2 ∨ mMany (nI m) = nI 3 ∨ mMany (nI m) = nI 4 ∨ mMany (nI m) = nI 5 ∨ mMany (nI m) = nI 6 := by decide +kernel
theorem many_dn {x : Int32} {r : Nat} (hr : r < 7) (h : N7 x r) : ∃ j, j < 8 ∧ mMany x = dn j := by
  obtain ⟨⟨m, hm, rfl⟩, h0⟩ := h
  rcases many6 m hm r hr h0 with e | e | e | e | e | e | e
  · exact ⟨1, by omega, e⟩
  · exact ⟨2, by omega, e⟩
  · exact ⟨3, by omega, e⟩
  · exact ⟨4, by omega, e⟩
  · exact ⟨5, by omega, e⟩
  · exact ⟨6, by omega, e⟩
  · exact ⟨7, by omega, e⟩
theorem fc_dn {p : RW} (iv : IV p) {r : Nat} (hr : r < 7) (f : Nat) : ∃ j, j < 8 ∧ fcV p r f = dn j := by
  obtain ⟨-, su, h3, n4, -⟩ := iv.1.1.2.2 r hr
  unfold fcV
  split
  · exact many_dn hr ⟨(mNb_b p r).1, nb_self iv.1.1.1 hr⟩
  split
  · rcases h3 with e | e
    · exact ⟨1, by omega, e⟩
    · exact ⟨2, by omega, e⟩
  split
  · exact many_dn hr n4
  · rcases su with e | ⟨o, ho, e⟩
    · exact ⟨0, by omega, e⟩
    · exact ⟨o + 1, by omega, e⟩
theorem ma_eq {p : RW} (iv : IV p) (c : Int32) (f : Nat) : maX p c f = maM p c f := by
  obtain ⟨-, bx, cx⟩ := mxG (fun j => cnA p c f (fcV p j f)) 7 0 0
  obtain ⟨-, bm, cm'⟩ := mxG (fun j => cnA p c f (dn j)) 8 0 0
  refine Nat.le_antisymm (cx _ (Nat.zero_le _) (fun j _ hj => ?_)) (cm' _ (Nat.zero_le _) (fun j _ hj => ?_))
  · obtain ⟨i, hi, e⟩ := fc_dn iv (r := j) (by omega) f
    show cnA p c f (fcV p j f) ≤ _
    rw [e]
    exact bm i (by omega) (by omega)
  · by_cases ex : ∃ o, o < 7 ∧ bt c o = nI 1 ∧ fcV p o f = dn j
    · obtain ⟨o, ho, -, e⟩ := ex
      show cnA p c f (dn j) ≤ _
      rw [← e]
      exact bx o (by omega) (by omega)
    · show cnA p c f (dn j) ≤ _
      have : cnA p c f (dn j) = 0 := cnF_0 p c f (dn j) 7 0 0 (fun o _ ho z => ex ⟨o, by omega, z⟩)
      rw [this]
      exact Nat.zero_le _
theorem ma_le (p : RW) (c : Int32) (f : Nat) : maX p c f ≤ 7 := (mxG (fun j => cnA p c f (fcV p j f)) 7 0 0).2.2 7 (by omega) (fun j _ _ => by have := (cnF_le p c f (fcV p j f) 7 0 0).1; exact (by omega : itr (cnF p c f (fcV p j f)) 0 7 0 ≤ 7))
theorem x_l_al (d f one : Nat) (hf : f < 4) (h1 : one < 7) (c : Int32) {h : MH} {p : RW} (s : XS h) (V : NeV h 26 p) (iv : IV p) (mo : Nat) (hmo : mo ≤ 7) (Q : RT) (lm : Nat × Nat) : ∀ (m k n : Nat), k + m = 7 → n ≤ k → (∀ w5 w6, WP cd_Di_mostAlike (callD (d + 2)) Q lm 5 [] [some (.ref 24), some (.int c), some (.int (nI f)), some (.int (nI (mxN mo (itr (cnF p c f (fcV p one f)) k m n)))), some (.int (nI (one + 1))), w5, w6] h) → WP cd_Di_mostAlike (callD (d + 2)) Q lm 18 [] [some (.ref 24), some (.int c), some (.int (nI f)), some (.int (nI mo)), some (.int (nI one)), some (.int (nI n)), some (.int (nI k))] h
  | 0, k, n, e, hn, K => by
    have Y := K (some (.int (nI n))) (some (.int (nI k)))
    rw [itr_0] at Y
    have MX := fun h Q => e_max (d + 1) (nI mo) (nI n) h Q
    rw [mxI (by omega) (by omega)] at MX
    rw [U_Di_mostAlike_18 (cm _)]
    simp (disch := omega) only [U_Di_mostAlike (cm _), SA, SB, SC1, SC2, SG, SK, SV, leI, show 7 ≤ k by omega, MX, nI_add, true_or, or_true, true_implies, not_true_eq_false, not_false_eq_true, false_implies, true_and, and_true]
    exact Y
  | m + 1, k, n, e, hn, K => by
    rw [itr_s] at K
    have so := (s).1
    unfold XSo at so
    have sw := WoS_25 (s)
    unfold WoS at sw
    simp only [Nat.reduceAdd] at sw
    have hS := s.2.2.2.2.2.1.1
    have k2 := hS.1
    have EB := fun h Q => e_bit (d + 1) c k h Q
    have FA := fun Q => x_fact d k f (by omega) hf hS V iv Q
    have FB := fun Q => x_fact d one f h1 hf hS V iv Q
    have ih := x_l_al d f one hf h1 c s V iv mo hmo Q lm m (k + 1) (cnF p c f (fcV p one f) n k) (by omega) (by unfold cnF; split <;> omega) K
    rw [U_Di_mostAlike_18 (cm _)]
    unfold cnF at ih
    by_cases c1 : bt c k = nI 1
    · by_cases c2 : fcV p k f = fcV p one f
      · rw [if_pos ⟨c1, c2⟩] at ih
        simp (disch := omega) only [U_Di_mostAlike (cm _), SA, SB, SC1, SC2, SG, SK, SV, so, sw, k2, EB, FA, FB, c1, c2, leI, show ¬ 7 ≤ k by omega, nI_add, true_or, or_true, true_implies, not_true_eq_false, not_false_eq_true, false_implies, true_and, and_true]
        exact ih
      · rw [if_neg (fun z => c2 z.2)] at ih
        simp (disch := omega) only [U_Di_mostAlike (cm _), SA, SB, SC1, SC2, SG, SK, SV, so, sw, k2, EB, FA, FB, c1, c2, leI, show ¬ 7 ≤ k by omega, nI_add, true_or, or_true, true_implies, not_true_eq_false, not_false_eq_true, false_implies, true_and, and_true]
        exact ih
    · rw [if_neg (fun z => c1 z.1)] at ih
      simp (disch := omega) only [U_Di_mostAlike (cm _), SA, SB, SC1, SC2, SG, SK, SV, so, sw, k2, EB, c1, leI, show ¬ 7 ≤ k by omega, nI_add, true_or, or_true, true_implies, not_true_eq_false, not_false_eq_true, false_implies, true_and, and_true]
      exact ih
theorem mx7 (p : RW) (c : Int32) (f mo : Nat) (v : Int32) (h : mo ≤ 7) : mxN mo (cnA p c f v) ≤ 7 := by
  have := (cnF_le p c f v 7 0 0).1
  have h2 : cnA p c f v ≤ 7 := by unfold cnA; omega
  unfold mxN
  split <;> omega
theorem x_l_ma (d f : Nat) (hf : f < 4) (c : Int32) {h : MH} {p : RW} (s : XS h) (V : NeV h 26 p) (iv : IV p) (Q : RT) (lm : Nat × Nat) : ∀ (m k x : Nat) (w5 w6 : Option Value), k + m = 7 → x ≤ 7 → Q (some (.int (nI (itr (fun a j => mxN a (cnA p c f (fcV p j f))) k m x)))) h → WP cd_Di_mostAlike (callD (d + 2)) Q lm 5 [] [some (.ref 24), some (.int c), some (.int (nI f)), some (.int (nI x)), some (.int (nI k)), w5, w6] h
  | 0, k, x, w5, w6, e, hx, Y => by
    rw [itr_0] at Y
    rw [U_Di_mostAlike_5 (cm _)]
    simp (disch := omega) only [U_Di_mostAlike (cm _), SA, SB, SC1, SC2, SG, SK, SV, leI, show 7 ≤ k by omega, true_or, or_true, true_implies, not_true_eq_false, not_false_eq_true, false_implies, true_and, and_true]
    exact Y
  | m + 1, k, x, w5, w6, e, hx, Y => by
    rw [itr_s] at Y
    rw [U_Di_mostAlike_5 (cm _)]
    simp (disch := omega) only [U_Di_mostAlike (cm _), SA, SB, SC1, SC2, SG, SK, SV, leI, show ¬ 7 ≤ k by omega, true_or, or_true, true_implies, not_true_eq_false, not_false_eq_true, false_implies, true_and, and_true]
    exact x_l_al d f k hf (by omega) c s V iv x hx Q lm 7 0 0 (by omega) (by omega) (fun w5 w6 => x_l_ma d f hf c s V iv Q lm m (k + 1) _ w5 w6 (by omega) (mx7 p c f x (fcV p k f) hx) Y)
theorem x_mostAlike (d f : Nat) (hf : f < 4) (c : Int32) {h : MH} {p : RW} (s : XS h) (V : NeV h 26 p) (iv : IV p) (Q : RT) (K : Q (some (.int (nI (maX p c f)))) h) : callD (d + 3) 127 [.ref 24, .int c, .int (nI f)] h Q := by
  rw [E_Di_mostAlike]
  simp only [U_Di_mostAlike (cm _), SA, SB, SG, SV]
  exact x_l_ma d f hf c s V iv Q _ 7 0 0 none none (by omega) (by omega) K
theorem m_l_al (d f j : Nat) (hf : f < 4) (hj : j < 8) (c : Int32) {h : MH} {p : RW} (hM : MoS h) (hp : hia h 275 = p) (mo : Nat) (hmo : mo ≤ 7) (Q : RT) (lm : Nat × Nat) : ∀ (m k n : Nat), k + m = 7 → n ≤ k → (∀ w5 w6, WP cd_Mo_mostAlike (callD (d + 3)) Q lm 5 [] [some (.ref 273), some (.int c), some (.int (nI f)), some (.int (nI (mxN mo (itr (cnF p c f (dn j)) k m n)))), some (.int (dn (j + 1))), w5, w6] h) → WP cd_Mo_mostAlike (callD (d + 3)) Q lm 18 [] [some (.ref 273), some (.int c), some (.int (nI f)), some (.int (nI mo)), some (.int (dn j)), some (.int (nI n)), some (.int (nI k))] h
  | 0, k, n, e, hn, K => by
    have Y := K (some (.int (nI n))) (some (.int (nI k)))
    rw [itr_0] at Y
    have z : dn j + nI 1 = dn (j + 1) := by
      cases j with
      | zero => decide
      | succ j => rw [dn_1, dn_1, nI_add]
    rw [U_Mo_mostAlike_18 (cm _)]
    unfold mxN at Y
    by_cases c1 : n ≤ mo
    · rw [if_neg (by omega)] at Y
      simp (disch := omega) only [U_Mo_mostAlike (cm _), SA, SB, SC1, SC2, SG, SK, SV, leI, c1, show 7 ≤ k by omega, z, true_or, or_true, true_implies, not_true_eq_false, not_false_eq_true, false_implies, true_and, and_true]
      exact Y
    · rw [if_pos (by omega)] at Y
      simp (disch := omega) only [U_Mo_mostAlike (cm _), SA, SB, SC1, SC2, SG, SK, SV, leI, c1, show 7 ≤ k by omega, z, true_or, or_true, true_implies, not_true_eq_false, not_false_eq_true, false_implies, true_and, and_true]
      exact Y
  | m + 1, k, n, e, hn, K => by
    rw [itr_s] at K
    have k8 := hM.1
    have EB := fun h Q => e_is (d + 2) c k h Q
    have FA := fun Q => m_factOf d k f (by omega) hf hM hp Q
    have ih := m_l_al d f j hf hj c hM hp mo hmo Q lm m (k + 1) (cnF p c f (dn j) n k) (by omega) (by unfold cnF; split <;> omega) K
    rw [U_Mo_mostAlike_18 (cm _)]
    unfold cnF at ih
    by_cases c1 : bt c k = nI 1
    · rw [b01_t c1] at EB
      by_cases c2 : fcV p k f = dn j
      · rw [if_pos ⟨c1, c2⟩] at ih
        simp (disch := omega) only [U_Mo_mostAlike (cm _), SA, SB, SC1, SC2, SG, SK, SV, k8, EB, FA, c2, leI, eqI, Nat.one_ne_zero, show ¬ 7 ≤ k by omega, nI_add, true_or, or_true, true_implies, not_true_eq_false, not_false_eq_true, false_implies, true_and, and_true]
        exact ih
      · rw [if_neg (fun z => c2 z.2)] at ih
        simp (disch := omega) only [U_Mo_mostAlike (cm _), SA, SB, SC1, SC2, SG, SK, SV, k8, EB, FA, c2, leI, eqI, Nat.one_ne_zero, show ¬ 7 ≤ k by omega, nI_add, Nat.add_zero, true_or, or_true, true_implies, not_true_eq_false, not_false_eq_true, false_implies, true_and, and_true]
        exact ih
    · rw [b01_f c1] at EB
      rw [if_neg (fun z => c1 z.1)] at ih
      simp (disch := omega) only [U_Mo_mostAlike (cm _), SA, SB, SC1, SC2, SG, SK, SV, k8, EB, leI, eqI, Nat.one_ne_zero, show ¬ 7 ≤ k by omega, nI_add, Nat.add_zero, true_or, or_true, true_implies, not_true_eq_false, not_false_eq_true, false_implies, true_and, and_true]
      exact ih
theorem m_l_ma (d f : Nat) (hf : f < 4) (c : Int32) {h : MH} {p : RW} (hM : MoS h) (hp : hia h 275 = p) (Q : RT) (lm : Nat × Nat) : ∀ (m k x : Nat) (w5 w6 : Option Value), k + m = 8 → x ≤ 7 → Q (some (.int (nI (itr (fun a j => mxN a (cnA p c f (dn j))) k m x)))) h → WP cd_Mo_mostAlike (callD (d + 3)) Q lm 5 [] [some (.ref 273), some (.int c), some (.int (nI f)), some (.int (nI x)), some (.int (dn k)), w5, w6] h
  | 0, k, x, w5, w6, e, hx, Y => by
    rw [itr_0] at Y
    obtain rfl : k = 8 := by omega
    rw [U_Mo_mostAlike_5 (cm _), dn_1]
    simp (disch := omega) only [U_Mo_mostAlike (cm _), SA, SB, SC1, SC2, SG, SK, SV, leI, Nat.le_refl, true_or, or_true, true_implies, not_true_eq_false, not_false_eq_true, false_implies, true_and, and_true]
    exact Y
  | m + 1, k, x, w5, w6, e, hx, Y => by
    rw [itr_s] at Y
    have z : ¬ nI 7 ≤ dn k := by
      cases k with
      | zero => decide
      | succ k => rw [dn_1, leI (by omega) (by omega)]; omega
    rw [U_Mo_mostAlike_5 (cm _)]
    simp (disch := omega) only [U_Mo_mostAlike (cm _), SA, SB, SC1, SC2, SG, SK, SV, z, true_or, or_true, true_implies, not_true_eq_false, not_false_eq_true, false_implies, true_and, and_true]
    exact m_l_al d f k hf (by omega) c hM hp x hx Q lm 7 0 0 (by omega) (by omega) (fun w5 w6 => m_l_ma d f hf c hM hp Q lm m (k + 1) _ w5 w6 (by omega) (mx7 p c f x (dn k) hx) Y)
theorem m_mostAlike (d f : Nat) (hf : f < 4) (c : Int32) {h : MH} {p : RW} (hM : MoS h) (hp : hia h 275 = p) (Q : RT) (K : Q (some (.int (nI (maM p c f)))) h) : callD (d + 4) 232 [.ref 273, .int c, .int (nI f)] h Q := by
  rw [E_Mo_mostAlike]
  simp only [U_Mo_mostAlike (cm _), SA, SB, SG, SV]
  exact m_l_ma d f hf c hM hp Q _ 8 0 0 none none (by omega) (by omega) K
def akF (g : Nat → Nat) (s : Int32 × Nat) (f : Nat) : Int32 × Nat := if g f < s.2 then (nI f, g f) else s
theorem ak_89 {g : Nat → Nat} (h : g 0 ≤ 7) : itr (akF g) 0 4 (-1, 8) = itr (akF g) 0 4 (-1, 9999) := by
  show itr (akF g) 1 3 (akF g (-1, 8) 0) = itr (akF g) 1 3 (akF g (-1, 9999) 0)
  have a : akF g (-1, 8) 0 = (nI 0, g 0) := if_pos (by show g 0 < 8; omega)
  have b : akF g (-1, 9999) 0 = (nI 0, g 0) := if_pos (by show g 0 < 9999; omega)
  rw [a, b]
def akV (s : Int32 × Nat) (w : Nat) : Int32 := if w = 0 then s.1 else nI s.2
theorem x_l_ask (d w : Nat) (hw : w ≤ 1) (c : Int32) {h : MH} {p : RW} (s : XS h) (V : NeV h 26 p) (iv : IV p) (Q : RT) (lm : Nat × Nat) : ∀ (m k : Nat) (st : Int32 × Nat) (w6 : Option Value), k + m = 4 → st.2 ≤ 9999 → Q (some (.int (akV (itr (akF (maX p c)) k m st) w))) h → WP cd_Di_ask (callD (d + 4)) Q lm 29 [] [some (.ref 24), some (.int (nI w)), some (.int c), some (.int st.1), some (.int (nI st.2)), some (.int (nI k)), w6] h
  | 0, k, st, w6, e, hs, Y => by
    rw [itr_0] at Y
    rw [U_Di_ask_29 (cm _)]
    unfold akV at Y
    by_cases cw : w = 0
    · rw [if_pos cw] at Y
      simp (disch := omega) only [U_Di_ask (cm _), SA, SB, SC1, SC2, SG, SK, SV, leI, eqI, cw, show 4 ≤ k by omega, true_or, or_true, true_implies, not_true_eq_false, not_false_eq_true, false_implies, true_and, and_true]
      exact Y
    · rw [if_neg cw] at Y
      simp (disch := omega) only [U_Di_ask (cm _), SA, SB, SC1, SC2, SG, SK, SV, leI, eqI, cw, show 4 ≤ k by omega, true_or, or_true, true_implies, not_true_eq_false, not_false_eq_true, false_implies, true_and, and_true]
      exact Y
  | m + 1, k, st, w6, e, hs, Y => by
    rw [itr_s] at Y
    have k7 := s.1.1
    have m7 := ma_le p c k
    rw [U_Di_ask_29 (cm _)]
    simp (disch := omega) only [U_Di_ask (cm _), SA, SB, SC1, SC2, SG, SK, SV, k7, leI, show ¬ 4 ≤ k by omega, true_or, or_true, true_implies, not_true_eq_false, not_false_eq_true, false_implies, true_and, and_true]
    refine x_mostAlike (d + 1) k (by omega) c s V iv _ ?_
    by_cases cl : maX p c k < st.2
    · have ea : akF (maX p c) st k = (nI k, maX p c k) := if_pos cl
      rw [ea] at Y
      have ih := x_l_ask d w hw c s V iv Q lm m (k + 1) (nI k, maX p c k) (some (.int (nI (maX p c k)))) (by omega) (by show maX p c k ≤ 9999; omega) Y
      simp (disch := omega) only [U_Di_ask (cm _), SA, SB, SC1, SC2, SG, SK, SV, leI, show ¬ st.2 ≤ maX p c k by omega, nI_add, true_or, or_true, true_implies, not_true_eq_false, not_false_eq_true, false_implies, true_and, and_true]
      exact ih
    · have ea : akF (maX p c) st k = st := if_neg cl
      rw [ea] at Y
      have ih := x_l_ask d w hw c s V iv Q lm m (k + 1) st (some (.int (nI (maX p c k)))) (by omega) hs Y
      simp (disch := omega) only [U_Di_ask (cm _), SA, SB, SC1, SC2, SG, SK, SV, leI, show st.2 ≤ maX p c k by omega, nI_add, true_or, or_true, true_implies, not_true_eq_false, not_false_eq_true, false_implies, true_and, and_true]
      exact ih
theorem m_l_ask (d w : Nat) (hw : w ≤ 1) (c : Int32) {h : MH} {p : RW} (hM : MoS h) (hp : hia h 275 = p) (iv : IV p) (Q : RT) (lm : Nat × Nat) : ∀ (m k : Nat) (st : Int32 × Nat) (w6 : Option Value), k + m = 4 → st.2 ≤ 9999 → Q (some (.int (akV (itr (akF (maX p c)) k m st) w))) h → WP cd_Mo_ask (callD (d + 4)) Q lm 36 [] [some (.ref 273), some (.int (nI w)), some (.int c), some (.int (nI st.2)), some (.int st.1), some (.int (nI k)), w6] h
  | 0, k, st, w6, e, hs, Y => by
    rw [itr_0] at Y
    rw [U_Mo_ask_36 (cm _)]
    unfold akV at Y
    by_cases cw : w = 0
    · rw [if_pos cw] at Y
      simp (disch := omega) only [U_Mo_ask (cm _), SA, SB, SC1, SC2, SG, SK, SV, leI, eqI, cw, show 4 ≤ k by omega, true_or, or_true, true_implies, not_true_eq_false, not_false_eq_true, false_implies, true_and, and_true]
      exact Y
    · rw [if_neg cw] at Y
      simp (disch := omega) only [U_Mo_ask (cm _), SA, SB, SC1, SC2, SG, SK, SV, leI, eqI, cw, show 4 ≤ k by omega, true_or, or_true, true_implies, not_true_eq_false, not_false_eq_true, false_implies, true_and, and_true]
      exact Y
  | m + 1, k, st, w6, e, hs, Y => by
    rw [itr_s] at Y
    have k8 := hM.1
    have m7 := ma_le p c k
    rw [U_Mo_ask_36 (cm _)]
    simp (disch := omega) only [U_Mo_ask (cm _), SA, SB, SC1, SC2, SG, SK, SV, k8, leI, show ¬ 4 ≤ k by omega, true_or, or_true, true_implies, not_true_eq_false, not_false_eq_true, false_implies, true_and, and_true]
    refine m_mostAlike d k (by omega) c hM hp _ ?_
    rw [← ma_eq iv]
    by_cases cl : maX p c k < st.2
    · have ea : akF (maX p c) st k = (nI k, maX p c k) := if_pos cl
      rw [ea] at Y
      have ih := m_l_ask d w hw c hM hp iv Q lm m (k + 1) (nI k, maX p c k) (some (.int (nI (maX p c k)))) (by omega) (by show maX p c k ≤ 9999; omega) Y
      simp (disch := omega) only [U_Mo_ask (cm _), SA, SB, SC1, SC2, SG, SK, SV, leI, show ¬ st.2 ≤ maX p c k by omega, nI_add, true_or, or_true, true_implies, not_true_eq_false, not_false_eq_true, false_implies, true_and, and_true]
      exact ih
    · have ea : akF (maX p c) st k = st := if_neg cl
      rw [ea] at Y
      have ih := m_l_ask d w hw c hM hp iv Q lm m (k + 1) st (some (.int (nI (maX p c k)))) (by omega) hs Y
      simp (disch := omega) only [U_Mo_ask (cm _), SA, SB, SC1, SC2, SG, SK, SV, leI, show st.2 ≤ maX p c k by omega, nI_add, true_or, or_true, true_implies, not_true_eq_false, not_false_eq_true, false_implies, true_and, and_true]
      exact ih
theorem op_ask (w : Int32) : PairOp 5 104 233 [.int w] := PairK (fun d h g => by
  obtain ⟨V, iv, ⟨w4, w5, w6, w7, w8⟩, -, ⟨ns, n1, n2, n3⟩, -⟩ := g.2.2.2.1
  have CB := fun Q => x_canBe d ns n1 g.1 V iv (w6.trans n2) (fun i hi => ⟨(n3 i hi).1, (n3 i hi).2.1, (n3 i hi).2.2.1⟩) Q
  have k7 := g.1.1.1
  have IN := fun h Q => e_in (d + 3) w.toInt64 (lN 0) (lN 1) h Q
  have qw := i2l_r w 1 (by omega)
  have TB : ∀ h2 : MH, MoS h2 → hia h2 275 = hia h 275 → ∀ Q : RT, Q (some (.int (cbV (hia h 275) ns))) h2 → callD (d + 4) 230 [.ref 273] h2 Q := fun h2 hM e Q K => m_thatCanBe d ns n1 hM e n2 (fun i hi => (n3 i hi).2.2.1) Q K
  generalize cbV (hia h 275) ns = c at *
  by_cases c0 : c = nI 0
  · refine ⟨.int (-1), fun Q K => ?_, fun h1 kp g1 Q K => ?_⟩
    · have Y := K h (KP.refl h)
      rw [E_Di_ask]
      simp (disch := omega) only [U_Di_ask (cm _), SA, SB, SC1, SC2, SG, SK, SV, k7, CB, c0, true_or, or_true, true_implies, not_true_eq_false, not_false_eq_true, false_implies, true_and, and_true]
      exact Y
    · have e1 : hia h1 275 = hia h 275 := kp.2.2.2.2.1 275 (scr_n (by omega))
      obtain ⟨hM2, ei2, -, kp2⟩ := thM g1.2.1.1
      have k8 := g1.2.1.1.1
      have Y := K _ kp2
      generalize hh : thH h1 = h2 at *
      unfold thH at hh
      have k82 := hM2.1
      rw [E_Mo_ask]
      simp (disch := omega) only [U_Mo_ask (cm _), SA, SB, SC1, SC2, SG, SK, SV, hh, k8, k82, true_or, or_true, true_implies, not_true_eq_false, not_false_eq_true, false_implies, true_and, and_true]
      refine TB h2 hM2 (by rw [ei2, e1]) _ ?_
      by_cases c1 : rgI w 1
      · rw [b01_t (show lN 0 ≤ w.toInt64 ∧ w.toInt64 ≤ lN 1 by rw [qw]; exact c1)] at IN
        simp (disch := omega) only [U_Mo_ask (cm _), SA, SB, SC1, SC2, SG, SK, SV, IN, c0, eqI, Nat.one_ne_zero, true_or, or_true, true_implies, not_true_eq_false, not_false_eq_true, false_implies, true_and, and_true]
        exact Y
      · rw [b01_f (show ¬ (lN 0 ≤ w.toInt64 ∧ w.toInt64 ≤ lN 1) by rw [qw]; exact c1)] at IN
        simp (disch := omega) only [U_Mo_ask (cm _), SA, SB, SC1, SC2, SG, SK, SV, IN, c0, eqI, Nat.one_ne_zero, true_or, or_true, true_implies, not_true_eq_false, not_false_eq_true, false_implies, true_and, and_true]
        exact Y
  · by_cases c1 : rgI w 1
    · obtain ⟨w', hw, rfl⟩ := rg_n (by omega) c1
      rw [b01_t (show lN 0 ≤ (nI w').toInt64 ∧ (nI w').toInt64 ≤ lN 1 by rw [qw]; exact c1)] at IN
      refine ⟨.int (akV (itr (akF (maX (hia h 275) c)) 0 4 (-1, 8)) w'), fun Q K => ?_, fun h1 kp g1 Q K => ?_⟩
      · have Y := K h (KP.refl h)
        rw [E_Di_ask]
        simp (disch := omega) only [U_Di_ask (cm _), SA, SB, SC1, SC2, SG, SK, SV, k7, CB, c0, ltI, leI, Nat.not_lt_zero, hw, true_or, or_true, true_implies, not_true_eq_false, not_false_eq_true, false_implies, true_and, and_true]
        exact x_l_ask d w' hw c g.1 V iv Q _ 4 0 (-1, 8) none (by omega) (by show 8 ≤ 9999; omega) Y
      · have e1 : hia h1 275 = hia h 275 := kp.2.2.2.2.1 275 (scr_n (by omega))
        obtain ⟨hM2, ei2, -, kp2⟩ := thM g1.2.1.1
        have k8 := g1.2.1.1.1
        have Y := K _ kp2
        generalize hh : thH h1 = h2 at *
        unfold thH at hh
        have k82 := hM2.1
        rw [E_Mo_ask]
        simp (disch := omega) only [U_Mo_ask (cm _), SA, SB, SC1, SC2, SG, SK, SV, hh, k8, k82, true_or, or_true, true_implies, not_true_eq_false, not_false_eq_true, false_implies, true_and, and_true]
        refine TB h2 hM2 (by rw [ei2, e1]) _ ?_
        simp (disch := omega) only [U_Mo_ask (cm _), SA, SB, SC1, SC2, SG, SK, SV, IN, c0, eqI, Nat.one_ne_zero, true_or, or_true, true_implies, not_true_eq_false, not_false_eq_true, false_implies, true_and, and_true]
        rw [ak_89 (ma_le _ _ _)] at Y
        exact m_l_ask d w' hw c hM2 (by rw [ei2, e1]) iv Q _ 4 0 (-1, 9999) none (by omega) (by show 9999 ≤ 9999; omega) Y
    · rw [b01_f (show ¬ (lN 0 ≤ w.toInt64 ∧ w.toInt64 ≤ lN 1) by rw [qw]; exact c1)] at IN
      refine ⟨.int (-1), fun Q K => ?_, fun h1 kp g1 Q K => ?_⟩
      · have Y := K h (KP.refl h)
        rw [E_Di_ask]
        rcases rg_no (by omega) c1 with z | ⟨z1, z2⟩
        · simp (disch := omega) only [U_Di_ask (cm _), SA, SB, SC1, SC2, SG, SK, SV, k7, CB, c0, z, true_or, or_true, true_implies, not_true_eq_false, not_false_eq_true, false_implies, true_and, and_true]
          exact Y
        · have z3 : ¬ w ≤ nI 1 := fun y => c1 ⟨Int32.not_lt.mp z1, y⟩
          simp (disch := omega) only [U_Di_ask (cm _), SA, SB, SC1, SC2, SG, SK, SV, k7, CB, c0, z1, z3, true_or, or_true, true_implies, not_true_eq_false, not_false_eq_true, false_implies, true_and, and_true]
          exact Y
      · have e1 : hia h1 275 = hia h 275 := kp.2.2.2.2.1 275 (scr_n (by omega))
        obtain ⟨hM2, ei2, -, kp2⟩ := thM g1.2.1.1
        have k8 := g1.2.1.1.1
        have Y := K _ kp2
        generalize hh : thH h1 = h2 at *
        unfold thH at hh
        have k82 := hM2.1
        rw [E_Mo_ask]
        simp (disch := omega) only [U_Mo_ask (cm _), SA, SB, SC1, SC2, SG, SK, SV, hh, k8, k82, true_or, or_true, true_implies, not_true_eq_false, not_false_eq_true, false_implies, true_and, and_true]
        refine TB h2 hM2 (by rw [ei2, e1]) _ ?_
        simp (disch := omega) only [U_Mo_ask (cm _), SA, SB, SC1, SC2, SG, SK, SV, IN, c0, eqI, Nat.one_ne_zero, true_or, or_true, true_implies, not_true_eq_false, not_false_eq_true, false_implies, true_and, and_true]
        exact Y)
