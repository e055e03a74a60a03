/-! ===== calls that only ask ===== -/
theorem PairK {k x m : Nat} {args : List Value} (H : ∀ (d : Nat) (h : MH), GI h → ∃ v, (∀ Q : RT, (∀ h1, KP h h1 → Q (some v) h1) → callD (d + k) x (.ref 24 :: args) h Q) ∧ ∀ h1, KP h h1 → GI h1 → ∀ Q : RT, (∀ h2, KP h1 h2 → Q (some v) h2) → callD (d + k) m (.ref 273 :: args) h1 Q) : PairOp k x m args := fun d h g => by
  obtain ⟨v, h1, h2⟩ := H d h g
  refine h1 _ (fun a ka => ⟨v, rfl, ?_⟩)
  exact h2 a ka (GI_kp ka g) _ (fun b kb => ⟨rfl, Pst_e (GI_kp (ka.trans kb) g) (ka.trans kb).E⟩)
theorem MoS.a274 {h : MH} (hM : MoS h) : hfr h 273 2 = some 274 ∧ hkd h 274 = 20 ∧ hln h 274 = 7 := hM.2.1
theorem MoS.a276 {h : MH} (hM : MoS h) : hfr h 273 4 = some 276 ∧ hkd h 276 = 20 ∧ hln h 276 = 14844 := hM.2.2.2.1
theorem MoS.a277 {h : MH} (hM : MoS h) : hfr h 273 5 = some 277 ∧ hkd h 277 = 22 ∧ hln h 277 = 2 := hM.2.2.2.2.1
theorem MoS.a279 {h : MH} (hM : MoS h) : hfr h 273 7 = some 279 ∧ hkd h 279 = 20 ∧ hln h 279 = 16 := hM.2.2.2.2.2.2.1
theorem MoS.a280 {h : MH} (hM : MoS h) : hfr h 273 9 = some 280 ∧ hkd h 280 = 20 ∧ hln h 280 = 27984 := hM.2.2.2.2.2.2.2.1
theorem MoS.a281 {h : MH} (hM : MoS h) : hfr h 273 10 = some 281 ∧ hkd h 281 = 20 ∧ hln h 281 = 16 := hM.2.2.2.2.2.2.2.2.1
theorem MoS.a291 {h : MH} (hM : MoS h) : hfr h 273 35 = some 291 ∧ hkd h 291 = 21 ∧ hln h 291 = 13 := hM.2.2.2.2.2.2.2.2.2.2.2.2.2.2.2.2.2.2.1
theorem MoS.a292 {h : MH} (hM : MoS h) : hfr h 273 36 = some 292 ∧ hkd h 292 = 21 ∧ hln h 292 = 13 := hM.2.2.2.2.2.2.2.2.2.2.2.2.2.2.2.2.2.2.2.1
theorem MoS.a294 {h : MH} (hM : MoS h) : hfr h 273 41 = some 294 ∧ hkd h 294 = 20 ∧ hln h 294 = 7 := hM.2.2.2.2.2.2.2.2.2.2.2.2.2.2.2.2.2.2.2.2.2.1
theorem MoS.a295 {h : MH} (hM : MoS h) : hfr h 273 42 = some 295 ∧ hkd h 295 = 20 ∧ hln h 295 = 7 := hM.2.2.2.2.2.2.2.2.2.2.2.2.2.2.2.2.2.2.2.2.2.2.1
theorem MoS.a296 {h : MH} (hM : MoS h) : hfr h 273 43 = some 296 ∧ hkd h 296 = 21 ∧ hln h 296 = 21 := hM.2.2.2.2.2.2.2.2.2.2.2.2.2.2.2.2.2.2.2.2.2.2.2.1
theorem MoS.a298 {h : MH} (hM : MoS h) : hfr h 273 45 = some 298 ∧ hkd h 298 = 20 ∧ hln h 298 = 120 := hM.2.2.2.2.2.2.2.2.2.2.2.2.2.2.2.2.2.2.2.2.2.2.2.2.2.1
theorem MoS.a299 {h : MH} (hM : MoS h) : hfr h 273 51 = some 299 ∧ hkd h 299 = 20 ∧ hln h 299 = 21 := hM.2.2.2.2.2.2.2.2.2.2.2.2.2.2.2.2.2.2.2.2.2.2.2.2.2.2
theorem or_0 (x : Int32) : x ||| nI 0 = x := by
  apply Int32.toBitVec_inj.mp
  show x.toBitVec ||| 0#32 = x.toBitVec
  exact BitVec.or_zero
theorem or_2 (x y : Int32) : (x ||| y) ||| y = x ||| y := by
  apply Int32.toBitVec_inj.mp
  show (x.toBitVec ||| y.toBitVec) ||| y.toBitVec = x.toBitVec ||| y.toBitVec
  rw [BitVec.or_assoc, BitVec.or_self]
/-! loops -/
def hitB (p : RW) (r : Nat) : Nat → Int32 → Bool
  | 0, _ => false
  | m + 1, x => if x = -1 then false else (decide (x = nI r) || hitB p r m (gR p (nn x) 2))
theorem hitB_s (p : RW) (r m : Nat) (x : Int32) : hitB p r (m + 1) x = (if x = -1 then false else (decide (x = nI r) || hitB p r m (gR p (nn x) 2))) := rfl
theorem hitB_n (p : RW) (r m : Nat) : hitB p r m (-1) = false := by
  cases m with
  | zero => rfl
  | succ m => rw [hitB_s, if_pos rfl]
theorem nm1 {o : Nat} (ho : o < 7) : ¬ nI o = -1 := by rw [nI_m1 (by omega)]; exact id
theorem hitB_r (p : RW) (r m : Nat) (hr : r < 7) : hitB p r (m + 1) (nI r) = true := by
  rw [hitB_s, if_neg (nm1 hr), decide_eq_true rfl, Bool.true_or]
theorem hitB_o (p : RW) (r m o : Nat) (hr : r < 7) (ho : o < 7) (e : o ≠ r) : hitB p r (m + 1) (nI o) = hitB p r m (gR p o 2) := by
  rw [hitB_s, if_neg (nm1 ho), decide_eq_false (by rw [eqI (by omega) (by omega)]; exact e), Bool.false_or, nn_n (by omega)]
/-- where one is behind so many steps -/
def ob (p : RW) : Nat → Int32 → Int32
  | 0, x => x
  | k + 1, x => if x = -1 then -1 else ob p k (gR p (nn x) 2)
theorem ob_s (p : RW) (k : Nat) (x : Int32) : ob p (k + 1) x = (if x = -1 then -1 else ob p k (gR p (nn x) 2)) := rfl
theorem ob_n (p : RW) (k : Nat) : ob p k (-1) = -1 := by
  cases k with
  | zero => rfl
  | succ k => rw [ob_s, if_pos rfl]
theorem ob_o (p : RW) (k o : Nat) (ho : o < 7) : ob p (k + 1) (nI o) = ob p k (gR p o 2) := by rw [ob_s, if_neg (nm1 ho), nn_n (by omega)]
theorem ob_SU {p : RW} (hs : ∀ s, s < 7 → SU (gR p s 2)) : ∀ (k : Nat) (x : Int32), SU x → SU (ob p k x)
  | 0, x, hx => hx
  | k + 1, x, hx => by
    rcases hx with rfl | ⟨o, ho, rfl⟩
    · rw [ob_n]; exact Or.inl rfl
    · rw [ob_o p k o ho]; exact ob_SU hs k _ (hs o ho)
theorem ob_add (p : RW) (j : Nat) : ∀ (i : Nat) (x : Int32), ob p (i + j) x = ob p j (ob p i x)
  | 0, x => by rw [Nat.zero_add]; rfl
  | i + 1, x => by
    rw [show i + 1 + j = (i + j) + 1 by omega, ob_s, ob_s]
    by_cases c : x = -1
    · rw [if_pos c, if_pos c, ob_n]
    · rw [if_neg c, if_neg c, ob_add p j i]
theorem hit_iff {p : RW} {r : Nat} (hr : r < 7) : ∀ (m : Nat) (x : Int32), hitB p r m x = true ↔ ∃ k, k < m ∧ ob p k x = nI r
  | 0, x => ⟨fun z => absurd z Bool.false_ne_true, fun ⟨k, hk, _⟩ => absurd hk (Nat.not_lt_zero k)⟩
  | m + 1, x => by
    rw [hitB_s]
    by_cases c : x = -1
    · rw [if_pos c]
      refine ⟨fun z => absurd z (by decide), fun ⟨k, _, e⟩ => ?_⟩
      rw [c, ob_n] at e
      exact absurd e.symm (nm1 hr)
    · rw [if_neg c, Bool.or_eq_true, decide_eq_true_iff, hit_iff hr m]
      constructor
      · rintro (e | ⟨k, hk, e⟩)
        · exact ⟨0, by omega, e⟩
        · exact ⟨k + 1, by omega, by rw [ob_s, if_neg c]; exact e⟩
      · rintro ⟨k, hk, e⟩
        cases k with
        | zero => exact Or.inl e
        | succ k => exact Or.inr ⟨k, by omega, by rw [ob_s, if_neg c] at e; exact e⟩
theorem pig : ∀ (n : Nat) (g : Nat → Nat), (∀ i, i ≤ n → g i < n) → ∃ i j, i < j ∧ j ≤ n ∧ g i = g j
  | 0, g, h => absurd (h 0 (Nat.le_refl 0)) (Nat.not_lt_zero _)
  | n + 1, g, h => by
    by_cases c : ∃ i, i ≤ n ∧ g i = g (n + 1)
    · obtain ⟨i, hi, e⟩ := c
      exact ⟨i, n + 1, by omega, by omega, e⟩
    · have c' : ∀ i, i ≤ n → g i ≠ g (n + 1) := fun i hi e => c ⟨i, hi, e⟩
      have hl := h (n + 1) (Nat.le_refl _)
      obtain ⟨i, j, ij, jn, e⟩ := pig n (fun i => if g i = n then g (n + 1) else g i) (fun i hi => by
        have h1 := h i (by omega)
        have h2 := c' i hi
        show (if g i = n then g (n + 1) else g i) < n
        split <;> omega)
      have h1 := c' i (by omega)
      have h2 := c' j jn
      have e' : (if g i = n then g (n + 1) else g i) = (if g j = n then g (n + 1) else g j) := e
      refine ⟨i, j, ij, by omega, ?_⟩
      by_cases a : g i = n
      · by_cases b : g j = n
        · rw [a, b]
        · rw [if_pos a, if_neg b] at e'
          exact absurd e'.symm h2
      · by_cases b : g j = n
        · rw [if_neg a, if_pos b] at e'
          exact absurd e' h1
        · rw [if_neg a, if_neg b] at e'
          exact e'
theorem hit_87 {p : RW} {r : Nat} (hr : r < 7) (hs : ∀ s, s < 7 → SU (gR p s 2)) : hitB p r 8 (gR p r 2) = hitB p r 7 (gR p r 2) := by
  rw [Bool.eq_iff_iff, hit_iff hr, hit_iff hr]
  constructor
  · rintro ⟨k, hk, e⟩
    by_cases c : k < 7
    · exact ⟨k, c, e⟩
    · obtain rfl : k = 7 := by omega
      rw [← ob_o p 7 r hr] at e
      have F : ∀ i, i ≤ 8 → ∃ o, o < 7 ∧ ob p i (nI r) = nI o := fun i hi => by
        refine (ob_SU hs i (nI r) (Or.inr ⟨r, hr, rfl⟩)).resolve_left (fun z => ?_)
        have y := ob_add p (8 - i) i (nI r)
        rw [show i + (8 - i) = 7 + 1 by omega, e, z, ob_n] at y
        exact nm1 hr y
      obtain ⟨i, j, ij, j7, e2⟩ := pig 7 (fun i => nn (ob p i (nI r))) (fun i hi => by
        obtain ⟨o, ho, eo⟩ := F i (by omega)
        show nn (ob p i (nI r)) < 7
        rw [eo, nn_n (by omega)]; exact ho)
      obtain ⟨a, ha, ea⟩ := F i (by omega)
      obtain ⟨b, hb, eb⟩ := F j (by omega)
      have e3 : nn (ob p i (nI r)) = nn (ob p j (nI r)) := e2
      rw [ea, eb, nn_n (by omega), nn_n (by omega)] at e3
      have y1 := ob_add p (8 - j) i (nI r)
      have y2 := ob_add p (8 - j) j (nI r)
      rw [ea, e3, ← eb, ← y2, show j + (8 - j) = 7 + 1 by omega, e] at y1
      refine ⟨i + 7 - j, by omega, ?_⟩
      rw [← ob_o p _ r hr, show i + 7 - j + 1 = i + (8 - j) by omega]
      exact y1
  · rintro ⟨k, hk, e⟩
    exact ⟨k, by omega, e⟩
theorem x_cti0 (d r k m : Nat) (hr : r < 7) {h : MH} {p : RW} (Q : RT) (lm : Nat × Nat) (hk : k ≤ 7) (x : Int32) (hx : x = -1 ∨ x = nI r) : WP cd_Di_comesToItself (callD d) Q lm 15 [] [some (.ref 24), some (.int (nI r)), some (.int x), some (.int (nI k))] h = Q (some (.int (b01 (hitB p r (m + 1) x = true)))) h := by
  rw [U_Di_comesToItself_15 (cm _)]
  rcases hx with rfl | rfl
  · have z : ((-1 : Int32) = nI r) = False := m1_nI (by omega)
    rw [hitB_n, b01_f (by decide)]
    by_cases c : 7 ≤ k
    · simp (disch := omega) only [U_Di_comesToItself (cm _), SA, SB, SC1, SC2, SG, SK, SV, leI, c, z, true_or, or_true, true_implies, not_true_eq_false, not_false_eq_true, false_implies, true_and, and_true]
    · simp (disch := omega) only [U_Di_comesToItself (cm _), SA, SB, SC1, SC2, SG, SK, SV, leI, c, z, true_or, or_true, true_implies, not_true_eq_false, not_false_eq_true, false_implies, true_and, and_true]
  · have z := nI_m1 (n := r) (by omega)
    rw [hitB_r p r m hr, b01_t rfl]
    by_cases c : 7 ≤ k
    · simp (disch := omega) only [U_Di_comesToItself (cm _), SA, SB, SC1, SC2, SG, SK, SV, leI, c, z, true_or, or_true, true_implies, not_true_eq_false, not_false_eq_true, false_implies, true_and, and_true]
    · simp (disch := omega) only [U_Di_comesToItself (cm _), SA, SB, SC1, SC2, SG, SK, SV, leI, c, z, true_or, or_true, true_implies, not_true_eq_false, not_false_eq_true, false_implies, true_and, and_true]
theorem x_l_cti (d r : Nat) (hr : r < 7) {h : MH} {p : RW} (s : XS h) (V : NeV h 26 p) (hs : ∀ s, s < 7 → SU (gR p s 2)) (Q : RT) (lm : Nat × Nat) : ∀ (m k : Nat) (x : Int32), k + m = 7 → SU x → WP cd_Di_comesToItself (callD d) Q lm 15 [] [some (.ref 24), some (.int (nI r)), some (.int x), some (.int (nI k))] h = Q (some (.int (b01 (hitB p r (m + 1) x = true)))) h
  | 0, k, x, e, hx => by
    by_cases c0 : x = -1 ∨ x = nI r
    · exact x_cti0 d r k 0 hr Q lm (by omega) x c0
    · obtain ⟨o, ho, rfl⟩ := hx.resolve_left (fun z => c0 (Or.inl z))
      have c : ¬ o = r := fun z => c0 (Or.inr (by rw [z]))
      rw [U_Di_comesToItself_15 (cm _), hitB_o p r 0 o hr ho c, show hitB p r 0 (gR p o 2) = false from rfl, b01_f (by decide)]
      simp (disch := omega) only [U_Di_comesToItself (cm _), SA, SB, SC1, SC2, SG, SK, SV, leI, eqI, c, show 7 ≤ k by omega, true_or, or_true, true_implies, not_true_eq_false, not_false_eq_true, false_implies, true_and, and_true]
  | m + 1, k, x, e, hx => by
    by_cases c0 : x = -1 ∨ x = nI r
    · exact x_cti0 d r k (m + 1) hr Q lm (by omega) x c0
    · obtain ⟨o, ho, rfl⟩ := hx.resolve_left (fun z => c0 (Or.inl z))
      have c : ¬ o = r := fun z => c0 (Or.inr (by rw [z]))
      have ih := x_l_cti d r hr s V hs Q lm m (k + 1) (gR p o 2) (by omega) (hs o ho)
      have so := (s).1
      unfold XSo at so
      have sw := WoS_25 (s)
      unfold WoS at sw
      simp only [Nat.reduceAdd] at sw
      obtain ⟨sh, -⟩ := (s.2.2.2.2.2.1.1).all
      simp only [Nat.reduceAdd] at sh
      have a6 := V.2.2.2.2.2.1 o ho
      simp only [Nat.reduceAdd] at a6
      have z := nI_m1 (n := o) (by omega)
      rw [U_Di_comesToItself_15 (cm _), hitB_o p r (m + 1) o hr ho c, ← ih]
      simp (disch := omega) only [U_Di_comesToItself (cm _), SA, SB, SC1, SC2, SG, SK, SV, so, sw, sh, a6, z, leI, eqI, c, show ¬ 7 ≤ k by omega, nI_add, nI_clamp, in_eq, Nat.reduceLeDiff, true_or, or_true, true_implies, not_true_eq_false, not_false_eq_true, false_implies, true_and, and_true]
theorem x_cti (d r : Nat) (hr : r < 7) {h : MH} {p : RW} (s : XS h) (V : NeV h 26 p) (hs : ∀ s, s < 7 → SU (gR p s 2)) (Q : RT) : callD (d + 1) 123 [.ref 24, .int (nI r)] h Q = Q (some (.int (b01 (hitB p r 7 (gR p r 2) = true)))) h := by
  have L := fun lm => x_l_cti d r hr s V hs Q lm 7 0 (gR p r 2) (by omega) (hs r hr)
  rw [hit_87 hr hs] at L
  have so := (s).1
  unfold XSo at so
  have sw := WoS_25 (s)
  unfold WoS at sw
  simp only [Nat.reduceAdd] at sw
  obtain ⟨sh, -⟩ := (s.2.2.2.2.2.1.1).all
  simp only [Nat.reduceAdd] at sh
  have a6 := V.2.2.2.2.2.1 r hr
  simp only [Nat.reduceAdd] at a6
  rw [E_Di_comesToItself]
  simp (disch := omega) only [U_Di_comesToItself (cm _), SA, SB, SC1, SC2, SG, SK, SV, so, sw, sh, a6, L, nI_clamp, in_eq, Nat.reduceLeDiff, true_or, or_true, true_implies, not_true_eq_false, not_false_eq_true, false_implies, true_and, and_true]
def lpF (p : RW) (s : Int32) (r : Nat) : Int32 := if hitB p r 7 (gR p r 2) = true then s ||| sh1 r else s
theorem x_l_loops (d : Nat) {h : MH} {p : RW} (s : XS h) (V : NeV h 26 p) (hs : ∀ s, s < 7 → SU (gR p s 2)) (Q : RT) (lm : Nat × Nat) : ∀ (m k : Nat) (x : Int32), k + m = 7 → WP cd_Di_loops (callD (d + 1)) Q lm 4 [] [some (.ref 24), some (.int x), some (.int (nI k))] h = Q (some (.int (itr (lpF p) k m x))) h
  | 0, k, x, e => by
    rw [U_Di_loops_4 (cm _), itr_0]
    simp (disch := omega) only [U_Di_loops (cm _), SA, SB, SC1, SC2, SG, SK, SV, leI, show 7 ≤ k by omega, true_or, or_true, true_implies, not_true_eq_false, not_false_eq_true, false_implies, true_and, and_true]
  | m + 1, k, x, e => by
    have ih := x_l_loops d s V hs Q lm m (k + 1) (lpF p x k) (by omega)
    have k7 := s.1.1
    have C := fun Q => x_cti d k (by omega) s V hs Q
    rw [U_Di_loops_4 (cm _), itr_s, ← ih]
    unfold lpF
    by_cases c : hitB p k 7 (gR p k 2) = true
    · rw [b01_t c] at C
      rw [if_pos c]
      simp (disch := omega) only [U_Di_loops (cm _), SA, SB, SC1, SC2, SG, SK, SV, k7, C, leI, eqI, Nat.one_ne_zero, show ¬ 7 ≤ k by omega, nI_add, sh1, true_or, or_true, true_implies, not_true_eq_false, not_false_eq_true, false_implies, true_and, and_true]
    · rw [b01_f c] at C
      rw [if_neg c]
      simp (disch := omega) only [U_Di_loops (cm _), SA, SB, SC1, SC2, SG, SK, SV, k7, C, leI, eqI, Nat.one_ne_zero, show ¬ 7 ≤ k by omega, nI_add, true_or, or_true, true_implies, not_true_eq_false, not_false_eq_true, false_implies, true_and, and_true]
theorem m_l_lp (d r : Nat) (hr : r < 7) {h : MH} {p : RW} (hM : MoS h) (hp : hia h 275 = p) (hs : ∀ s, s < 7 → SU (gR p s 2)) (Q : RT) (lm : Nat × Nat) : ∀ (m k : Nat) (x st : Int32), k + m = 7 → SU x → (∀ w3 w4, WP cd_Mo_loops (callD (d + 2)) Q lm 9 [] [some (.ref 273), some (.int (if hitB p r m x = true then st ||| sh1 r else st)), some (.int (nI (r + 1))), w3, w4] h) → WP cd_Mo_loops (callD (d + 2)) Q lm 24 [] [some (.ref 273), some (.int st), some (.int (nI r)), some (.int x), some (.int (nI k))] h
  | 0, k, x, st, e, hx, K => by
    rw [show hitB p r 0 x = false from rfl, if_neg (by decide)] at K
    have Y := K (some (.int x)) (some (.int (nI k)))
    rw [U_Mo_loops_24 (cm _)]
    simp (disch := omega) only [U_Mo_loops (cm _), SA, SB, SC1, SC2, SG, SK, SV, leI, show 7 ≤ k by omega, nI_add, true_or, or_true, true_implies, not_true_eq_false, not_false_eq_true, false_implies, true_and, and_true]
    exact Y
  | m + 1, k, x, st, e, hx, K => by
    rcases hx with rfl | ⟨o, ho, rfl⟩
    · rw [hitB_n, if_neg (by decide)] at K
      have Y := K (some (.int (-1))) (some (.int (nI k)))
      rw [U_Mo_loops_24 (cm _)]
      simp (disch := omega) only [U_Mo_loops (cm _), SA, SB, SC1, SC2, SG, SK, SV, leI, show ¬ 7 ≤ k by omega, nI_add, true_or, or_true, true_implies, not_true_eq_false, not_false_eq_true, false_implies, true_and, and_true]
      exact Y
    · have k8 := hM.1
      have z := nI_m1 (n := o) (by omega)
      have B := fun Q => m_behind d o ho hM Q
      rw [hp] at B
      by_cases c : o = r
      · subst c
        rw [hitB_r p o m hr, if_pos rfl] at K
        have ih := m_l_lp d o hr hM hp hs Q lm m (k + 1) (gR p o 2) (st ||| sh1 o) (by omega) (hs o ho) (fun w3 w4 => by
          have Y := K w3 w4
          rw [or_2, ite_self]; exact Y)
        unfold sh1 at ih
        rw [U_Mo_loops_24 (cm _)]
        simp (disch := omega) only [U_Mo_loops (cm _), SA, SB, SC1, SC2, SG, SK, SV, k8, B, z, leI, show ¬ 7 ≤ k by omega, nI_add, true_or, or_true, true_implies, not_true_eq_false, not_false_eq_true, false_implies, true_and, and_true]
        exact ih
      · rw [hitB_o p r m o hr ho c] at K
        have ih := m_l_lp d r hr hM hp hs Q lm m (k + 1) (gR p o 2) st (by omega) (hs o ho) K
        rw [U_Mo_loops_24 (cm _)]
        simp (disch := omega) only [U_Mo_loops (cm _), SA, SB, SC1, SC2, SG, SK, SV, k8, B, z, leI, eqI, c, show ¬ 7 ≤ k by omega, nI_add, or_0, true_or, or_true, true_implies, not_true_eq_false, not_false_eq_true, false_implies, true_and, and_true]
        exact ih
theorem m_l_loops (d : Nat) {h : MH} {p : RW} (hM : MoS h) (hp : hia h 275 = p) (hs : ∀ s, s < 7 → SU (gR p s 2)) (Q : RT) (lm : Nat × Nat) : ∀ (m k : Nat) (x : Int32) (w3 w4 : Option Value), k + m = 7 → Q (some (.int (itr (lpF p) k m x))) h → WP cd_Mo_loops (callD (d + 2)) Q lm 9 [] [some (.ref 273), some (.int x), some (.int (nI k)), w3, w4] h
  | 0, k, x, w3, w4, e, Y => by
    rw [itr_0] at Y
    rw [U_Mo_loops_9 (cm _)]
    simp (disch := omega) only [U_Mo_loops (cm _), SA, SB, SC1, SC2, SG, SK, SV, leI, show 7 ≤ k by omega, true_or, or_true, true_implies, not_true_eq_false, not_false_eq_true, false_implies, true_and, and_true]
    exact Y
  | m + 1, k, x, w3, w4, e, Y => by
    rw [itr_s] at Y
    have k8 := hM.1
    have B := fun Q => m_behind d k (by omega) hM Q
    rw [hp] at B
    rw [U_Mo_loops_9 (cm _)]
    simp (disch := omega) only [U_Mo_loops (cm _), SA, SB, SC1, SC2, SG, SK, SV, k8, B, leI, show ¬ 7 ≤ k by omega, true_or, or_true, true_implies, not_true_eq_false, not_false_eq_true, false_implies, true_and, and_true]
    refine m_l_lp d k (by omega) hM hp hs Q lm 7 0 (gR p k 2) x (by omega) (hs k (by omega)) (fun w3 w4 => ?_)
    exact m_l_loops d hM hp hs Q lm m (k + 1) (lpF p x k) w3 w4 (by omega) Y
theorem op_loops : PairOp 3 97 221 [] := PairK (fun d h g => by
  obtain ⟨V, iv, -⟩ := g.2.2.2.1
  have hs : ∀ s, s < 7 → SU (gR (hia h 275) s 2) := fun s h7 => (iv.1.1.2.2 s h7).2.1
  refine ⟨.int (itr (lpF (hia h 275)) 0 7 (nI 0)), fun Q K => ?_, fun h1 kp g1 Q K => ?_⟩
  · have L := fun lm => x_l_loops (d + 1) g.1 V hs Q lm 7 0 (nI 0) (by omega)
    rw [E_Di_loops]
    simp only [U_Di_loops (cm _), SA, SB, SG, SV, L]
    exact K h (KP.refl h)
  · have e1 : hia h1 275 = hia h 275 := kp.2.2.2.2.1 275 (scr_n (by omega))
    obtain ⟨hM2, ei2, -, kp2⟩ := thM g1.2.1.1
    have k8 := g1.2.1.1.1
    have Y := K _ kp2
    generalize hh : thH h1 = h2 at *
    unfold thH at hh
    rw [E_Mo_loops]
    simp (disch := omega) only [U_Mo_loops (cm _), SA, SB, SC1, SC2, SG, SK, SV, hh, k8, true_or, or_true, true_implies, not_true_eq_false, not_false_eq_true, false_implies, true_and, and_true]
    exact m_l_loops d hM2 (by rw [ei2, e1]) hs Q _ 7 0 (nI 0) none none (by omega) Y)
