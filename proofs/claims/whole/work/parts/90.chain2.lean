/-! ===== what a reading keeps ===== -/
def okK (T : TP) (lev k : Nat) (r : PRs) : Prop := ∀ v q' k', r = .ok (v, q', k') → (k ≤ 50 → k' ≤ 50) ∧ (lev ≤ 1 → TestV v)
section Pk
variable {T : TP} {om : Nat} {P : Nat → Nat → Nat → Nat → PRs}
theorem kBr (hP : ∀ lev op q k, okK T lev k (P lev op q k)) (lev cls op q k : Nat) : okK T lev k (pBr T P lev cls op q k) := fun v q' k' h => by
  unfold pBr at h
  split at h
  · cases h
  · cases hp : P lev (op + 1) (tBe T q) k with
    | error f => rw [hp] at h; cases h
    | ok w =>
      obtain ⟨v2, q2, k2⟩ := w
      rw [hp] at h
      simp only at h
      split at h
      · cases h; exact hP _ _ _ _ _ _ _ hp
      · cases h
theorem kCm (hP : ∀ lev op q k, okK T lev k (P lev op q k)) (op q k : Nat) : okK T 0 k (pCm T P op q k) := fun v q' k' h => by
  unfold pCm at h
  cases hp : P 2 op q k with
  | error f => rw [hp] at h; cases h
  | ok w =>
    obtain ⟨v2, q2, k2⟩ := w
    rw [hp] at h
    simp only at h
    split at h
    · cases h
    · next z =>
      cases hp2 : P 2 op (tBe T q2) k2 with
      | error f => rw [hp2] at h; cases h
      | ok w =>
        obtain ⟨v3, q3, k3⟩ := w
        rw [hp2] at h
        cases h
        have a := (hP _ _ _ _ _ _ _ hp).1
        have b := (hP _ _ _ _ _ _ _ hp2).1
        exact ⟨fun z => b (a z), fun _ => test_cmp (x_cmpAt z).1 _ _⟩
theorem kPl (hP : ∀ lev op q k, okK T lev k (P lev op q k)) (op q k : Nat) : okK T 0 k (pPl T P op q k) := fun v q' k' h => by
  unfold pPl at h
  have key : okK T 0 k (if bG T (nts T 400 q).2 40 = true then pBr T P 0 41 op (nts T 400 q).2 k else pCm T P op (nts T 400 q).2 k) := by
    split
    · exact kBr hP 0 41 op _ k
    · exact kCm hP op _ k
  generalize (if bG T (nts T 400 q).2 40 = true then pBr T P 0 41 op (nts T 400 q).2 k else pCm T P op (nts T 400 q).2 k) = r at h key
  cases r with
  | error f => cases h
  | ok w =>
    obtain ⟨v2, q2, k2⟩ := w
    simp only at h
    cases h
    obtain ⟨a, b⟩ := key _ _ _ rfl
    refine ⟨a, fun z => ?_⟩
    split
    · exact test_not (b z)
    · exact b z
theorem kPa (hP : ∀ lev op q k, okK T lev k (P lev op q k)) (op q k : Nat) : okK T 3 k (pPa T om P op q k) := fun v q' k' h => by
  unfold pPa at h
  split at h
  · exact ⟨(kBr hP 2 93 op q k _ _ _ h).1, fun z => by omega⟩
  · split at h
    · split at h
      · cases h
      · cases h; exact ⟨fun _ => by omega, fun z => by omega⟩
    · split at h
      · cases h
      · next z =>
        split at h
        · split at h
          · cases h; exact ⟨fun _ => by omega, fun z => by omega⟩
          · cases h
        · cases h; exact ⟨fun _ => by omega, fun z => by omega⟩
theorem kRd (hP : ∀ lev op q k, okK T lev k (P lev op q k)) (lev op q k : Nat) : okK T lev k (pRd T om P lev op q k) := fun v q' k' h => by
  unfold pRd at h
  split at h
  · have := hP _ _ _ _ _ _ _ h; exact ⟨this.1, fun _ => this.2 (by omega)⟩
  · split at h
    · have := kPl hP _ _ _ _ _ _ h; exact ⟨this.1, fun _ => this.2 (by omega)⟩
    · split at h
      · have := hP _ _ _ _ _ _ _ h; exact ⟨this.1, fun z => by omega⟩
      · have := kPa hP _ _ _ _ _ _ h; exact ⟨this.1, fun z => by omega⟩
theorem jnt_lev {lev q : Nat} (h : jnt T lev q ≠ 0) : (lev = 0 → jnt T lev q = 4) ∧ (lev = 1 → jnt T lev q = 5) ∧ (lev = 2 → jnt T lev q = 6 ∨ jnt T lev q = 7) ∧ (3 ≤ lev → jnt T lev q = 8 ∨ jnt T lev q = 9 ∨ jnt T lev q = 10) ∧ tTy T q ≠ 0 := by
  unfold jnt at h ⊢
  by_cases l0 : lev = 0
  · rw [if_pos l0] at h ⊢
    by_cases c : bW T q 18 = true
    · rw [if_pos c]; exact ⟨fun _ => rfl, fun _ => by omega, fun _ => by omega, fun _ => by omega, bW_ty c⟩
    · rw [if_neg c] at h; exact absurd rfl h
  rw [if_neg l0] at h ⊢
  by_cases l1 : lev = 1
  · rw [if_pos l1] at h ⊢
    by_cases c : bW T q 19 = true
    · rw [if_pos c]; exact ⟨fun _ => by omega, fun _ => rfl, fun _ => by omega, fun _ => by omega, bW_ty c⟩
    · rw [if_neg c] at h; exact absurd rfl h
  rw [if_neg l1] at h ⊢
  by_cases l2 : lev = 2
  · rw [if_pos l2] at h ⊢
    by_cases c : bG T q 43 = true
    · rw [if_pos c]; exact ⟨fun _ => by omega, fun _ => by omega, fun _ => Or.inl rfl, fun _ => by omega, bG_ty c⟩
    rw [if_neg c] at h ⊢
    by_cases c : bG T q 45 = true
    · rw [if_pos c]; exact ⟨fun _ => by omega, fun _ => by omega, fun _ => Or.inr rfl, fun _ => by omega, bG_ty c⟩
    · rw [if_neg c] at h; exact absurd rfl h
  rw [if_neg l2] at h ⊢
  by_cases c : bG T q 42 = true
  · rw [if_pos c]; exact ⟨fun _ => by omega, fun _ => by omega, fun _ => by omega, fun _ => Or.inl rfl, bG_ty c⟩
  rw [if_neg c] at h ⊢
  by_cases c : bG T q 47 = true
  · rw [if_pos c]; exact ⟨fun _ => by omega, fun _ => by omega, fun _ => by omega, fun _ => Or.inr (Or.inl rfl), bG_ty c⟩
  rw [if_neg c] at h ⊢
  by_cases c : bG T q 37 = true
  · rw [if_pos c]; exact ⟨fun _ => by omega, fun _ => by omega, fun _ => by omega, fun _ => Or.inr (Or.inr rfl), bG_ty c⟩
  · rw [if_neg c] at h; exact absurd rfl h
theorem kLoop (hP : ∀ lev op q k, okK T lev k (P lev op q k)) (lev op k0 : Nat) : ∀ (m : Nat) (v : VAL) (q k : Nat), (k0 ≤ 50 → k ≤ 50) → (lev ≤ 1 → TestV v) → okK T lev k0 (pLoop T om P lev op m v q k)
  | 0, v, q, k, _, _ => fun v' q' k' h => by cases h
  | m + 1, v, q, k, hk, hv => fun v' q' k' h => by
    unfold pLoop at h
    split at h
    · cases h; exact ⟨hk, hv⟩
    · next z =>
      cases hp : pRd T om P lev op (tBe T q) k with
      | error f => rw [hp] at h; cases h
      | ok w =>
        obtain ⟨v2, q2, k2⟩ := w
        rw [hp] at h
        simp only at h
        have a := kRd hP lev op _ k _ _ _ hp
        refine kLoop hP lev op k0 m _ _ _ (fun z => a.1 (hk z)) (fun z1 => ?_) _ _ _ h
        have j := jnt_lev z
        unfold cmb
        rw [if_pos (by
          rcases (show lev = 0 ∨ lev = 1 by omega) with l | l
          · rw [j.1 l]; omega
          · rw [j.2.1 l]; omega)]
        exact test_jn (a.2 z1)
end Pk
theorem kCh (T : TP) (om : Nat) : ∀ n lev op q k, okK T lev k (pCh T om n lev op q k)
  | 0, _, _, _, _ => fun v q' k' h => by cases h
  | n + 1, lev, op, q, k => fun v q' k' h => by
    have hP := kCh T om n
    unfold pCh at h
    cases hp : pRd T om (pCh T om n) lev op q k with
    | error f => rw [hp] at h; cases h
    | ok w =>
      obtain ⟨v2, q2, k2⟩ := w
      rw [hp] at h
      simp only at h
      have a := kRd hP lev op q k _ _ _ hp
      exact kLoop hP lev op k 401 v2 q2 k2 a.1 a.2 _ _ _ h
theorem TLev_all (T : TP) (om n : Nat) : TLev T om n := fun lev op q k v q' k' hl h => (kCh T om n lev op q k v q' k' h).2 hl
theorem XOK_m {h : MH} {T : TP} {om q cl D : Nat} {r : PRs} {Q Q' : RT} (hQ : ∀ v h', Q v h' → Q' v h') (x : XOK h T om q cl D r Q) : XOK h T om q cl D r Q' := by
  cases r with
  | error f => exact fun h' e => hQ _ _ (x h' e)
  | ok w =>
    obtain ⟨v, q', k'⟩ := w
    exact fun h' cl' a b c d e f g => hQ _ _ (x h' cl' a b c d e f g)
def dR (lev op : Nat) : Nat := (if lev ≤ 1 then 4 else if lev = 2 then 2 else 1) + 2 * (8 - op)
set_option maxRecDepth 20000 in
theorem UC_Re_readsChain_92 {G : GT} (hG : Gmono G) (R : RT) (lm : Nat × Nat) : WP cd_Re_readsChain G R lm 0 = stp G R lm (7, 1, 0, 0, (-1), 0, []) (WP cd_Re_readsChain G R lm) ∧ WP cd_Re_readsChain G R lm 1 = stp G R lm (4, 2, 3, 0, 0, 0, []) (WP cd_Re_readsChain G R lm) ∧ WP cd_Re_readsChain G R lm 2 = stp G R lm (7, 3, 0, 0, nI 0, 0, []) (WP cd_Re_readsChain G R lm) ∧ WP cd_Re_readsChain G R lm 3 = stp G R lm (4, 5, 4, 0, 0, 0, []) (WP cd_Re_readsChain G R lm) ∧ WP cd_Re_readsChain G R lm 7 = stp G R lm (7, 10, 0, 0, nI 400, 0, []) (WP cd_Re_readsChain G R lm) ∧ WP cd_Re_readsChain G R lm 10 = stp G R lm (45, 13, 170, 0, 0, 0, []) (WP cd_Re_readsChain G R lm) ∧ WP cd_Re_readsChain G R lm 13 = stp G R lm (1, 14, 3, 0, 0, 0, []) (WP cd_Re_readsChain G R lm) ∧ WP cd_Re_readsChain G R lm 14 = stp G R lm (7, 15, 0, 0, nI 4, 0, []) (WP cd_Re_readsChain G R lm) ∧ WP cd_Re_readsChain G R lm 15 = stp G R lm (41, 18, 23, 0, 0, 0, []) (WP cd_Re_readsChain G R lm) ∧ WP cd_Re_readsChain G R lm 18 = stp G R lm (1, 19, 3, 0, 0, 0, []) (WP cd_Re_readsChain G R lm) ∧ WP cd_Re_readsChain G R lm 19 = stp G R lm (7, 20, 0, 0, nI 5, 0, []) (WP cd_Re_readsChain G R lm) ∧ WP cd_Re_readsChain G R lm 20 = stp G R lm (42, 23, 27, 0, 0, 0, []) (WP cd_Re_readsChain G R lm) ∧ WP cd_Re_readsChain G R lm 23 = stp G R lm (7, 24, 0, 0, nI 1, 0, []) (WP cd_Re_readsChain G R lm) ∧ WP cd_Re_readsChain G R lm 24 = stp G R lm (40, 28, 0, 0, 0, 0, []) (WP cd_Re_readsChain G R lm) ∧ WP cd_Re_readsChain G R lm 27 = stp G R lm (7, 28, 0, 0, nI 0, 0, []) (WP cd_Re_readsChain G R lm) ∧ WP cd_Re_readsChain G R lm 28 = stp G R lm (4, 30, 5, 0, 0, 0, []) (WP cd_Re_readsChain G R lm) ∧ WP cd_Re_readsChain G R lm 30 = stp G R lm (2, 31, 0, 0, 0, 0, []) (WP cd_Re_readsChain G R lm) ∧ WP cd_Re_readsChain G R lm 31 = stp G R lm (56, 34, 4, 3, 0, 0, []) (WP cd_Re_readsChain G R lm) ∧ WP cd_Re_readsChain G R lm 34 = stp G R lm (4, 36, 6, 0, 0, 0, []) (WP cd_Re_readsChain G R lm) ∧ WP cd_Re_readsChain G R lm 36 = stp G R lm (1, 38, 5, 0, 0, 0, []) (WP cd_Re_readsChain G R lm) ∧ WP cd_Re_readsChain G R lm 38 = stp G R lm (47, 41, 47, 0, 0, 0, []) (WP cd_Re_readsChain G R lm) ∧ WP cd_Re_readsChain G R lm 41 = stp G R lm (2, 42, 0, 0, 0, 0, []) (WP cd_Re_readsChain G R lm) ∧ WP cd_Re_readsChain G R lm 42 = stp G R lm (1, 43, 3, 0, 0, 0, []) (WP cd_Re_readsChain G R lm) ∧ WP cd_Re_readsChain G R lm 43 = stp G R lm (7, 44, 0, 0, nI 0, 0, []) (WP cd_Re_readsChain G R lm) ∧ WP cd_Re_readsChain G R lm 44 = stp G R lm (86, 47, 50, 2, 0, 0, [4]) (WP cd_Re_readsChain G R lm) ∧ WP cd_Re_readsChain G R lm 47 = stp G R lm (1, 48, 1, 0, 0, 0, []) (WP cd_Re_readsChain G R lm) ∧ WP cd_Re_readsChain G R lm 48 = stp G R lm (48, 51, 60, 0, 0, 0, []) (WP cd_Re_readsChain G R lm) ∧ WP cd_Re_readsChain G R lm 51 = stp G R lm (2, 52, 0, 0, 0, 0, []) (WP cd_Re_readsChain G R lm) ∧ WP cd_Re_readsChain G R lm 52 = stp G R lm (7, 53, 0, 0, nI 1, 0, []) (WP cd_Re_readsChain G R lm) ∧ WP cd_Re_readsChain G R lm 53 = stp G R lm (1, 54, 2, 0, 0, 0, []) (WP cd_Re_readsChain G R lm) ∧ WP cd_Re_readsChain G R lm 54 = stp G R lm (86, 57, 56, 2, 0, 0, [4]) (WP cd_Re_readsChain G R lm) ∧ WP cd_Re_readsChain G R lm 57 = stp G R lm (40, 92, 0, 0, 0, 0, []) (WP cd_Re_readsChain G R lm) ∧ WP cd_Re_readsChain G R lm 60 = stp G R lm (1, 61, 1, 0, 0, 0, []) (WP cd_Re_readsChain G R lm) ∧ WP cd_Re_readsChain G R lm 61 = stp G R lm (7, 62, 0, 0, nI 2, 0, []) (WP cd_Re_readsChain G R lm) ∧ WP cd_Re_readsChain G R lm 62 = stp G R lm (42, 65, 74, 0, 0, 0, []) (WP cd_Re_readsChain G R lm) ∧ WP cd_Re_readsChain G R lm 65 = stp G R lm (2, 66, 0, 0, 0, 0, []) (WP cd_Re_readsChain G R lm) ∧ WP cd_Re_readsChain G R lm 66 = stp G R lm (7, 67, 0, 0, nI 3, 0, []) (WP cd_Re_readsChain G R lm) ∧ WP cd_Re_readsChain G R lm 67 = stp G R lm (1, 68, 2, 0, 0, 0, []) (WP cd_Re_readsChain G R lm) ∧ WP cd_Re_readsChain G R lm 68 = stp G R lm (86, 71, 56, 2, 0, 0, [4]) (WP cd_Re_readsChain G R lm) ∧ WP cd_Re_readsChain G R lm 71 = stp G R lm (40, 92, 0, 0, 0, 0, []) (WP cd_Re_readsChain G R lm) ∧ WP cd_Re_readsChain G R lm 74 = stp G R lm (1, 75, 1, 0, 0, 0, []) (WP cd_Re_readsChain G R lm) ∧ WP cd_Re_readsChain G R lm 75 = stp G R lm (7, 76, 0, 0, nI 1, 0, []) (WP cd_Re_readsChain G R lm) ∧ WP cd_Re_readsChain G R lm 76 = stp G R lm (42, 79, 87, 0, 0, 0, []) (WP cd_Re_readsChain G R lm) ∧ WP cd_Re_readsChain G R lm 79 = stp G R lm (2, 80, 0, 0, 0, 0, []) (WP cd_Re_readsChain G R lm) ∧ WP cd_Re_readsChain G R lm 80 = stp G R lm (1, 81, 2, 0, 0, 0, []) (WP cd_Re_readsChain G R lm) ∧ WP cd_Re_readsChain G R lm 81 = stp G R lm (86, 84, 58, 1, 0, 0, [4]) (WP cd_Re_readsChain G R lm) ∧ WP cd_Re_readsChain G R lm 84 = stp G R lm (40, 92, 0, 0, 0, 0, []) (WP cd_Re_readsChain G R lm) ∧ WP cd_Re_readsChain G R lm 87 = stp G R lm (2, 88, 0, 0, 0, 0, []) (WP cd_Re_readsChain G R lm) ∧ WP cd_Re_readsChain G R lm 88 = stp G R lm (1, 89, 2, 0, 0, 0, []) (WP cd_Re_readsChain G R lm) ∧ WP cd_Re_readsChain G R lm 89 = stp G R lm (86, 92, 61, 1, 0, 0, [4]) (WP cd_Re_readsChain G R lm) ∧ WP cd_Re_readsChain G R lm 94 = stp G R lm (1, 96, 7, 0, 0, 0, []) (WP cd_Re_readsChain G R lm) ∧ WP cd_Re_readsChain G R lm 96 = stp G R lm (48, 99, 101, 0, 0, 0, []) (WP cd_Re_readsChain G R lm) ∧ WP cd_Re_readsChain G R lm 99 = stp G R lm (7, 100, 0, 0, nI 0, 0, []) (WP cd_Re_readsChain G R lm) ∧ WP cd_Re_readsChain G R lm 100 = stp G R lm (81, 101, 1, 0, 0, 0, []) (WP cd_Re_readsChain G R lm) ∧ WP cd_Re_readsChain G R lm 101 = stp G R lm (1, 103, 5, 0, 0, 0, []) (WP cd_Re_readsChain G R lm) ∧ WP cd_Re_readsChain G R lm 103 = stp G R lm (47, 106, 133, 0, 0, 0, []) (WP cd_Re_readsChain G R lm) ∧ WP cd_Re_readsChain G R lm 106 = stp G R lm (1, 108, 6, 0, 0, 0, []) (WP cd_Re_readsChain G R lm) ∧ WP cd_Re_readsChain G R lm 108 = stp G R lm (2, 109, 0, 0, 0, 0, []) (WP cd_Re_readsChain G R lm) ∧ WP cd_Re_readsChain G R lm 109 = stp G R lm (58, 112, 4, 1, 0, 0, []) (WP cd_Re_readsChain G R lm) ∧ WP cd_Re_readsChain G R lm 112 = stp G R lm (70, 113, 0, 0, 0, 0, []) (WP cd_Re_readsChain G R lm) ∧ WP cd_Re_readsChain G R lm 113 = stp G R lm (44, 116, 133, 0, 0, 0, []) (WP cd_Re_readsChain G R lm) ∧ WP cd_Re_readsChain G R lm 116 = stp G R lm (2, 117, 0, 0, 0, 0, []) (WP cd_Re_readsChain G R lm) ∧ WP cd_Re_readsChain G R lm 117 = stp G R lm (58, 120, 4, 1, 0, 0, []) (WP cd_Re_readsChain G R lm) ∧ WP cd_Re_readsChain G R lm 120 = stp G R lm (1, 122, 6, 0, 0, 0, []) (WP cd_Re_readsChain G R lm) ∧ WP cd_Re_readsChain G R lm 122 = stp G R lm (38, 123, 0, 0, 0, 0, []) (WP cd_Re_readsChain G R lm) ∧ WP cd_Re_readsChain G R lm 123 = stp G R lm (62, 124, 0, 0, 0, 0, []) (WP cd_Re_readsChain G R lm) ∧ WP cd_Re_readsChain G R lm 124 = stp G R lm (2, 125, 0, 0, 0, 0, []) (WP cd_Re_readsChain G R lm) ∧ WP cd_Re_readsChain G R lm 125 = stp G R lm (56, 128, 4, 3, 0, 0, []) (WP cd_Re_readsChain G R lm) ∧ WP cd_Re_readsChain G R lm 128 = stp G R lm (22, 129, 0, 0, 0, 0, []) (WP cd_Re_readsChain G R lm) ∧ WP cd_Re_readsChain G R lm 129 = stp G R lm (66, 130, 0, 0, 0, 0, []) (WP cd_Re_readsChain G R lm) ∧ WP cd_Re_readsChain G R lm 130 = stp G R lm (40, 144, 0, 0, 0, 0, []) (WP cd_Re_readsChain G R lm) ∧ WP cd_Re_readsChain G R lm 133 = stp G R lm (1, 134, 3, 0, 0, 0, []) (WP cd_Re_readsChain G R lm) ∧ WP cd_Re_readsChain G R lm 134 = stp G R lm (7, 135, 0, 0, (-1), 0, []) (WP cd_Re_readsChain G R lm) ∧ WP cd_Re_readsChain G R lm 135 = stp G R lm (41, 138, 144, 0, 0, 0, []) (WP cd_Re_readsChain G R lm) ∧ WP cd_Re_readsChain G R lm 138 = stp G R lm (2, 139, 0, 0, 0, 0, []) (WP cd_Re_readsChain G R lm) ∧ WP cd_Re_readsChain G R lm 139 = stp G R lm (1, 140, 3, 0, 0, 0, []) (WP cd_Re_readsChain G R lm) ∧ WP cd_Re_readsChain G R lm 140 = stp G R lm (7, 141, 0, 0, nI 0, 0, []) (WP cd_Re_readsChain G R lm) ∧ WP cd_Re_readsChain G R lm 141 = stp G R lm (86, 144, 50, 2, 0, 0, [4]) (WP cd_Re_readsChain G R lm) ∧ WP cd_Re_readsChain G R lm 144 = stp G R lm (2, 145, 0, 0, 0, 0, []) (WP cd_Re_readsChain G R lm) ∧ WP cd_Re_readsChain G R lm 145 = stp G R lm (1, 146, 1, 0, 0, 0, []) (WP cd_Re_readsChain G R lm) ∧ WP cd_Re_readsChain G R lm 146 = stp G R lm (86, 149, 57, 1, 0, 0, [4]) (WP cd_Re_readsChain G R lm) ∧ WP cd_Re_readsChain G R lm 149 = stp G R lm (4, 150, 3, 0, 0, 0, []) (WP cd_Re_readsChain G R lm) ∧ WP cd_Re_readsChain G R lm 150 = stp G R lm (1, 151, 3, 0, 0, 0, []) (WP cd_Re_readsChain G R lm) ∧ WP cd_Re_readsChain G R lm 151 = stp G R lm (7, 152, 0, 0, (-1), 0, []) (WP cd_Re_readsChain G R lm) ∧ WP cd_Re_readsChain G R lm 152 = stp G R lm (42, 155, 157, 0, 0, 0, []) (WP cd_Re_readsChain G R lm) ∧ WP cd_Re_readsChain G R lm 155 = stp G R lm (7, 156, 0, 0, nI 1, 0, []) (WP cd_Re_readsChain G R lm) ∧ WP cd_Re_readsChain G R lm 156 = stp G R lm (81, 157, 1, 0, 0, 0, []) (WP cd_Re_readsChain G R lm) ∧ WP cd_Re_readsChain G R lm 157 = stp G R lm (2, 158, 0, 0, 0, 0, []) (WP cd_Re_readsChain G R lm) ∧ WP cd_Re_readsChain G R lm 158 = stp G R lm (58, 161, 4, 0, 0, 0, []) (WP cd_Re_readsChain G R lm) ∧ WP cd_Re_readsChain G R lm 161 = stp G R lm (86, 164, 67, 0, 0, 0, [5]) (WP cd_Re_readsChain G R lm) ∧ WP cd_Re_readsChain G R lm 164 = stp G R lm (11, 167, 4, 0, nI 1, 0, []) (WP cd_Re_readsChain G R lm) ∧ WP cd_Re_readsChain G R lm 167 = stp G R lm (40, 5, 0, 0, 0, 0, []) (WP cd_Re_readsChain G R lm) ∧ WP cd_Re_readsChain G R lm 170 = stp G R lm (2, 171, 0, 0, 0, 0, []) (WP cd_Re_readsChain G R lm) ∧ WP cd_Re_readsChain G R lm 171 = stp G R lm (86, 174, 47, 0, 0, 0, [4]) (WP cd_Re_readsChain G R lm) ∧ WP cd_Re_readsChain G R lm 174 = stp G R lm (81, 175, 1, 0, 0, 0, []) (WP cd_Re_readsChain G R lm) := ⟨WP_eq hG rfl, WP_eq hG rfl, WP_eq hG rfl, WP_eq hG rfl, WP_eq hG rfl, WP_eq hG rfl, WP_eq hG rfl, WP_eq hG rfl, WP_eq hG rfl, WP_eq hG rfl, WP_eq hG rfl, WP_eq hG rfl, WP_eq hG rfl, WP_eq hG rfl, WP_eq hG rfl, WP_eq hG rfl, WP_eq hG rfl, WP_eq hG rfl, WP_eq hG rfl, WP_eq hG rfl, WP_eq hG rfl, WP_eq hG rfl, WP_eq hG rfl, WP_eq hG rfl, WP_eq hG rfl, WP_eq hG rfl, WP_eq hG rfl, WP_eq hG rfl, WP_eq hG rfl, WP_eq hG rfl, WP_eq hG rfl, WP_eq hG rfl, WP_eq hG rfl, WP_eq hG rfl, WP_eq hG rfl, WP_eq hG rfl, WP_eq hG rfl, WP_eq hG rfl, WP_eq hG rfl, WP_eq hG rfl, WP_eq hG rfl, WP_eq hG rfl, WP_eq hG rfl, WP_eq hG rfl, WP_eq hG rfl, WP_eq hG rfl, WP_eq hG rfl, WP_eq hG rfl, WP_eq hG rfl, WP_eq hG rfl, WP_eq hG rfl, WP_eq hG rfl, WP_eq hG rfl, WP_eq hG rfl, WP_eq hG rfl, WP_eq hG rfl, WP_eq hG rfl, WP_eq hG rfl, WP_eq hG rfl, WP_eq hG rfl, WP_eq hG rfl, WP_eq hG rfl, WP_eq hG rfl, WP_eq hG rfl, WP_eq hG rfl, WP_eq hG rfl, WP_eq hG rfl, WP_eq hG rfl, WP_eq hG rfl, WP_eq hG rfl, WP_eq hG rfl, WP_eq hG rfl, WP_eq hG rfl, WP_eq hG rfl, WP_eq hG rfl, WP_eq hG rfl, WP_eq hG rfl, WP_eq hG rfl, WP_eq hG rfl, WP_eq hG rfl, WP_eq hG rfl, WP_eq hG rfl, WP_eq hG rfl, WP_eq hG rfl, WP_eq hG rfl, WP_eq hG rfl, WP_eq hG rfl, WP_eq hG rfl, WP_eq hG rfl, WP_eq hG rfl, WP_eq hG rfl, WP_eq hG rfl, WP_eq hG rfl, WP_eq hG rfl, WP_eq hG rfl⟩
/-- one part of a chain is read -/
theorem x_rd (n d lev op q k cl : Nat) {T : TP} {om : Nat} (hom : om ≤ 1) (HP : HPx T om n) (hlev : lev < 4) (hop : op ≤ 8) (hn : 4 * (8 - op) + (4 - lev) ≤ n + 1) (hk : k ≤ 50) {h : MH} (r : RS h T om q k cl) (hc : cl + T.2 < 448 + q) (w3 w4 w5 w6 w7 : Option Value) (Q : RT) (lm : Nat × Nat) (kk : XOK h T om q cl (dR lev op) (pRd T om (pCh T om n) lev op q k) (kont (WP cd_Re_readsChain (callD (d + 4 * n + 7)) Q lm) 92 [] [some (.ref 213), some (.int (nI lev)), some (.int (nI op)), w3, w4, w5, w6, w7])) : WP cd_Re_readsChain (callD (d + 4 * n + 7)) Q lm 47 [] [some (.ref 213), some (.int (nI lev)), some (.int (nI op)), w3, w4, w5, w6, w7] h := by
  have s := r.1
  unfold XSr at s
  unfold pRd dR at kk
  have back : ∀ pc, (pc = 57 ∨ pc = 71 ∨ pc = 84) → ∀ (v : Option Value) (h' : MH), kont (WP cd_Re_readsChain (callD (d + 4 * n + 7)) Q lm) 92 [] [some (.ref 213), some (.int (nI lev)), some (.int (nI op)), w3, w4, w5, w6, w7] v h' → kont (WP cd_Re_readsChain (callD (d + 4 * n + 7)) Q lm) pc [] [some (.ref 213), some (.int (nI lev)), some (.int (nI op)), w3, w4, w5, w6, w7] v h' := fun pc hpc v h' z => by
    unfold kont at z ⊢
    rcases hpc with rfl | rfl | rfl <;> simp only [UC_Re_readsChain_92 (cm _), SB] <;> exact z
  rcases (show lev = 0 ∨ lev = 1 ∨ lev = 2 ∨ lev = 3 by omega) with rfl | rfl | rfl | rfl
  · simp only [if_true, Nat.zero_le] at kk
    simp (disch := omega) only [UC_Re_readsChain_92 (cm _), SA, SB, SC1, SC2, SG, SV, s, true_implies, not_true_eq_false, not_false_eq_true, false_implies, true_and, and_true]
    have Y := HP (d + 3) 1 op q k cl _ _ (by omega) hop (by omega) r hc (XOK_m (back 57 (by omega)) (by rw [dD_1]; exact kk))
    rw [show d + 3 + 4 * n + 4 = d + 4 * n + 7 by omega] at Y
    exact Y
  · simp only [Nat.one_ne_zero, if_false, if_true, Nat.le_refl] at kk
    simp (disch := omega) only [UC_Re_readsChain_92 (cm _), SA, SB, SC1, SC2, SG, SV, s, eqI, Nat.one_ne_zero, Nat.reduceEqDiff, true_implies, not_true_eq_false, not_false_eq_true, false_implies, true_and, and_true]
    have Y := x_plain n (d + 1) op q k cl HP (TLev_all T om n) hop (by omega) r hc _ (XOK_m (back 84 (by omega)) kk)
    rw [show d + 1 + 4 * n + 6 = d + 4 * n + 7 by omega] at Y
    exact Y
  · simp only [Nat.reduceEqDiff, Nat.reduceLeDiff, if_false, if_true] at kk
    simp (disch := omega) only [UC_Re_readsChain_92 (cm _), SA, SB, SC1, SC2, SG, SV, s, eqI, Nat.reduceEqDiff, true_implies, not_true_eq_false, not_false_eq_true, false_implies, true_and, and_true]
    have Y := HP (d + 3) 3 op q k cl _ _ (by omega) hop (by omega) r hc (XOK_m (back 71 (by omega)) (by rw [dD_3]; exact kk))
    rw [show d + 3 + 4 * n + 4 = d + 4 * n + 7 by omega] at Y
    exact Y
  · simp only [Nat.reduceEqDiff, Nat.reduceLeDiff, if_false, if_true] at kk
    simp (disch := omega) only [UC_Re_readsChain_92 (cm _), SA, SB, SC1, SC2, SG, SV, s, eqI, Nat.reduceEqDiff, true_implies, not_true_eq_false, not_false_eq_true, false_implies, true_and, and_true]
    have Y := x_part n (d + 1) op q k cl hom HP hop (fun _ => by omega) hk r hc _ kk
    rw [show d + 1 + 4 * n + 6 = d + 4 * n + 7 by omega] at Y
    exact Y
