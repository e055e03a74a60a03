/-! ===== what a reading keeps ===== -/
theorem q_adv {T : TP} {q : Nat} (hq : q ≤ T.2) (h : tTy T q ≠ 0) : q < tBe T q ∧ tBe T q ≤ T.2 := ⟨Nat.lt_of_le_of_lt (tAt_le T q) (tBe_lt T h), tBe_N T hq⟩
theorem bG_ty {T : TP} {q x : Nat} (h : bG T q x = true) : tTy T q ≠ 0 := by have := (bG_t.mp h).1; omega
theorem bW_ty {T : TP} {q x : Nat} (h : bW T q x = true) : tTy T q ≠ 0 := by have := (bW_t.mp h).1; omega
theorem bN_ty {T : TP} {q x y : Nat} (h : bN T q x y = true) : tTy T q ≠ 0 := by have := (bN_t.mp h).1; omega
theorem x_cmpAt {T : TP} {q : Nat} (h : cmpAt T q ≠ 0) : 11 ≤ cmpAt T q ∧ cmpAt T q ≤ 13 ∧ tTy T q ≠ 0 := by
  unfold cmpAt at h ⊢
  by_cases c1 : bG T q 60 = true
  · rw [if_pos c1]; exact ⟨by omega, by omega, bG_ty c1⟩
  · rw [if_neg c1] at h ⊢
    by_cases c2 : bG T q 62 = true
    · rw [if_pos c2]; exact ⟨by omega, by omega, bG_ty c2⟩
    · rw [if_neg c2] at h ⊢
      by_cases c3 : bG T q 61 = true
      · rw [if_pos c3]; exact ⟨by omega, by omega, bG_ty c3⟩
      · rw [if_neg c3] at h; exact absurd rfl h
def okK (T : TP) (lev k : Nat) (r : PRs) : Prop := ∀ v q' k', r = .ok (v, q', k') → (k ≤ 50 → k' ≤ 50) ∧ (lev ≤ 1 → TestV v)
section Pk
variable {T : TP} {om : Nat} {P : Nat → Nat → Nat → Nat → PRs}
theorem kBr (hP : ∀ lev op q k, okK T lev k (P lev op q k)) (lev cls op q k : Nat) : okK T lev k (pBr T P lev cls op q k) := fun v q' k' h => by
  unfold pBr at h
  split at h
  · cases h
  · cases hp : P lev (op + 1) (tBe T q) k with
    | error f => rw [hp] at h; cases h
    | ok w =>
      obtain ⟨v2, q2, k2⟩ := w
      rw [hp] at h
      simp only at h
      split at h
      · cases h; exact hP _ _ _ _ _ _ _ hp
      · cases h
theorem kCm (hP : ∀ lev op q k, okK T lev k (P lev op q k)) (op q k : Nat) : okK T 0 k (pCm T P op q k) := fun v q' k' h => by
  unfold pCm at h
  cases hp : P 2 op q k with
  | error f => rw [hp] at h; cases h
  | ok w =>
    obtain ⟨v2, q2, k2⟩ := w
    rw [hp] at h
    simp only at h
    split at h
    · cases h
    · next z =>
      cases hp2 : P 2 op (tBe T q2) k2 with
      | error f => rw [hp2] at h; cases h
      | ok w =>
        obtain ⟨v3, q3, k3⟩ := w
        rw [hp2] at h
        cases h
        have a := (hP _ _ _ _ _ _ _ hp).1
        have b := (hP _ _ _ _ _ _ _ hp2).1
        exact ⟨fun z => b (a z), fun _ => test_cmp (x_cmpAt z).1 _ _⟩
theorem kPl (hP : ∀ lev op q k, okK T lev k (P lev op q k)) (op q k : Nat) : okK T 0 k (pPl T P op q k) := fun v q' k' h => by
  unfold pPl at h
  have key : okK T 0 k (if bG T (nts T 400 q).2 40 = true then pBr T P 0 41 op (nts T 400 q).2 k else pCm T P op (nts T 400 q).2 k) := by
    split
    · exact kBr hP 0 41 op _ k
    · exact kCm hP op _ k
  generalize (if bG T (nts T 400 q).2 40 = true then pBr T P 0 41 op (nts T 400 q).2 k else pCm T P op (nts T 400 q).2 k) = r at h key
  cases r with
  | error f => cases h
  | ok w =>
    obtain ⟨v2, q2, k2⟩ := w
    simp only at h
    cases h
    obtain ⟨a, b⟩ := key _ _ _ rfl
    refine ⟨a, fun z => ?_⟩
    split
    · exact test_not (b z)
    · exact b z
theorem kPa (hP : ∀ lev op q k, okK T lev k (P lev op q k)) (op q k : Nat) : okK T 3 k (pPa T om P op q k) := fun v q' k' h => by
  unfold pPa at h
  split at h
  · exact ⟨(kBr hP 2 93 op q k _ _ _ h).1, fun z => by omega⟩
  · split at h
    · split at h
      · cases h
      · cases h; exact ⟨fun _ => by omega, fun z => by omega⟩
    · split at h
      · cases h
      · next z =>
        split at h
        · split at h
          · cases h; exact ⟨fun _ => by omega, fun z => by omega⟩
          · cases h
        · cases h; exact ⟨fun _ => by omega, fun z => by omega⟩
theorem kRd (hP : ∀ lev op q k, okK T lev k (P lev op q k)) (lev op q k : Nat) : okK T lev k (pRd T om P lev op q k) := fun v q' k' h => by
  unfold pRd at h
  split at h
  · have := hP _ _ _ _ _ _ _ h; exact ⟨this.1, fun _ => this.2 (by omega)⟩
  · split at h
    · have := kPl hP _ _ _ _ _ _ h; exact ⟨this.1, fun _ => this.2 (by omega)⟩
    · split at h
      · have := hP _ _ _ _ _ _ _ h; exact ⟨this.1, fun z => by omega⟩
      · have := kPa hP _ _ _ _ _ _ h; exact ⟨this.1, fun z => by omega⟩
theorem jnt_lev {lev q : Nat} (h : jnt T lev q ≠ 0) : (lev = 0 → jnt T lev q = 4) ∧ (lev = 1 → jnt T lev q = 5) ∧ (lev = 2 → jnt T lev q = 6 ∨ jnt T lev q = 7) ∧ (3 ≤ lev → jnt T lev q = 8 ∨ jnt T lev q = 9 ∨ jnt T lev q = 10) ∧ tTy T q ≠ 0 := by
  unfold jnt at h ⊢
  by_cases l0 : lev = 0
  · rw [if_pos l0] at h ⊢
    by_cases c : bW T q 18 = true
    · rw [if_pos c]; exact ⟨fun _ => rfl, fun _ => by omega, fun _ => by omega, fun _ => by omega, bW_ty c⟩
    · rw [if_neg c] at h; exact absurd rfl h
  rw [if_neg l0] at h ⊢
  by_cases l1 : lev = 1
  · rw [if_pos l1] at h ⊢
    by_cases c : bW T q 19 = true
    · rw [if_pos c]; exact ⟨fun _ => by omega, fun _ => rfl, fun _ => by omega, fun _ => by omega, bW_ty c⟩
    · rw [if_neg c] at h; exact absurd rfl h
  rw [if_neg l1] at h ⊢
  by_cases l2 : lev = 2
  · rw [if_pos l2] at h ⊢
    by_cases c : bG T q 43 = true
    · rw [if_pos c]; exact ⟨fun _ => by omega, fun _ => by omega, fun _ => Or.inl rfl, fun _ => by omega, bG_ty c⟩
    rw [if_neg c] at h ⊢
    by_cases c : bG T q 45 = true
    · rw [if_pos c]; exact ⟨fun _ => by omega, fun _ => by omega, fun _ => Or.inr rfl, fun _ => by omega, bG_ty c⟩
    · rw [if_neg c] at h; exact absurd rfl h
  rw [if_neg l2] at h ⊢
  by_cases c : bG T q 42 = true
  · rw [if_pos c]; exact ⟨fun _ => by omega, fun _ => by omega, fun _ => by omega, fun _ => Or.inl rfl, bG_ty c⟩
  rw [if_neg c] at h ⊢
  by_cases c : bG T q 47 = true
  · rw [if_pos c]; exact ⟨fun _ => by omega, fun _ => by omega, fun _ => by omega, fun _ => Or.inr (Or.inl rfl), bG_ty c⟩
  rw [if_neg c] at h ⊢
  by_cases c : bG T q 37 = true
  · rw [if_pos c]; exact ⟨fun _ => by omega, fun _ => by omega, fun _ => by omega, fun _ => Or.inr (Or.inr rfl), bG_ty c⟩
  · rw [if_neg c] at h; exact absurd rfl h
theorem kLoop (hP : ∀ lev op q k, okK T lev k (P lev op q k)) (lev op k0 : Nat) : ∀ (m : Nat) (v : VAL) (q k : Nat), (k0 ≤ 50 → k ≤ 50) → (lev ≤ 1 → TestV v) → okK T lev k0 (pLoop T om P lev op m v q k)
  | 0, v, q, k, _, _ => fun v' q' k' h => by cases h
  | m + 1, v, q, k, hk, hv => fun v' q' k' h => by
    unfold pLoop at h
    split at h
    · cases h; exact ⟨hk, hv⟩
    · next z =>
      cases hp : pRd T om P lev op (tBe T q) k with
      | error f => rw [hp] at h; cases h
      | ok w =>
        obtain ⟨v2, q2, k2⟩ := w
        rw [hp] at h
        simp only at h
        have a := kRd hP lev op _ k _ _ _ hp
        refine kLoop hP lev op k0 m _ _ _ (fun z => a.1 (hk z)) (fun z1 => ?_) _ _ _ h
        have j := jnt_lev z
        unfold cmb
        rw [if_pos (by
          rcases (show lev = 0 ∨ lev = 1 by omega) with l | l
          · rw [j.1 l]; omega
          · rw [j.2.1 l]; omega)]
        exact test_jn (a.2 z1)
end Pk
theorem kCh (T : TP) (om : Nat) : ∀ n lev op q k, okK T lev k (pCh T om n lev op q k)
  | 0, _, _, _, _ => fun v q' k' h => by cases h
  | n + 1, lev, op, q, k => fun v q' k' h => by
    have hP := kCh T om n
    unfold pCh at h
    cases hp : pRd T om (pCh T om n) lev op q k with
    | error f => rw [hp] at h; cases h
    | ok w =>
      obtain ⟨v2, q2, k2⟩ := w
      rw [hp] at h
      simp only at h
      have a := kRd hP lev op q k _ _ _ hp
      exact kLoop hP lev op k 401 v2 q2 k2 a.1 a.2 _ _ _ h
def TLev (T : TP) (om n : Nat) : Prop := ∀ lev op q k v q' k', lev ≤ 1 → pCh T om n lev op q k = .ok (v, q', k') → TestV v
theorem TLev_all (T : TP) (om n : Nat) : TLev T om n := fun lev op q k v q' k' hl h => (kCh T om n lev op q k v q' k' h).2 hl
