/-! ===== a reading goes on ===== -/
def okQ (T : TP) (q : Nat) (r : PRs) : Prop := ∀ v q' k', r = .ok (v, q', k') → q ≤ T.2 → q < q' ∧ q' ≤ T.2
section Qk
variable {T : TP} {om : Nat} {P : Nat → Nat → Nat → Nat → PRs}
theorem qBr (hP : ∀ lev op q k, okQ T q (P lev op q k)) (lev cls op q k : Nat) (hty : tTy T q ≠ 0) : okQ T q (pBr T P lev cls op q k) := fun v q' k' h hq => by
  unfold pBr at h
  split at h
  · cases h
  · cases hp : P lev (op + 1) (tBe T q) k with
    | error f => rw [hp] at h; cases h
    | ok w =>
      obtain ⟨v2, q2, k2⟩ := w
      rw [hp] at h
      simp only at h
      split at h
      · next g =>
        cases h
        obtain ⟨a1, a2⟩ := q_adv hq hty
        obtain ⟨b1, b2⟩ := hP _ _ _ _ _ _ _ hp a2
        obtain ⟨c1, c2⟩ := q_adv b2 (bG_ty g)
        exact ⟨by omega, c2⟩
      · cases h
theorem qCm (hP : ∀ lev op q k, okQ T q (P lev op q k)) (op q k : Nat) : okQ T q (pCm T P op q k) := fun v q' k' h hq => by
  unfold pCm at h
  cases hp : P 2 op q k with
  | error f => rw [hp] at h; cases h
  | ok w =>
    obtain ⟨v2, q2, k2⟩ := w
    rw [hp] at h
    simp only at h
    split at h
    · cases h
    · next z =>
      cases hp2 : P 2 op (tBe T q2) k2 with
      | error f => rw [hp2] at h; cases h
      | ok w =>
        obtain ⟨v3, q3, k3⟩ := w
        rw [hp2] at h
        cases h
        obtain ⟨a1, a2⟩ := hP _ _ _ _ _ _ _ hp hq
        obtain ⟨b1, b2⟩ := q_adv a2 (x_cmpAt z).2.2
        obtain ⟨c1, c2⟩ := hP _ _ _ _ _ _ _ hp2 b2
        exact ⟨by omega, c2⟩
theorem qPl (hP : ∀ lev op q k, okQ T q (P lev op q k)) (op q k : Nat) : okQ T q (pPl T P op q k) := fun v q' k' h hq => by
  obtain ⟨o1, o2, -, -⟩ := nts_ok T 400 q hq
  unfold pPl at h
  have key : okQ T (nts T 400 q).2 (if bG T (nts T 400 q).2 40 = true then pBr T P 0 41 op (nts T 400 q).2 k else pCm T P op (nts T 400 q).2 k) := by
    split
    · next g => exact qBr hP 0 41 op _ k (bG_ty g)
    · exact qCm hP op _ k
  generalize (if bG T (nts T 400 q).2 40 = true then pBr T P 0 41 op (nts T 400 q).2 k else pCm T P op (nts T 400 q).2 k) = r at h key
  cases r with
  | error f => cases h
  | ok w =>
    obtain ⟨v2, q2, k2⟩ := w
    simp only at h
    cases h
    obtain ⟨a, b⟩ := key _ _ _ rfl o2
    exact ⟨by omega, b⟩
theorem qPa (hom : om ≤ 1) (hP : ∀ lev op q k, okQ T q (P lev op q k)) (op q k : Nat) : okQ T q (pPa T om P op q k) := fun v q' k' h hq => by
  unfold pPa at h
  split at h
  · next g => exact qBr hP 2 93 op q k (bG_ty g) _ _ _ h hq
  · split at h
    · next g =>
      split at h
      · cases h
      · cases h; exact q_adv hq (bN_ty g)
    · split at h
      · cases h
      · next z =>
        have ty := (wAt_ok hom (not_or.mp z).1).2.1
        obtain ⟨a1, a2⟩ := q_adv hq ty
        split at h
        · split at h
          · next g =>
            cases h
            obtain ⟨b1, b2⟩ := q_adv a2 (bN_ty g)
            exact ⟨by omega, b2⟩
          · cases h
        · cases h; exact ⟨a1, a2⟩
theorem qRd (hom : om ≤ 1) (hP : ∀ lev op q k, okQ T q (P lev op q k)) (lev op q k : Nat) : okQ T q (pRd T om P lev op q k) := fun v q' k' h hq => by
  unfold pRd at h
  split at h
  · exact hP _ _ _ _ _ _ _ h hq
  · split at h
    · exact qPl hP _ _ _ _ _ _ h hq
    · split at h
      · exact hP _ _ _ _ _ _ _ h hq
      · exact qPa hom hP _ _ _ _ _ _ h hq
theorem qLoop (hom : om ≤ 1) (hP : ∀ lev op q k, okQ T q (P lev op q k)) (lev op q0 : Nat) : ∀ (m : Nat) (v : VAL) (q k : Nat), q0 < q → q ≤ T.2 → okQ T q0 (pLoop T om P lev op m v q k)
  | 0, v, q, k, _, _ => fun v' q' k' h => by cases h
  | m + 1, v, q, k, h0, hq => fun v' q' k' h hq0 => by
    unfold pLoop at h
    split at h
    · cases h; exact ⟨h0, hq⟩
    · next z =>
      cases hp : pRd T om P lev op (tBe T q) k with
      | error f => rw [hp] at h; cases h
      | ok w =>
        obtain ⟨v2, q2, k2⟩ := w
        rw [hp] at h
        simp only at h
        obtain ⟨a1, a2⟩ := q_adv hq (jnt_lev z).2.2.2.2
        obtain ⟨b1, b2⟩ := qRd hom hP lev op _ k _ _ _ hp a2
        exact qLoop hom hP lev op q0 m _ _ _ (by omega) b2 _ _ _ h hq0
end Qk
theorem qCh (T : TP) {om : Nat} (hom : om ≤ 1) : ∀ n lev op q k, okQ T q (pCh T om n lev op q k)
  | 0, _, _, _, _ => fun v q' k' h => by cases h
  | n + 1, lev, op, q, k => fun v q' k' h hq => by
    have hP := qCh T hom n
    unfold pCh at h
    cases hp : pRd T om (pCh T om n) lev op q k with
    | error f => rw [hp] at h; cases h
    | ok w =>
      obtain ⟨v2, q2, k2⟩ := w
      rw [hp] at h
      simp only at h
      obtain ⟨a1, a2⟩ := qRd hom hP lev op q k _ _ _ hp hq
      exact qLoop hom hP lev op q 401 v2 q2 k2 a1 a2 _ _ _ h hq
