/-! ===== a part, as the reference reads it ===== -/
def StR (h : MH) (T : TP) (om : Nat) (Q : RT) : Except Nat MSx → Prop
  | .ok st => ∀ h', MRF h h' → MR h' T om st.1 st.2.2.1 st.2.2.2.1 st.2.2.2.2.1 st.2.2.2.2.2.1 st.2.2.2.2.2.2 → Q (some (.int (nI st.2.1))) h'
  | .error f => ∀ h' v, MRF h h' → MEr h' f → Q (some (.int v)) h'
theorem wAt_0 (T : TP) (q : Nat) : wAt T 0 q ≠ 9 ∧ wAt T 0 q ≠ 16 := by
  unfold wAt
  split; omega; split; omega; split; omega; split; omega; split; omega; split; omega; split; omega; split <;> omega
theorem mW_1 (T : TP) (q : Nat) (h : wAt T 1 q ≠ 99) : (5 ≤ mW 1 (wAt T 1 q) ↔ (wAt T 1 q = 9 ∨ wAt T 1 q = 16)) ∧ mW 1 (wAt T 1 q) ≤ 6 := by
  unfold wAt at h ⊢
  unfold mW
  by_cases c1 : bW T q 8 = true
  · simp [c1]
  by_cases c2 : bW T q 9 = true
  · simp [c1, c2]
  by_cases c3 : bW T q 10 = true
  · simp [c1, c2, c3]
  by_cases c4 : bW T q 11 = true
  · simp [c1, c2, c3, c4]
  by_cases c5 : bW T q 12 = true
  · simp [c1, c2, c3, c4, c5]
  by_cases c6 : bW T q 13 = true
  · simp [c1, c2, c3, c4, c5, c6]
  simp [c1, c2, c3, c4, c5, c6] at h
theorem wAt_ty {T : TP} {om q : Nat} (h : wAt T om q ≠ 99) : tTy T q = 1 ∧ wAt T om q ≤ 16 := by
  unfold wAt at h ⊢
  by_cases c1 : bW T q 8 = true
  · rw [if_pos c1]; exact ⟨(bW_t.mp c1).1, by omega⟩
  by_cases c2 : bW T q 9 = true
  · rw [if_neg c1, if_pos c2]; exact ⟨(bW_t.mp c2).1, by omega⟩
  rw [if_neg c1, if_neg c2] at h ⊢
  by_cases co : om = 1
  · rw [if_pos co] at h ⊢
    by_cases c3 : bW T q 10 = true
    · rw [if_pos c3]; exact ⟨(bW_t.mp c3).1, by omega⟩
    by_cases c4 : bW T q 11 = true
    · rw [if_neg c3, if_pos c4]; exact ⟨(bW_t.mp c4).1, by omega⟩
    by_cases c5 : bW T q 12 = true
    · rw [if_neg c3, if_neg c4, if_pos c5]; exact ⟨(bW_t.mp c5).1, by omega⟩
    by_cases c6 : bW T q 13 = true
    · rw [if_neg c3, if_neg c4, if_neg c5, if_pos c6]; exact ⟨(bW_t.mp c6).1, by omega⟩
    rw [if_neg c3, if_neg c4, if_neg c5, if_neg c6] at h
    exact absurd rfl h
  · rw [if_neg co] at h ⊢
    by_cases c3 : bW T q 14 = true
    · rw [if_pos c3]; exact ⟨(bW_t.mp c3).1, by omega⟩
    by_cases c4 : bW T q 15 = true
    · rw [if_neg c3, if_pos c4]; exact ⟨(bW_t.mp c4).1, by omega⟩
    by_cases c5 : bW T q 5 = true
    · rw [if_neg c3, if_neg c4, if_pos c5]; exact ⟨(bW_t.mp c5).1, by omega⟩
    by_cases c6 : bW T q 16 = true
    · rw [if_neg c3, if_neg c4, if_neg c5, if_pos c6]; exact ⟨(bW_t.mp c6).1, by omega⟩
    by_cases c7 : bW T q 17 = true
    · rw [if_neg c3, if_neg c4, if_neg c5, if_neg c6, if_pos c7]; exact ⟨(bW_t.mp c7).1, by omega⟩
    rw [if_neg c3, if_neg c4, if_neg c5, if_neg c6, if_neg c7] at h
    exact absurd rfl h
theorem nI_sur (v : Int32) : ∃ n, v = nI n := ⟨v.toUInt32.toNat, by
  apply Int32.toBitVec_inj.mp
  show v.toBitVec = BitVec.ofNat 32 v.toBitVec.toNat
  rw [BitVec.ofNat_toNat]
  simp⟩
/-- an argument is written behind -/
theorem SR_arg {h : MH} {pl : PLt} {cf : CFt} {nc : Nat} (s : SR h pl cf (nc + 1)) (v : Nat) : SR (sIA h 285 (up1 (hia h 285) nc (nI v))) pl (up1 cf nc ((cf nc).1, v)) (nc + 1) ∧ MRx h (sIA h 285 (up1 (hia h 285) nc (nI v))) := by
  obtain ⟨s1, s2, s3, s4, s5, s6, s7⟩ := s
  have eo : ∀ b, b ≠ 285 → hia (sIA h 285 (up1 (hia h 285) nc (nI v))) b = hia h b := fun b hb => hia_n _ _ hb
  refine ⟨⟨s1, s2, s3, fun i hi => ?_, by rw [eo _ (by omega), eo _ (by omega)]; exact s5, s6, s7⟩, ⟨⟨rfl, rfl, rfl, SHE.refl h, rfl⟩, fun _ _ => ⟨rfl, rfl⟩, fun b hb => eo b (by omega), fun _ _ _ _ _ _ _ _ _ _ => rfl, fun _ _ => rfl⟩, fun _ _ _ => rfl, rfl⟩
  rw [eo 284 (by omega), hia_s]
  by_cases c : i = nc
  · subst c; rw [up1_s, up1_s]; exact ⟨(s4 i hi).1, rfl⟩
  · rw [up1_n _ _ c, up1_n _ _ c]; exact s4 i hi
theorem m_readPart_br (d q : Nat) {h : MH} {T : TP} {om : Nat} {pl : PLt} {cf : CFt} {nc k op : Nat} (r : MR h T om q pl cf nc k op) (ho : op ≤ 8) (hn : nc + pl.length ≤ q) (c : bG T q 91 = true) (Q : RT) (K : StR h T om Q (sPart T om q pl cf nc k op)) : callD (d + 5) 182 [.ref 273] h Q := by
  have S := fun Q => m_isSign (d + 3) q 91 (by omega) r.1 Q
  rw [c, b2_t] at S
  unfold sPart at K
  rw [if_pos c] at K
  have k8 := r.1.1.1
  have hq := r.1.2.2.1
  have h4 := r.1.2.1.1
  obtain ⟨a1, a2⟩ := q_adv hq (bG_ty c)
  rw [E_Mo_readPart]
  simp (disch := omega) only [U_Mo_readPart (cm _), SA, SB, SC1, SC2, SG, SV, k8, S, eqI, Nat.one_ne_zero, true_implies, not_true_eq_false, not_false_eq_true, false_implies, true_and, and_true]
  refine m_openBracket d q 32 (by omega) (by omega) r ho (by omega) _ (fun c8 h' f m => ?_) (fun c8 h' f m => ?_)
  · rw [if_pos c8] at K
    simp (disch := omega) only [U_Mo_readPart (cm _), SA, SB, SC1, SC2, SG, SV]
    exact K h' f m
  · rw [if_neg (by omega)] at K
    simp (disch := omega) only [U_Mo_readPart (cm _), SA, SB, SC1, SC2, SG, SV]
    exact K h' _ f m
