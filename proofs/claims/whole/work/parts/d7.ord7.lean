/-! ===== orders: the reference's order whole ===== -/
theorem spO_v : spO 0 = 1 ∧ spO 1 = 3 ∧ spO 2 = 8 := ⟨rfl, rfl, rfl⟩
theorem oO_n {c : CLA} {j : Nat} (h : oO c j = none) : nSm 1 c.1 ≤ j := by
  unfold oO at h
  by_cases z : j < nSm 1 c.1
  · rw [if_pos z] at h; cases h
  · omega
theorem oO_s {c : CLA} {j : Nat} {v : VAL} (h : oO c j = some v) : j < nSm 1 c.1 ∧ v = c.2.2.2 j := by
  unfold oO at h
  by_cases z : j < nSm 1 c.1
  · rw [if_pos z] at h; injection h with h; exact ⟨z, h.symm⟩
  · rw [if_neg z] at h; cases h
theorem of_1 {a : Nat} {b : Bool} (h : ofN a b = 0) : a = 0 ∧ b = true := by
  unfold ofN at h
  by_cases z : a = 0 ∧ b = true
  · exact z
  · rw [if_neg z] at h; cases h
/-- one of an order's sums -/
theorem m_sumJ (d i j M nc off : Nat) (hi : i < 12) (hj : j < 3) (hnc : nc ≤ 400) (hoff : off ≤ 1) {c : CLA} {h : MH} {p : RW} {H : MH} {s : OS} {cf : CFt} (hM : MoS h) (h20 : hfi h 273 20 = nI 0) (cv : CV 1 cf nc) (hc : ∀ i, i < nc → hia h 284 i = nI (cf i).1 ∧ hia h 285 i = nI (cf i).2) (X : MClO (hia h 298) cf nc (10 * i) c) (R : RIm h p M H s) (h49 : hfi H 273 49 = nI off) {e : EV} (he : EOK e) (hE : ME H 1 e) (Q : RT) (K : ∀ H' w, RIm h p M H' s → ME H' 1 e → hfi H' 273 49 = nI (ofN off (okJ c e j)) → (off = 0 → okJ c e j = true → j < nSm 1 c.1 → w = oSv c e j) → Q (some (.int w)) H') : callD (d + 3) 238 [.ref 273, .int (nI (10 * i + spO j))] H Q := by
  obtain ⟨-, -, -, -, -, xs⟩ := X
  obtain ⟨s0, s1, u1, u2, u3, u4, u5, u6⟩ := xs j hj
  have mo := R.1
  have MH' := mo.1.2.2.2.M hM
  have h20' : hfi H 273 20 = nI 0 := (mo.2.2.1 20 (by omega) (by omega) (by omega) (by omega) (by omega) (by omega)).trans h20
  have i298 : hia H 298 = hia h 298 := mo.2.2.2.1 298 (by omega) (by omega) (by omega)
  have i284 : hia H 284 = hia h 284 := mo.2.2.2.1 284 (by omega) (by omega) (by omega)
  have i285 : hia H 285 = hia h 285 := mo.2.2.2.1 285 (by omega) (by omega) (by omega)
  have sp : spO j ≤ 8 := by rcases spO_c (j := j) with z | z | z <;> omega
  refine m_sumOf d (10 * i + spO j) off nc s0 s1 (by omega) hoff hnc MH' h20' h49 he hE cv (by rw [i284, i285]; exact hc) (by rw [i298]; exact u1) (by rw [i298]; exact u2) u3 u4 (oO c j) (fun z => u5 (oO_n z)) (fun v z => by obtain ⟨z1, z2⟩ := oO_s z; rw [z2]; exact u6 z1) Q (fun H' w m f49 hw => ?_)
  rw [okO_e] at f49
  exact K H' w (R.S m) (m.E hE) f49 (fun z1 z2 z3 => oSv_w z3 z2 (hw z1))
theorem m_run95 (d i M nc : Nat) (hi : i < 12) (hMM : M ≤ 5000) (hnc : nc ≤ 400) {Lo : Option LWS} {c : CLA} {h : MH} {p : RW} {H : MH} {s : OS} {cf : CFt} (hM : MoS h) (h20 : hfi h 273 20 = nI 0) (fo : FO p Lo) (rn : RN p) (cv : CV 1 cf nc) (hc : ∀ i, i < nc → hia h 284 i = nI (cf i).1 ∧ hia h 285 i = nI (cf i).2) (X : MClO (hia h 298) cf nc (10 * i) c) (R : RIm h p M H s) (h49 : hfi H 273 49 = nI 0) (hE : ME H 1 (eO s.1 s.2.1 s.2.2.1)) (ch : holB c.2.2.1 (eO s.1 s.2.1 s.2.2.1) = true) (w : Option Value) (Q : RT) (lm : Nat × Nat) (K : KsM h p M Lo c s Q) : WP cd_Mo_run (callD (d + 10)) Q lm 95 [] [some (.ref 273), some (.int (nI (10 * i))), w, none, none, none, none] H := by
  obtain ⟨o1, o2, o3, o4, o5⟩ := id R.2.1
  have he : EOK (eO s.1 s.2.1 s.2.2.1) := eO_ok o1 (by omega) o4
  obtain ⟨p0, p1, p2⟩ := spO_v
  have J0 := fun Q => m_sumJ (d + 7) i 0 M nc 0 hi (by omega) hnc (by omega) hM h20 cv hc X R h49 he hE Q
  rw [p0] at J0
  have k80 := (R.1.1.2.2.2.M hM).1
  simp (disch := omega) only [UC_Mo_run_131 (cm _), SA, SB, SC1, SC2, SG, SK, SV, k80, nI_add, true_or, or_true, true_implies, not_true_eq_false, not_false_eq_true, false_implies, true_and, and_true]
  refine J0 _ (fun H1 w0 R1 E1 f1 v0 => ?_)
  clear J0
  have J1 := fun Q => m_sumJ (d + 7) i 1 M nc _ hi (by omega) hnc (ofN_le _ _) hM h20 cv hc X R1 f1 he E1 Q
  rw [p1] at J1
  have k81 := (R1.1.1.2.2.2.M hM).1
  simp (disch := omega) only [UC_Mo_run_131 (cm _), SA, SB, SC1, SC2, SG, SK, SV, k81, nI_add, true_or, or_true, true_implies, not_true_eq_false, not_false_eq_true, false_implies, true_and, and_true]
  refine J1 _ (fun H2 w1 R2 E2 f2 v1 => ?_)
  clear J1
  have J2 := fun Q => m_sumJ (d + 7) i 2 M nc _ hi (by omega) hnc (ofN_le _ _) hM h20 cv hc X R2 f2 he E2 Q
  rw [p2] at J2
  have k82 := (R2.1.1.2.2.2.M hM).1
  simp (disch := omega) only [UC_Mo_run_131 (cm _), SA, SB, SC1, SC2, SG, SK, SV, k82, nI_add, true_or, or_true, true_implies, not_true_eq_false, not_false_eq_true, false_implies, true_and, and_true]
  refine J2 _ (fun H3 w2 R3 E3 f3 v2 => ?_)
  clear J2
  have k8 := (R3.1.1.2.2.2.M hM).1
  obtain ⟨x1, x2, -⟩ := X
  by_cases z : ofN (ofN (ofN 0 (okJ c (eO s.1 s.2.1 s.2.2.1) 0)) (okJ c (eO s.1 s.2.1 s.2.2.1) 1)) (okJ c (eO s.1 s.2.1 s.2.2.1) 2) = 0
  · obtain ⟨z1, z2⟩ := of_1 z
    obtain ⟨z3, z4⟩ := of_1 z1
    obtain ⟨-, z5⟩ := of_1 z3
    have ok : okSy c (eO s.1 s.2.1 s.2.2.1) = true := by rw [okSy_e, z5, z4, z2]; rfl
    rw [z] at f3
    have Y := m_run131 d i M hi hMM hM h20 fo rn R3 x1 x2 ch ok w0 w1 w2 (fun y => v0 rfl z5 y) (fun y => v1 z3 z4 y) (fun y => v2 z1 z2 y) Q lm K
    simp (disch := omega) only [UC_Mo_run_131 (cm _), SA, SB, SC1, SC2, SG, SK, SV, k8, f3, true_or, or_true, true_implies, not_true_eq_false, not_false_eq_true, false_implies, true_and, and_true]
    exact Y
  · have f3' : hfi H3 273 49 = nI 1 := by
      rw [f3]
      have := ofN_le (ofN (ofN 0 (okJ c (eO s.1 s.2.1 s.2.2.1) 0)) (okJ c (eO s.1 s.2.1 s.2.2.1) 1)) (okJ c (eO s.1 s.2.1 s.2.2.1) 2)
      congr 1
      omega
    have ok : ¬ okSy c (eO s.1 s.2.1 s.2.2.1) = true := fun y => z (by
      rw [okSy_e, Bool.and_eq_true, Bool.and_eq_true] at y
      rw [y.1, y.2.1, y.2.2]; rfl)
    have Kf := K.1
    unfold oStep at Kf
    rw [if_pos ch, if_neg ok] at Kf
    have Y := Kf rfl H3 R3.1 (by rw [R3.2.2.1]; exact o2)
    simp (disch := omega) only [UC_Mo_run_131 (cm _), SA, SB, SC1, SC2, SG, SK, SV, k8, f3', eqI, Nat.one_ne_zero, true_or, or_true, true_implies, not_true_eq_false, not_false_eq_true, false_implies, true_and, and_true]
    exact Y
theorem m_run54 (d i M nc : Nat) (hi : i < 12) (hMM : M ≤ 5000) (hnc : nc ≤ 400) {Lo : Option LWS} {c : CLA} {h : MH} {p : RW} {H : MH} {s : OS} {cf : CFt} (hM : MoS h) (h20 : hfi h 273 20 = nI 0) (fo : FO p Lo) (rn : RN p) (cv : CV 1 cf nc) (hc : ∀ i, i < nc → hia h 284 i = nI (cf i).1 ∧ hia h 285 i = nI (cf i).2) (X : MClO (hia h 298) cf nc (10 * i) c) (R : RIm h p M H s) (h49 : hfi H 273 49 = nI 0) (hE : ME H 1 (eO s.1 s.2.1 s.2.2.1)) (Q : RT) (lm : Nat × Nat) (K : KsM h p M Lo c s Q) : WP cd_Mo_run (callD (d + 10)) Q lm 54 [] [some (.ref 273), some (.int (nI (10 * i))), none, none, none, none, none] H := by
  obtain ⟨o1, o2, o3, o4, o5⟩ := id R.2.1
  have he : EOK (eO s.1 s.2.1 s.2.2.1) := eO_ok o1 (by omega) o4
  have mo := R.1
  have MH' := mo.1.2.2.2.M hM
  have k8 := MH'.1
  have a298 := MH'.a298
  have h20' : hfi H 273 20 = nI 0 := (mo.2.2.1 20 (by omega) (by omega) (by omega) (by omega) (by omega) (by omega)).trans h20
  have i298 : hia H 298 = hia h 298 := mo.2.2.2.1 298 (by omega) (by omega) (by omega)
  have i284 : hia H 284 = hia h 284 := mo.2.2.2.1 284 (by omega) (by omega) (by omega)
  have i285 : hia H 285 = hia h 285 := mo.2.2.2.1 285 (by omega) (by omega) (by omega)
  obtain ⟨-, -, -, -, ⟨t0, t1, g5, g6, l0, l1, ct⟩, -⟩ := id X
  have g5' : hia H 298 (10 * i + 5) = nI t0 := by rw [i298]; exact g5
  have g6' : hia H 298 (10 * i + 6) = nI t1 := by rw [i298]; exact g6
  cases hT : c.2.2.1 with
  | none =>
    rw [hT] at ct
    have ct : t1 = t0 := ct
    have ch : holB c.2.2.1 (eO s.1 s.2.1 s.2.2.1) = true := by rw [hT]; rfl
    have Y := m_run95 d i M nc hi hMM hnc hM h20 fo rn cv hc X R h49 hE ch none Q lm K
    simp (disch := omega) only [UC_Mo_run_95 (cm _), SA, SB, SC1, SC2, SG, SK, SV, k8, a298, g5', g6', leI, show t1 ≤ t0 by omega, nI_add, nI_clamp, in_eq, Nat.reduceLeDiff, true_or, or_true, true_implies, not_true_eq_false, not_false_eq_true, false_implies, true_and, and_true]
    exact Y
  | some v =>
    rw [hT] at ct
    obtain ⟨tv', S⟩ : TestV v ∧ Seg (lM 1 cf) t0 t1 20 v := ct
    have lt := S.1
    have hol : holB c.2.2.1 (eO s.1 s.2.1 s.2.2.1) = decide (v (eO s.1 s.2.1 s.2.2.1) = some 1) := by rw [hT]; rfl
    have no : v (eO s.1 s.2.1 s.2.2.1) ≠ some 1 → oStep Lo c s = some s := fun z => by
      unfold oStep
      rw [if_neg (by rw [hol, decide_eq_false z]; decide)]
    have SO := fun Q => m_sumOf (d + 7) (10 * i + 5) 0 nc t0 t1 (by omega) (by omega) hnc MH' h20' h49 he hE cv (by rw [i284, i285]; exact hc) g5' g6' l0 l1 (some v) (fun z => by cases z) (fun v' z => by injection z with z; rw [← z]; exact S) Q
    simp (disch := omega) only [UC_Mo_run_95 (cm _), SA, SB, SC1, SC2, SG, SK, SV, k8, a298, g5', g6', leI, show ¬ t1 ≤ t0 by omega, nI_add, nI_clamp, in_eq, Nat.reduceLeDiff, true_or, or_true, true_implies, not_true_eq_false, not_false_eq_true, false_implies, true_and, and_true]
    refine SO _ (fun H1 w m f49 hw => ?_)
    clear SO
    have R1 := R.S m
    have k81 := (R1.1.1.2.2.2.M hM).1
    cases hv : v (eO s.1 s.2.1 s.2.2.1) with
    | none =>
      replace f49 : hfi H1 273 49 = nI (ofN 0 (v (eO s.1 s.2.1 s.2.2.1)).isSome) := f49
      rw [hv] at f49
      replace f49 : hfi H1 273 49 = nI 1 := f49
      have Y := K.2 s (no (by rw [hv]; intro z; cases z)) H1 (R1.mono (by omega))
      simp (disch := omega) only [UC_Mo_run_95 (cm _), SA, SB, SC1, SC2, SG, SK, SV, k81, f49, eqI, Nat.one_ne_zero, true_or, or_true, true_implies, not_true_eq_false, not_false_eq_true, false_implies, true_and, and_true]
      exact Y
    | some x =>
      replace f49 : hfi H1 273 49 = nI (ofN 0 (v (eO s.1 s.2.1 s.2.2.1)).isSome) := f49
      rw [hv] at f49
      replace f49 : hfi H1 273 49 = nI 0 := f49
      have w' := hw rfl v x rfl hv
      rcases tv' _ x he hv with z | z
      · subst z
        have w' : w = nI 0 := w'.trans (iI_n 0)
        have Y := K.2 s (no (by rw [hv]; intro z; injection z with z; omega)) H1 (R1.mono (by omega))
        simp (disch := omega) only [UC_Mo_run_95 (cm _), SA, SB, SC1, SC2, SG, SK, SV, k81, f49, w', true_or, or_true, true_implies, not_true_eq_false, not_false_eq_true, false_implies, true_and, and_true]
        exact Y
      · subst z
        have w' : w = nI 1 := w'.trans (iI_n 1)
        have ch : holB c.2.2.1 (eO s.1 s.2.1 s.2.2.1) = true := by rw [hol, hv]; rfl
        have Y := m_run95 d i M nc hi hMM hnc hM h20 fo rn cv hc X R1 f49 (m.E hE) ch (some (.int (nI 1))) Q lm K
        simp (disch := omega) only [UC_Mo_run_95 (cm _), SA, SB, SC1, SC2, SG, SK, SV, k81, f49, w', eqI, Nat.one_ne_zero, true_or, or_true, true_implies, not_true_eq_false, not_false_eq_true, false_implies, true_and, and_true]
        exact Y
theorem m_runO (d i M nc : Nat) (hi : i < 12) (hMM : M ≤ 5000) (hnc : nc ≤ 400) {Lo : Option LWS} {c : CLA} {h : MH} {p : RW} {H : MH} {s : OS} {cf : CFt} (hM : MoS h) (h20 : hfi h 273 20 = nI 0) (fo : FO p Lo) (rn : RN p) (cv : CV 1 cf nc) (hc : ∀ i, i < nc → hia h 284 i = nI (cf i).1 ∧ hia h 285 i = nI (cf i).2) (X : MClO (hia h 298) cf nc (10 * i) c) (R : RIm h p M H s) (Q : RT) (K : KsM h p M Lo c s Q) : callD (d + 11) 239 [.ref 273, .int (nI (10 * i))] H Q := by
  obtain ⟨mo, oi, hp, rg, f46, f47⟩ := id R
  obtain ⟨o1, o2, o3, o4, o5⟩ := id oi
  have MH' := mo.1.2.2.2.M hM
  have k8 := MH'.1
  have a292 := MH'.a292
  obtain ⟨r1, r2, r3, r4⟩ := MH'.row
  obtain ⟨n1, n2, n3, n4⟩ := nw_g H (nwF (hja H 292) s.1 s.2.1 s.2.2.1)
  have E := ME_nw (f := hja H 292) (dn := s.2.1) (lt := s.2.2.1) hp (by omega) o4
  have R' : RIm h p M (nwH H (nwF (hja H 292) s.1 s.2.1 s.2.2.1)) s := ⟨mo.trans n1, oi, by rw [n2]; exact hp, RgM_c (by rw [n4, up1_n _ _ (by omega)]) n2 rg, by rw [n4, up1_n _ _ (by omega)]; exact f46, by rw [n4, up1_n _ _ (by omega)]; exact f47⟩
  have f49 : hfi (nwH H (nwF (hja H 292) s.1 s.2.1 s.2.2.1)) 273 49 = nI 0 := by rw [n4, up1_s]
  have Y := fun lm => m_run54 d i M nc hi hMM hnc hM h20 fo rn cv hc X R' f49 E Q lm K
  clear R' E n1 n2 n3 n4 f49
  unfold nwH nwF at Y
  rw [← hp, ← f46, ← f47] at Y
  rw [E_Mo_run]
  simp (disch := omega) only [UC_Mo_run_54 (cm _), SA, SB, SC1, SC2, SG, SK, SV, k8, a292, r1, r2, r3, r4, up1_s, nI_clamp, in_eq, Nat.reduceLeDiff, true_or, or_true, true_implies, not_true_eq_false, not_false_eq_true, false_implies, true_and, and_true]
  exact Y _
