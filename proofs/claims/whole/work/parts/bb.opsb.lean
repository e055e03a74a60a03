/-! ===== drawn, path ===== -/
theorem rgI_n {n m : Nat} (h : n ≤ m) (hm : m < 2 ^ 31) : rgI (nI n) m := ⟨by rw [leI (by omega) (by omega)]; omega, by rw [leI (by omega) (by omega)]; exact h⟩
def drV (h : MH) (r w : Nat) : Int32 := hia h 299 (3 * r + w)
theorem x_drawnN (d : Nat) (r w : Int32) {b : Nat} (hb : b ≤ 1) {h : MH} (s : XS h) (e8 : hfi h 24 8 = nI b) (hn : ¬ (b = 1 ∧ rgI r 6 ∧ rgI w 2)) (Q : RT) : callD (d + 2) 108 [.ref 24, .int r, .int w] h Q = Q (some (.int (-1))) h := by
  have so := s.1
  unfold XSo at so
  have IR := fun h Q => xd_isRouter d r h Q
  rw [E_Di_drawn]
  rcases (show b = 0 ∨ b = 1 by omega) with rfl | rfl
  · simp (disch := omega) only [U_Di_drawn (cm _), SA, SB, SC1, SC2, SG, SK, SV, so, e8, eqI, Nat.one_ne_zero, true_implies, not_true_eq_false, not_false_eq_true, false_implies, true_and, and_true]
  · by_cases c1 : isR r
    · rw [b01_t c1] at IR
      have c2 : ¬ rgI w 2 := fun z => hn ⟨rfl, c1, z⟩
      simp (disch := omega) only [U_Di_drawn (cm _), SA, SB, SC1, SC2, SG, SK, SV, so, e8, IR, eqI, Nat.one_ne_zero, true_implies, not_true_eq_false, not_false_eq_true, false_implies, true_and, and_true]
      rw [tsw_miss (by
        rcases rg_no (by omega) c2 with z | ⟨z1, z2⟩
        · left
          rw [Int32.lt_iff_toInt_lt] at z; exact z
        · right
          rw [Int32.le_iff_toInt_le, nI_toInt (by omega)] at z2; exact z2)]
    · rw [b01_f c1] at IR
      simp (disch := omega) only [U_Di_drawn (cm _), SA, SB, SC1, SC2, SG, SK, SV, so, e8, IR, eqI, Nat.one_ne_zero, true_implies, not_true_eq_false, not_false_eq_true, false_implies, true_and, and_true]
theorem x_drawn (d r w : Nat) (hr : r < 7) (hw : w ≤ 2) {h : MH} {q : RW} (s : XS h) (e8 : hfi h 24 8 = nI 1) (V : NeV h 231 q) (D : hia h 299 (3 * r) = gR q r 0 ∧ hia h 299 (3 * r + 1) = gR q r 3 ∧ hia h 299 (3 * r + 2) = gR q r 2) (Q : RT) : callD (d + 2) 108 [.ref 24, .int (nI r), .int (nI w)] h Q = Q (some (.int (drV h r w))) h := by
  have so := s.1
  unfold XSo at so
  obtain ⟨sh, -⟩ := (s.2.2.2.2.2.1.2.2.1).all
  simp only [Nat.reduceAdd] at sh
  obtain ⟨v1, v2, v3, v4, v5, v6, v7, v8, v9, v10, v11, v12, v13⟩ := V
  obtain ⟨-, -, -, va⟩ := v11
  have IR := fun h Q => xd_isRouter d (nI r) h Q
  have ir : b01 (isR (nI r)) = nI 1 := b01_t (rgI_n (by omega) (by omega))
  have EB := fun x h Q => e_bit d x r h Q
  have a4 := v4 r hr
  have a6 := v6 r hr
  have b3 := va r hr
  simp only [Nat.reduceAdd] at a4 a6
  unfold drV
  rw [E_Di_drawn]
  rcases (show w = 0 ∨ w = 1 ∨ w = 2 by omega) with rfl | rfl | rfl
  · rw [show 3 * r + 0 = 3 * r from rfl, D.1]
    simp (disch := omega) only [U_Di_drawn (cm _), SA, SB, SC1, SC2, SG, SK, SV, so, e8, IR, ir, eqI, Nat.one_ne_zero, true_implies, not_true_eq_false, not_false_eq_true, false_implies, true_and, and_true]
    rw [tsw_hit 0 (by decide) (by decide)]
    simp (disch := omega) only [List.getD_cons_zero, List.getD_cons_succ, U_Di_drawn (cm _), SA, SB, SC1, SC2, SG, SK, SV, so, sh, a4, nI_clamp, in_eq, Nat.reduceLeDiff, true_implies, not_true_eq_false, not_false_eq_true, false_implies, true_and, and_true]
  · rw [D.2.1]
    simp (disch := omega) only [U_Di_drawn (cm _), SA, SB, SC1, SC2, SG, SK, SV, so, e8, IR, ir, eqI, Nat.one_ne_zero, true_implies, not_true_eq_false, not_false_eq_true, false_implies, true_and, and_true]
    rw [tsw_hit 1 (by decide) (by decide)]
    simp (disch := omega) only [List.getD_cons_zero, List.getD_cons_succ, U_Di_drawn (cm _), SA, SB, SC1, SC2, SG, SK, SV, so, sh, EB, b3, nI_clamp, in_eq, Nat.reduceLeDiff, true_implies, not_true_eq_false, not_false_eq_true, false_implies, true_and, and_true]
  · rw [D.2.2]
    simp (disch := omega) only [U_Di_drawn (cm _), SA, SB, SC1, SC2, SG, SK, SV, so, e8, IR, ir, eqI, Nat.one_ne_zero, true_implies, not_true_eq_false, not_false_eq_true, false_implies, true_and, and_true]
    rw [tsw_hit 2 (by decide) (by decide)]
    simp (disch := omega) only [List.getD_cons_zero, List.getD_cons_succ, U_Di_drawn (cm _), SA, SB, SC1, SC2, SG, SK, SV, so, sh, a6, nI_clamp, in_eq, Nat.reduceLeDiff, true_implies, not_true_eq_false, not_false_eq_true, false_implies, true_and, and_true]
theorem MoS.drw {h : MH} (hM : MoS h) : hkd h 273 = 8 ∧ hfr h 273 51 = some 299 ∧ hkd h 299 = 20 ∧ hln h 299 = 21 := by
  obtain ⟨a, -, -, -, -, -, -, -, -, -, -, -, -, -, -, -, -, -, -, -, -, -, -, -, -, -, ⟨b1, b2, b3⟩⟩ := hM
  exact ⟨a, b1, b2, b3⟩
theorem m_drawn (d : Nat) (r w : Int32) {b : Nat} (hb : b ≤ 1) {h : MH} (hM : MoS h) (e52 : hfi h 273 52 = nI b) (Q : RT) : callD (d + 3) 246 [.ref 273, .int r, .int w] h Q = Q (some (.int (if b = 1 ∧ rgI r 6 ∧ rgI w 2 then drV h (nn r) (nn w) else -1))) (thH h) := by
  obtain ⟨hM2, ei2, ef2, kp⟩ := thM hM
  have k8 := hM.1
  have e52' := (ef2 52 (by omega)).trans e52
  generalize hh : thH h = h2 at *
  unfold thH at hh
  obtain ⟨k82, r2, r3, r4⟩ := hM2.drw
  have IR := fun h Q => e_isRouter d r h Q
  have IN := fun h Q => e_in (d + 1) w.toInt64 (lN 0) (lN 2) h Q
  have qw := i2l_r w 2 (by omega)
  rw [E_Mo_drawn]
  rcases (show b = 0 ∨ b = 1 by omega) with rfl | rfl
  · rw [if_neg (fun z => by omega)]
    simp (disch := omega) only [U_Mo_drawn (cm _), SA, SB, SC1, SC2, SG, SK, SV, hh, k8, k82, e52', eqI, Nat.one_ne_zero, true_implies, not_true_eq_false, not_false_eq_true, false_implies, true_and, and_true]
  · by_cases c1 : isR r
    · by_cases c2 : rgI w 2
      · rw [if_pos ⟨rfl, c1, c2⟩]
        obtain ⟨r', hr, rfl⟩ := rg_n (by omega) c1
        obtain ⟨w', hw, rfl⟩ := rg_n (by omega) c2
        rw [b01_t c1] at IR
        rw [b01_t (show lN 0 ≤ (nI w').toInt64 ∧ (nI w').toInt64 ≤ lN 2 by rw [qw]; exact c2)] at IN
        unfold drV
        rw [nn_n (by omega), nn_n (by omega), ← ei2]
        simp (disch := omega) only [U_Mo_drawn (cm _), SA, SB, SC1, SC2, SG, SK, SV, hh, k8, k82, r2, r3, r4, e52', IR, IN, pk_mul, nI_add, nI_clamp, in_eq, Nat.reduceLeDiff, eqI, Nat.one_ne_zero, true_implies, not_true_eq_false, not_false_eq_true, false_implies, true_and, and_true]
      · rw [if_neg (fun z => c2 z.2.2)]
        rw [b01_t c1] at IR
        rw [b01_f (show ¬ (lN 0 ≤ w.toInt64 ∧ w.toInt64 ≤ lN 2) by rw [qw]; exact c2)] at IN
        simp (disch := omega) only [U_Mo_drawn (cm _), SA, SB, SC1, SC2, SG, SK, SV, hh, k8, k82, e52', IR, IN, eqI, Nat.one_ne_zero, true_implies, not_true_eq_false, not_false_eq_true, false_implies, true_and, and_true]
    · rw [if_neg (fun z => c1 z.2.1)]
      rw [b01_f c1] at IR
      simp (disch := omega) only [U_Mo_drawn (cm _), SA, SB, SC1, SC2, SG, SK, SV, hh, k8, k82, e52', IR, eqI, Nat.one_ne_zero, true_implies, not_true_eq_false, not_false_eq_true, false_implies, true_and, and_true]
theorem op_drawn (r w : Int32) : PairOp 3 108 246 [.int r, .int w] := PairQ (fun d h g => by
  obtain ⟨-, b, b1, b2, b3, b4⟩ := g.2.2.2.2.2.2.2.2
  have M := fun Q => m_drawn d r w b1 g.2.1.1 b3 Q
  by_cases c : b = 1 ∧ rgI r 6 ∧ rgI w 2
  · rw [if_pos c] at M
    obtain ⟨r', hr, rfl⟩ := rg_n (by omega) c.2.1
    obtain ⟨w', hw, rfl⟩ := rg_n (by omega) c.2.2
    rw [nn_n (by omega), nn_n (by omega)] at M
    obtain ⟨q, q1, q2, q3⟩ := b4 c.1
    exact ⟨_, fun Q => x_drawn (d + 1) r' w' (by omega) hw g.1 (by rw [b2, c.1]) q1 (q3 r' (by omega)) Q, M⟩
  · rw [if_neg c] at M
    exact ⟨_, fun Q => x_drawnN (d + 1) r w b1 g.1 b2 c Q, M⟩)
/-- m steps along the successors -/
def pth (p : RW) : Nat → Int32 → Int32
  | 0, x => x
  | m + 1, x => if x = -1 then x else pth p m (gR p (nn x) 2)
theorem x_l_path (d i : Nat) (r : Int32) (hi : i ≤ 7) {h : MH} {p : RW} (s : XS h) (V : NeV h 26 p) (hs : ∀ s, s < 7 → SU (gR p s 2)) (Q : RT) (lm : Nat × Nat) : ∀ (m k : Nat) (x : Int32), k + m = i → SU x → WP cd_Di_path (callD d) Q lm 24 [] [some (.ref 24), some (.int r), some (.int (nI i)), some (.int x), some (.int (nI k))] h = Q (some (.int (pth p m x))) h
  | 0, k, x, e, hx => by
    rw [U_Di_path_24 (cm _)]
    simp (disch := omega) only [U_Di_path (cm _), SA, SB, SG, SV, leI, show i ≤ k by omega, true_implies, not_true_eq_false, not_false_eq_true, false_implies, true_and, and_true]
    rfl
  | m + 1, k, x, e, hx => by
    have so := s.1
    unfold XSo at so
    have sw := WoS_25 s
    unfold WoS at sw
    simp only [Nat.reduceAdd] at sw
    obtain ⟨sh, -⟩ := (s.2.2.2.2.2.1.1).all
    simp only [Nat.reduceAdd] at sh
    rw [U_Di_path_24 (cm _)]
    by_cases c : x = -1
    · subst c
      simp (disch := omega) only [U_Di_path (cm _), SA, SB, SG, SV, leI, show ¬ i ≤ k by omega, true_implies, not_true_eq_false, not_false_eq_true, false_implies, true_and, and_true]
      rfl
    · obtain ⟨o, ho, rfl⟩ := hx.resolve_left c
      have ih := x_l_path d i r hi s V hs Q lm m (k + 1) (gR p o 2) (by omega) (hs o ho)
      have a6 := V.2.2.2.2.2.1 o ho
      simp only [Nat.reduceAdd] at a6
      show _ = Q (some (.int (if nI o = -1 then nI o else pth p m (gR p (nn (nI o)) 2)))) h
      rw [if_neg c, nn_n (by omega), ← ih]
      simp (disch := omega) only [U_Di_path (cm _), SA, SB, SC1, SC2, SG, SV, so, sw, sh, a6, c, leI, show ¬ i ≤ k by omega, nI_add, nI_clamp, in_eq, Nat.reduceLeDiff, true_implies, not_true_eq_false, not_false_eq_true, false_implies, true_and, and_true]
theorem m_behind (d o : Nat) (ho : o < 7) {h : MH} (hM : MoS h) (Q : RT) : callD (d + 2) 219 [.ref 273, .int (nI o)] h Q = Q (some (.int (gR (hia h 275) o 2))) h := by
  obtain ⟨k8, r2, r3, r4⟩ := hM.row
  have RA := fun h Q => e_routerAt d o (by omega) h Q
  rw [E_Mo_behind]
  unfold gR
  simp (disch := omega) only [U_Mo_behind (cm _), SA, SB, SC1, SC2, SG, SK, SV, k8, r2, r3, r4, RA, nI_add, nI_clamp, in_eq, Nat.reduceLeDiff, true_implies, not_true_eq_false, not_false_eq_true, false_implies, true_and, and_true]
theorem m_l_path (d i : Nat) (r : Int32) (hi : i ≤ 7) {h : MH} {p : RW} (hM : MoS h) (hp : hia h 275 = p) (hs : ∀ s, s < 7 → SU (gR p s 2)) (Q : RT) (lm : Nat × Nat) : ∀ (m k : Nat) (x : Int32), k + m = i → SU x → WP cd_Mo_path (callD (d + 2)) Q lm 31 [] [some (.ref 273), some (.int r), some (.int (nI i)), some (.int x), some (.int (nI k))] h = Q (some (.int (pth p m x))) h
  | 0, k, x, e, hx => by
    rw [U_Mo_path_31 (cm _)]
    simp (disch := omega) only [U_Mo_path (cm _), SA, SB, SG, SV, leI, show i ≤ k by omega, true_implies, not_true_eq_false, not_false_eq_true, false_implies, true_and, and_true]
    rfl
  | m + 1, k, x, e, hx => by
    have k8 := hM.1
    rw [U_Mo_path_31 (cm _)]
    by_cases c : x = -1
    · subst c
      simp (disch := omega) only [U_Mo_path (cm _), SA, SB, SG, SV, leI, show ¬ i ≤ k by omega, true_implies, not_true_eq_false, not_false_eq_true, false_implies, true_and, and_true]
      rfl
    · obtain ⟨o, ho, rfl⟩ := hx.resolve_left c
      have ih := m_l_path d i r hi hM hp hs Q lm m (k + 1) (gR p o 2) (by omega) (hs o ho)
      have B := fun Q => m_behind d o ho hM Q
      rw [hp] at B
      show _ = Q (some (.int (if nI o = -1 then nI o else pth p m (gR p (nn (nI o)) 2)))) h
      rw [if_neg c, nn_n (by omega), ← ih]
      simp (disch := omega) only [U_Mo_path (cm _), SA, SB, SC1, SC2, SG, SV, k8, B, c, leI, show ¬ i ≤ k by omega, nI_add, true_implies, not_true_eq_false, not_false_eq_true, false_implies, true_and, and_true]
theorem op_path (r i : Int32) : PairOp 3 96 220 [.int r, .int i] := PairQ (fun d h g => by
  obtain ⟨V, iv, -⟩ := g.2.2.2.1
  have hs : ∀ s, s < 7 → SU (gR (hia h 275) s 2) := fun s h7 => (iv.1.1.2.2 s h7).2.1
  obtain ⟨hM2, ei2, ef2, kp⟩ := thM g.2.1.1
  have k8 := g.2.1.1.1
  generalize hh : thH h = h2 at *
  unfold thH at hh
  have IX := fun h Q => xd_isRouter (d + 1) r h Q
  have IM := fun h Q => e_isRouter d r h Q
  have IN := fun h Q => e_in (d + 1) i.toInt64 (lN 0) (lN 7) h Q
  have qi := i2l_r i 7 (by omega)
  by_cases c1 : isR r
  · by_cases c2 : rgI i 7
    · obtain ⟨r', hr, rfl⟩ := rg_n (by omega) c1
      obtain ⟨i', hi, rfl⟩ := rg_n (by omega) c2
      rw [b01_t c1] at IX IM
      rw [b01_t (show lN 0 ≤ (nI i').toInt64 ∧ (nI i').toInt64 ≤ lN 7 by rw [qi]; exact c2)] at IN
      refine ⟨.int (pth (hia h 275) i' (nI r')), fun Q => ?_, fun Q => ?_⟩
      · have L := fun lm => x_l_path (d + 2) i' (nI r') hi g.1 V hs Q lm i' 0 (nI r') (by omega) (Or.inr ⟨r', by omega, rfl⟩)
        rw [E_Di_path]
        simp (disch := omega) only [U_Di_path (cm _), SA, SB, SC1, SC2, SG, SK, SV, IX, L, ltI, leI, hi, Nat.not_lt_zero, eqI, Nat.one_ne_zero, true_implies, not_true_eq_false, not_false_eq_true, false_implies, true_and, and_true]
      · have L := fun lm => m_l_path d i' (nI r') hi hM2 (by rw [ei2]) hs Q lm i' 0 (nI r') (by omega) (Or.inr ⟨r', by omega, rfl⟩)
        rw [E_Mo_path]
        simp (disch := omega) only [U_Mo_path (cm _), SA, SB, SC1, SC2, SG, SK, SV, hh, k8, IM, IN, L, eqI, Nat.one_ne_zero, true_implies, not_true_eq_false, not_false_eq_true, false_implies, true_and, and_true]
    · rw [b01_t c1] at IX IM
      rw [b01_f (show ¬ (lN 0 ≤ i.toInt64 ∧ i.toInt64 ≤ lN 7) by rw [qi]; exact c2)] at IN
      refine ⟨.int (-1), fun Q => ?_, fun Q => ?_⟩
      · rw [E_Di_path]
        rcases rg_no (by omega) c2 with z | ⟨z1, z2⟩
        · simp (disch := omega) only [U_Di_path (cm _), SA, SB, SC1, SC2, SG, SK, SV, IX, z, eqI, Nat.one_ne_zero, true_implies, not_true_eq_false, not_false_eq_true, false_implies, true_and, and_true]
        · have z3 : ¬ i ≤ nI 7 := fun y => c2 ⟨Int32.not_lt.mp z1, y⟩
          simp (disch := omega) only [U_Di_path (cm _), SA, SB, SC1, SC2, SG, SK, SV, IX, z1, z3, eqI, Nat.one_ne_zero, true_implies, not_true_eq_false, not_false_eq_true, false_implies, true_and, and_true]
      · rw [E_Mo_path]
        simp (disch := omega) only [U_Mo_path (cm _), SA, SB, SC1, SC2, SG, SK, SV, hh, k8, IM, IN, eqI, Nat.one_ne_zero, true_implies, not_true_eq_false, not_false_eq_true, false_implies, true_and, and_true]
  · rw [b01_f c1] at IX IM
    refine ⟨.int (-1), fun Q => ?_, fun Q => ?_⟩
    · rw [E_Di_path]
      simp (disch := omega) only [U_Di_path (cm _), SA, SB, SC1, SC2, SG, SK, SV, IX, eqI, Nat.one_ne_zero, true_implies, not_true_eq_false, not_false_eq_true, false_implies, true_and, and_true]
    · rw [E_Mo_path]
      simp (disch := omega) only [U_Mo_path (cm _), SA, SB, SC1, SC2, SG, SK, SV, hh, k8, IM, eqI, Nat.one_ne_zero, true_implies, not_true_eq_false, not_false_eq_true, false_implies, true_and, and_true])
