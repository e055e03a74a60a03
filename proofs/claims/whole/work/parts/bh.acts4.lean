/-! ===== link, step, cut ===== -/
theorem cc_ref {a b a' b' : Nat → Int32} {k : Nat} (hk : k = 1 ∨ k = 2 ∨ k = 3 ∨ k = 5 ∨ k = 6) (ha : a' = up1 a (rfX k) (a (rfX k) + nI 1)) (hb : b' = up1 b k (b k + nI 1)) (c : a 0 = b 1 ∧ a 1 = b 2 ∧ a 2 = b 3 ∧ a 3 = b 5 ∧ a 4 = b 6) : a' 0 = b' 1 ∧ a' 1 = b' 2 ∧ a' 2 = b' 3 ∧ a' 3 = b' 5 ∧ a' 4 = b' 6 := by
  obtain ⟨c1, c2, c3, c4, c5⟩ := c
  rw [ha, hb]
  rcases hk with rfl | rfl | rfl | rfl | rfl <;> refine ⟨?_, ?_, ?_, ?_, ?_⟩ <;> (simp only [rfX, Nat.reduceLT, if_true, if_false, Nat.reduceSub]) <;> simp (disch := omega) only [up1_s, up1_n, c1, c2, c3, c4, c5]
theorem x_answR (d k : Nat) (hk : k = 1 ∨ k = 2 ∨ k = 3 ∨ k = 5 ∨ k = 6) {h : MH} (s : XS h) (Q : RT) : callD (d + 2) 119 [.ref 24, .int (rfV k)] h Q = Q (some (.int (rfV k))) (xrH h (rfV k) (rfX k)) := by
  have k7 := s.1.1
  have R := fun Q => x_refused d k hk s Q
  have z : ¬ nI 0 ≤ rfV k := by rcases hk with rfl | rfl | rfl | rfl | rfl <;> decide
  generalize xrH h (rfV k) (rfX k) = h1 at *
  rw [E_Di_answered]
  simp (disch := omega) only [U_Di_answered (cm _), SA, SB, SC1, SC2, SG, SK, SV, k7, R, z, true_implies, not_true_eq_false, not_false_eq_true, false_implies, true_and, and_true]
theorem x_answW (d m : Nat) (hm : m ≤ 50) {h : MH} (s : XS h) (Q : RT) : callD (d + 2) 119 [.ref 24, .int (nI m)] h Q = Q (some (.int (nI m))) (xwH h) := by
  have k7 := s.1.1
  have W := fun Q => x_went d (nI m) s Q
  have z : nI 0 ≤ nI m := by rw [leI (by omega) (by omega)]; omega
  generalize xwH h = h1 at *
  rw [E_Di_answered]
  simp (disch := omega) only [U_Di_answered (cm _), SA, SB, SC1, SC2, SG, SK, SV, k7, W, z, true_implies, not_true_eq_false, not_false_eq_true, false_implies, true_and, and_true]
/-- behind the program's act: its answer, then the reference's act and its answer -/
theorem act_run {h h1 : MH} {nx n kd : Nat} {p : RW} {Lo : Option LWS} {one other costs : Int32} (hkd3 : kd < 3) (g : GI h) (hp : hia h 275 = p) (iv : IV p) (r : RgV h nx n) (ar : AR 26 nx h h1) (V1 : NeV h1 26 (aAct Lo p kd one other costs).2) (hk : HK h h1 p nx n kd (okA Lo p kd one other costs)) : ∃ (v : Int32) (h2 : MH), (aAct Lo p kd one other costs).1 = v ∧ (∀ d Q, callD (d + 2) 119 [.ref 24, .int v] h1 Q = Q (some (.int v)) h2) ∧ hkd h2 273 = 8 ∧ MSt (thH h2) p (hia (thH h2) 278) (hia (thH h2) 279) n ∧ ∀ h4, MaF (thH h2) h4 p (aAct Lo p kd one other costs).2 n kd (okA Lo p kd one other costs) → hkd h4 273 = 8 ∧ ∃ h5, (∀ d Q, callD (d + 1) 133 [.ref 273, .int v] h4 Q = Q (some (.int v)) h5) ∧ Pst h h5 := by
  have hnx := r.1
  have s1 : XS h1 := XS_e ar.1.2.2.2.1 g.1
  have M1 : MoS h1 := ar.1.2.2.2.1.M g.2.1.1
  have i244 : hia h1 244 = hia h 244 := ar.2.2 244 (by omega) (by omega) (by omega) (by omega) (by omega)
  have i274 : hia h1 274 = hia h 274 := ar.2.2 274 (by omega) (by omega) (by omega) (by omega) (by omega)
  have i275 : hia h1 275 = p := by rw [ar.2.2 275 (by omega) (by omega) (by omega) (by omega) (by omega)]; exact hp
  have f273 : hfi h1 273 = hfi h 273 := ar.2.1 273 (by omega) (by omega) (by omega)
  have aok := aAct_ok (Lo := Lo) (one := one) (other := other) (costs := costs) hkd3 iv
  have ct := g.2.2.2.2.2.2.1
  have mst : ∀ h2 v, X2 h1 h2 v → hkd h2 273 = 8 ∧ MSt (thH h2) p (hia (thH h2) 278) (hia (thH h2) 279) n := fun h2 v x2 => by
    have M2 : MoS h2 := x2.1.2.2.2.M M1
    obtain ⟨hM3, ei, ef, -⟩ := thM M2
    exact ⟨M2.1, hM3, by rw [ei, x2.2.2.2.1 275 (by omega)]; exact i275, rfl, rfl, by rw [ef 8 (by omega), x2.2.1 273 (by omega), f273]; exact r.2.2.2.2.1, r.2.1, by rw [ef 20 (by omega), x2.2.1 273 (by omega), f273]; exact ct.2.2.2.2.2⟩
  rcases act_val (Lo := Lo) (one := one) (other := other) (costs := costs) hkd3 iv with ⟨k, hk3, ev, nk⟩ | ⟨m, hm, ev, ky⟩
  · have hk5 : k = 1 ∨ k = 2 ∨ k = 3 ∨ k = 5 ∨ k = 6 := by omega
    have x2 := X2_r h1 (rfV k) (rfX k)
    have g1 := (xr_g h1 (rfV k) (rfX k)).1
    have AN := fun d Q => x_answR d k hk5 s1 Q
    generalize xrH h1 (rfV k) (rfX k) = h2 at *
    refine ⟨rfV k, h2, ev, AN, (mst h2 _ x2).1, (mst h2 _ x2).2, fun h4 m4 => ?_⟩
    have M4 : MoS h4 := m4.1.2.2.2.M (mst h2 _ x2).2.1
    refine ⟨M4.1, tnH h4 (rfV k) k, fun d Q => m_tellR d k hk5 M4 Q, ?_⟩
    have m5 := M5_r h4 (rfV k) k
    have g2 := (tn_g h4 (rfV k) k).2.1
    have g3 := (tn_g h4 (rfV k) k).2.2 244 (by omega)
    generalize tnH h4 (rfV k) k = h5 at *
    have ei : hia (thH h2) = hia h2 := ia_fi _ _ _
    obtain ⟨y1, y2⟩ := act_fin hkd3 g hp iv aok.1 aok.2 r ar V1 hk x2 rfl m4 m5 (cc_ref hk5 (a := hia h 244) (b := hia h 274) (by rw [g3, m4.2.2.2.1 244 (by omega) (by omega) (by omega), ei, g1, i244]) (by rw [g2, m4.2.2.2.1 274 (by omega) (by omega) (by omega), ei, x2.2.2.2.1 274 (by omega), i274]) ct.1)
    exact Pst_e y1 y2
  · have x2 := X2_w h1
    have g1 := (xw_g h1).1
    have AN := fun d Q => x_answW d m hm s1 Q
    generalize xwH h1 = h2 at *
    refine ⟨nI m, h2, ev, AN, (mst h2 _ x2).1, (mst h2 _ x2).2, fun h4 m4 => ?_⟩
    have M4 : MoS h4 := m4.1.2.2.2.M (mst h2 _ x2).2.1
    refine ⟨M4.1, tpH h4, fun d Q => m_tellP d m (by omega) M4 Q, ?_⟩
    have m5 := M5_w h4
    have g2 := (tp_g h4).2
    generalize tpH h4 = h5 at *
    have ei : hia (thH h2) = hia h2 := ia_fi _ _ _
    obtain ⟨y1, y2⟩ := act_fin hkd3 g hp iv aok.1 aok.2 r ar V1 hk x2 rfl m4 m5 (by rw [g2, m4.2.2.2.1 244 (by omega) (by omega) (by omega), m4.2.2.2.1 274 (by omega) (by omega) (by omega), ei, g1, i244, i274]; exact ct.1)
    exact Pst_e y1 y2
