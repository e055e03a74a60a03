/-! ===== calls: what is told of the latest call ===== -/
theorem xr_g (h : MH) (v : Int32) (i : Nat) : hia (xrH h v i) 244 = up1 (hia h 244) i (hia h 244 i + nI 1) ∧ hia (xrH h v i) 274 = hia h 274 ∧ hfi (xrH h v i) 24 = up1 (hfi h 24) 13 v ∧ (∀ a, a ≠ 24 → hfi (xrH h v i) a = hfi h a) ∧ (∀ a, a ≠ 244 → hia (xrH h v i) a = hia h a) := by
  have n : ∀ a, a ≠ 244 → hia (xrH h v i) a = hia h a := fun a ha => by unfold xrH; exact hia_n _ _ ha
  refine ⟨by unfold xrH; exact hia_s _ _ _, n 274 (by omega), ?_, fun a ha => ?_, n⟩
  · have z := hfi_s h 24 (up1 (hfi h 24) 13 v); exact z
  · have z := hfi_nn h (a := 24) (up1 (hfi h 24) 13 v) ha; exact z
theorem tn_f (h : MH) (v : Int32) (i : Nat) : ∀ a, a ≠ 273 → hfi (tnH h v i) a = hfi h a := fun a ha => by
  have z := hfi_nn h (a := 273) (up1 (hfi h 273) 1 v) ha; exact z
theorem tp_f (h : MH) : ∀ a, a ≠ 273 → hfi (tpH h) a = hfi h a := fun a ha => by
  have z := hfi_nn h (a := 273) (up1 (hfi h 273) 1 (nI 0)) ha; exact z
theorem xw_g (h : MH) : hia (xwH h) = hia h ∧ hfi (xwH h) 24 = up1 (hfi h 24) 13 (nI 0) ∧ (∀ a, a ≠ 24 → hfi (xwH h) a = hfi h a) := ⟨rfl, by unfold xwH; exact hfi_s _ _ _, fun a ha => by unfold xwH; exact hfi_nn _ _ ha⟩
theorem KQ_xr (h : MH) (v : Int32) (i : Nat) : KQ h (xrH h v i) := by
  obtain ⟨x1, x2, x3, x4, x5⟩ := xr_g h v i
  exact ⟨⟨rfl, rfl, rfl, SHE.refl h⟩, fun a _ _ _ _ _ ha => x4 a ha, ⟨by rw [x4 214 (by omega)], by rw [x3, up1_n _ _ (by omega)], by rw [x3, up1_n _ _ (by omega)]⟩, fun k hk => by rw [x4 273 (by omega)], fun a _ ha _ => x5 a ha, fun _ _ => rfl, fun x _ => by rw [x5 278 (by omega)]⟩
theorem KQ_xw (h : MH) : KQ h (xwH h) := by
  obtain ⟨x1, x3, x4⟩ := xw_g h
  exact ⟨⟨rfl, rfl, rfl, SHE.refl h⟩, fun a _ _ _ _ _ ha => x4 a ha, ⟨by rw [x4 214 (by omega)], by rw [x3, up1_n _ _ (by omega)], by rw [x3, up1_n _ _ (by omega)]⟩, fun k hk => by rw [x4 273 (by omega)], fun a _ _ _ => by rw [x1], fun _ _ => rfl, fun x _ => by rw [x1]⟩
theorem KQ_tn (h : MH) (v : Int32) (i : Nat) : KQ h (tnH h v i) := by
  obtain ⟨t1, t2, t3⟩ := tn_g h v i
  have f := tn_f h v i
  exact ⟨⟨rfl, rfl, rfl, SHE.refl h⟩, fun a ha _ _ _ _ _ => f a ha, ⟨by rw [f 214 (by omega)], by rw [f 24 (by omega)], by rw [f 24 (by omega)]⟩, fun k hk => by rw [t1, up1_n _ _ (by omega)], fun a _ _ ha => t3 a ha, fun _ _ => rfl, fun x _ => by rw [t3 278 (by omega)]⟩
theorem KQ_tp (h : MH) : KQ h (tpH h) := by
  obtain ⟨t1, t2⟩ := tp_g h
  have f := tp_f h
  exact ⟨⟨rfl, rfl, rfl, SHE.refl h⟩, fun a ha _ _ _ _ _ => f a ha, ⟨by rw [f 214 (by omega)], by rw [f 24 (by omega)], by rw [f 24 (by omega)]⟩, fun k hk => by rw [t1, up1_n _ _ (by omega)], fun a _ _ _ => by rw [t2], fun _ _ => rfl, fun x _ => by rw [t2]⟩
theorem KP.c {h h' : MH} (x : KP h h') : hia h' 244 = hia h 244 ∧ hia h' 274 = hia h 274 ∧ hfi h' 24 = hfi h 24 ∧ hfi h' 213 6 = hfi h 213 6 ∧ hfi h' 273 1 = hfi h 273 1 ∧ hfi h' 273 11 = hfi h 273 11 ∧ hfi h' 273 48 = hfi h 273 48 ∧ hfi h' 273 18 = hfi h 273 18 ∧ hfi h' 273 20 = hfi h 273 20 := ⟨x.2.2.2.2.1 244 (scr_n (by omega)), x.2.2.2.2.1 274 (scr_n (by omega)), x.2.1 24 (by omega) (by omega) (by omega) (by omega) (by omega), x.2.2.1.1, x.2.2.2.1 1 (by omega), x.2.2.2.1 11 (by omega), x.2.2.2.1 48 (by omega), x.2.2.2.1 18 (by omega), x.2.2.2.1 20 (by omega)⟩
/-- refused by both -/
theorem GI_refused {h ha hc : MH} (k : Nat) (hk : k = 1 ∨ k = 2 ∨ k = 3 ∨ k = 5 ∨ k = 6) (g : GI h) (a : KP h ha) (c : KP (xrH ha (rfV k) (rfX k)) hc) : GI (tnH hc (rfV k) k) := by
  refine GI_kq (((a.Q.trans (KQ_xr ha _ _)).trans c.Q).trans (KQ_tn hc _ _)) ?_ g
  obtain ⟨-, -, -, -, -, -, ⟨⟨c1, c2, c3, c4, c5⟩, c6, c7, c8, c9, c10⟩, -⟩ := g
  obtain ⟨a1, a2, a3, a4, a5, a6, a7, a8, a9⟩ := a.c
  obtain ⟨e1, e2, e3, e4, e5, e6, e7, e8, e9⟩ := c.c
  obtain ⟨x1, x2, x3, x4, x5⟩ := xr_g ha (rfV k) (rfX k)
  obtain ⟨t1, t2, t3⟩ := tn_g hc (rfV k) k
  have f := tn_f hc (rfV k) k
  have i244 : hia (tnH hc (rfV k) k) 244 = up1 (hia h 244) (rfX k) (hia h 244 (rfX k) + nI 1) := by rw [t3 244 (by omega), e1, x1, a1]
  have i274 : hia (tnH hc (rfV k) k) 274 = up1 (hia h 274) k (hia h 274 k + nI 1) := by rw [t2, e2, x2, a2]
  have q : ∀ n, n ≠ 1 → hfi (tnH hc (rfV k) k) 273 n = hfi hc 273 n := fun n hn => by rw [t1, up1_n _ _ hn]
  have y : ∀ n, n ≠ 13 → hfi (tnH hc (rfV k) k) 24 n = hfi h 24 n := fun n hn => by rw [f 24 (by omega), e3, x3, up1_n _ _ hn, a3]
  refine ⟨?_, by rw [f 24 (by omega), e3, x3, t1, up1_s, up1_s], by rw [y 14 (by omega), q 11 (by omega), e6, x4 273 (by omega), a6]; exact c7, by rw [y 15 (by omega), q 48 (by omega), e7, x4 273 (by omega), a7]; exact c8, by rw [f 213 (by omega), e4, x4 213 (by omega), a4, q 18 (by omega), e8, x4 273 (by omega), a8]; exact c9, by rw [q 20 (by omega), e9, x4 273 (by omega), a9]; exact c10⟩
  rw [i244, i274]
  rcases hk with rfl | rfl | rfl | rfl | rfl <;> refine ⟨?_, ?_, ?_, ?_, ?_⟩ <;> (simp only [rfX, Nat.reduceLT, if_true, if_false, Nat.reduceSub]) <;> simp (disch := omega) only [up1_s, up1_n, c1, c2, c3, c4, c5]
theorem CtV_went {h ha hc : MH} (c : CtV h) (a : hia ha 244 = hia h 244 ∧ hia ha 274 = hia h 274 ∧ (hfi ha 24 14 = hfi h 24 14 ∧ hfi ha 24 15 = hfi h 24 15) ∧ hfi ha 213 6 = hfi h 213 6 ∧ hfi ha 273 11 = hfi h 273 11 ∧ hfi ha 273 48 = hfi h 273 48 ∧ hfi ha 273 18 = hfi h 273 18 ∧ hfi ha 273 20 = hfi h 273 20) (e : hia hc 244 = hia (xwH ha) 244 ∧ hia hc 274 = hia (xwH ha) 274 ∧ hfi hc 24 = hfi (xwH ha) 24 ∧ hfi hc 213 6 = hfi (xwH ha) 213 6 ∧ hfi hc 273 11 = hfi (xwH ha) 273 11 ∧ hfi hc 273 48 = hfi (xwH ha) 273 48 ∧ hfi hc 273 18 = hfi (xwH ha) 273 18 ∧ hfi hc 273 20 = hfi (xwH ha) 273 20) : CtV (tpH hc) := by
  obtain ⟨c1, c6, c7, c8, c9, c10⟩ := c
  obtain ⟨a1, a2, a3, a4, a6, a7, a8, a9⟩ := a
  obtain ⟨e1, e2, e3, e4, e6, e7, e8, e9⟩ := e
  obtain ⟨x1, x3, x4⟩ := xw_g ha
  obtain ⟨t1, t2⟩ := tp_g hc
  have f := tp_f hc
  have q : ∀ n, n ≠ 1 → hfi (tpH hc) 273 n = hfi hc 273 n := fun n hn => by rw [t1, up1_n _ _ hn]
  refine ⟨by rw [t2, e1, e2, x1, a1, a2]; exact c1, by rw [f 24 (by omega), e3, x3, t1, up1_s, up1_s], by rw [f 24 (by omega), e3, x3, up1_n _ _ (by omega), a3.1, q 11 (by omega), e6, x4 273 (by omega), a6]; exact c7, by rw [f 24 (by omega), e3, x3, up1_n _ _ (by omega), a3.2, q 48 (by omega), e7, x4 273 (by omega), a7]; exact c8, by rw [f 213 (by omega), e4, x4 213 (by omega), a4, q 18 (by omega), e8, x4 273 (by omega), a8]; exact c9, by rw [q 20 (by omega), e9, x4 273 (by omega), a9]; exact c10⟩
theorem op_status : PairOp 1 112 250 [] := fun d h g => by
  have k7 := g.1.1.1
  have k8 := g.2.1.1.1
  have e := g.2.2.2.2.2.2.1.2.1
  rw [E_Di_status]
  simp (disch := omega) only [U_Di_status (cm _), SA, SB, SC1, SC2, SG, SK, SV, k7, true_and]
  refine ⟨_, rfl, ?_⟩
  rw [E_Mo_status]
  simp (disch := omega) only [U_Mo_status (cm _), SA, SB, SC1, SC2, SG, SK, SV, up1_s, up1_n, k8, true_and]
  exact ⟨by rw [e], Pst_e (GI_kp (KP_th h) g) (KP_th h).E⟩
theorem op_fault : PairOp 1 89 171 [] := fun d h g => by
  have so := g.1.1
  have sr := g.1.2.1
  unfold XSo at so
  unfold XSr at sr
  have k8 := g.2.1.1.1
  have e := g.2.2.2.2.2.2.1.2.2.2.2.1
  rw [E_Di_fault]
  simp (disch := omega) only [U_Di_fault (cm _), SA, SB, SC1, SC2, SG, SK, SV, so, sr, true_and]
  refine ⟨_, rfl, ?_⟩
  rw [E_Mo_fault]
  simp (disch := omega) only [U_Mo_fault (cm _), SA, SB, SC1, SC2, SG, SK, SV, up1_s, up1_n, k8, true_and]
  exact ⟨by rw [e], Pst_e (GI_kp (KP_th h) g) (KP_th h).E⟩
theorem op_stopped : PairOp 1 90 243 [] := fun d h g => by
  have k7 := g.1.1.1
  have k8 := g.2.1.1.1
  have e := g.2.2.2.2.2.2.1.2.2.2.1
  rw [E_Di_stopped]
  simp (disch := omega) only [U_Di_stopped (cm _), SA, SB, SC1, SC2, SG, SK, SV, k7, true_and]
  refine ⟨_, rfl, ?_⟩
  rw [E_Mo_stopped]
  simp (disch := omega) only [U_Mo_stopped (cm _), SA, SB, SC1, SC2, SG, SK, SV, up1_s, up1_n, k8, true_and]
  exact ⟨by rw [e], Pst_e (GI_kp (KP_th h) g) (KP_th h).E⟩
theorem op_blots : PairOp 1 86 159 [] := fun d h g => by
  have k7 := g.1.1.1
  have k8 := g.2.1.1.1
  have e := g.2.2.2.2.2.2.1.2.2.1
  rw [E_Di_blots]
  simp (disch := omega) only [U_Di_blots (cm _), SA, SB, SC1, SC2, SG, SK, SV, k7, true_and]
  refine ⟨_, rfl, ?_⟩
  rw [E_Mo_blots]
  simp (disch := omega) only [U_Mo_blots (cm _), SA, SB, SC1, SC2, SG, SK, SV, up1_s, up1_n, k8, true_and]
  exact ⟨by rw [e], Pst_e (GI_kp (KP_th h) g) (KP_th h).E⟩
