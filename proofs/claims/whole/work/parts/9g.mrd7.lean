theorem MRF.k8 {h h' : MH} (f : MRF h h') (k : hkd h 273 = 8) : hkd h' 273 = 8 := by rw [f.1.2.2.2.1.1]; exact k
theorem MRF.o20 {h h' : MH} (f : MRF h h') : hfi h' 273 20 = hfi h 273 20 := f.2.2.2.1 20 (by omega) (by omega) (by omega) (by omega) (by omega) (by omega) (by omega) (by omega) (by omega)
theorem MR_bds {h : MH} {T : TP} {om q : Nat} {pl : PLt} {cf : CFt} {nc k op : Nat} (r : MR h T om q pl cf nc k op) : SR (bdH h) pl cf nc := by
  have ef : hfi (bdH h) 273 = up1 (up1 (hfi h 273) 19 (nI 1)) 18 (hfi h 273 14) := hfi_s _ _ _
  exact SR_x r.2.1 (SHE.refl h) (fun _ _ _ => rfl) (by rw [ef, up1_n _ _ (by omega), up1_n _ _ (by omega)]) (by rw [ef, up1_n _ _ (by omega), up1_n _ _ (by omega)])
theorem nI_ne1 {n : Nat} (h : n < 2147483648) : ¬ nI n = (-1 : Int32) := fun z => by
  rw [← iI_n, ← iI_m1, iI_eq (by omega) (by omega)] at z
  omega
theorem m_readPart_n (d q : Nat) {h : MH} {T : TP} {om : Nat} (hom : om = 0 ∨ om = 1) {pl : PLt} {cf : CFt} {nc k op : Nat} (r : MR h T om q pl cf nc k op) (hk : k ≤ 50) (hn : nc + pl.length ≤ q) (c : bG T q 91 = false) (cn : bN T q 0 1000 = true) (Q : RT) (K : StR h T om Q (sPart T om q pl cf nc k op)) : callD (d + 5) 182 [.ref 273] h Q := by
  have S := fun Q => m_isSign (d + 3) q 91 (by omega) r.1 Q
  rw [c, b2_f] at S
  unfold sPart at K
  rw [if_neg (by rw [c]; decide), if_pos cn] at K
  have k8 := r.1.1.1
  have hq := r.1.2.2.1
  have h4 := r.1.2.1.1
  have P0 := fun Q => m_partAt (d + 2) q r.2.1.1 r.2.2.1 r.1 Q
  have P1 := fun Q => m_orderPartAt (d + 2) q r.2.1.1 r.2.2.1 r.1 Q
  have nn := bN_t.mp cn
  have ty : tTy T q = 2 := nn.1
  obtain ⟨a1, a2⟩ := q_adv hq (bN_ty cn)
  have w99 : ∀ o, wAt T o q = 99 := fun o => by
    by_cases z : wAt T o q = 99
    · exact z
    · have := (wAt_ty z).1; omega
  have ep : ∀ o, pA T o q = -1 := fun o => if_pos (w99 o)
  simp only [ep] at P0 P1
  obtain ⟨w1, w2, w3, w4⟩ := wth_num ty
  have h16 := r.1.2.2.2.2.2.2.1
  have h17 := r.1.2.2.2.2.2.2.2
  have n3 : nmV T q ≤ 1000 := nn.2.2
  rw [w1, w4 n3] at h17
  rw [ty] at h16
  have cm1 : (lN 1000 < lN (nmV T q)) = False := eq_false (fun z => absurd ((lN_lt (by omega) (by omega)).mp z) (by omega))
  have z5 : (-1 : Int32) < nI 5 := by decide
  have h20 := r.2.2.2.2.1
  have fin : ∀ h', MRF h h' → Q (some (.int (nI 3))) h' → WP cd_Mo_readPart (callD (d + 4)) Q (hcc h, hcu h) 102 [] [some (.ref 273), some (.int (-1)), some (.int (nI 1)), none] h' := fun h' f y => by
    have k8' := f.k8 k8
    have h20' : hfi h' 273 20 = nI om := f.o20.trans h20
    rcases hom with rfl | rfl <;> simp (disch := omega) only [U_Mo_readPart (cm _), SA, SB, SC1, SC2, SG, SV, k8', h20', z5, eqI, Nat.one_ne_zero, true_implies, not_true_eq_false, not_false_eq_true, false_implies, true_and, and_true] <;> exact y
  have go : callD (d + 4) 181 [.ref 273, .int (nI 1), .int (nI 0), .int (nI (nmV T q))] h (kont (WP cd_Mo_readPart (callD (d + 4)) Q (hcc h, hcu h)) 102 [] [some (.ref 273), some (.int (-1)), some (.int (nI 1)), none]) := by
    refine m_leaf d q true (0, nmV T q) r hk (by omega) _ (fun _ c5 h' f m => ?_) (fun c5 h' f m => ?_)
    · rw [if_neg (by omega)] at K
      simp only [SV]
      exact fin h' f (K h' f m)
    · rw [if_pos (by rcases c5 with z | z; cases z; exact z)] at K
      simp only [SV]
      exact fin h' f (K h' _ f m)
  rw [E_Mo_readPart]
  rcases hom with rfl | rfl
  · simp (disch := omega) only [↓SL, LC, U_Mo_readPart (cm _), SA, SB, SC1, SC2, SG, SV, k8, S, h20, P0, h16, h17, cm1, lN_t32, eqI, Nat.one_ne_zero, true_implies, not_true_eq_false, not_false_eq_true, false_implies, true_and, and_true]
    exact go
  · simp (disch := omega) only [↓SL, LC, U_Mo_readPart (cm _), SA, SB, SC1, SC2, SG, SV, k8, S, h20, P1, h16, h17, cm1, lN_t32, eqI, Nat.one_ne_zero, true_implies, not_true_eq_false, not_false_eq_true, false_implies, true_and, and_true]
    exact go
