/-! ===== the program's judge: ranks and bars ===== -/
def fm (b : Nat → Int32) (k f t d : Int32) : Nat → Int32 := up1 (up1 (up1 (up1 b 0 k) 1 f) 2 t) 3 d
theorem x_looksC (dd j fa sk : Nat) (k f t d : Int32) {h : MH} (hJ : JS h j fa sk) (Q : RT) : callD (dd + 1) 9 [.ref j, .int k, .int f, .int t, .int d] h Q = Q none (sIA h fa (fm (hia h fa) k f t d)) := by
  obtain ⟨sj, j24, f24, hfs⟩ := hJ
  rw [E_Ju_looksAtChange]
  unfold fm
  simp (disch := omega) only [U_Ju_looksAtChange (cm _), SA, SB, SG, SV, SK, sj, f24, nI_clamp, in_eq, up1_s, up1_n, true_and]
def fl (b : Nat → Int32) (w t m : Int32) : Nat → Int32 := up1 (up1 (up1 b 4 w) 5 t) 6 m
theorem x_looksA (dd j fa sk n : Nat) (m : Int32) {h : MH} (hJ : JS h j fa sk) (hn : hkd h n = 2) (Q : RT) : callD (dd + 1) 7 [.ref j, .ref n, .int m] h Q = Q none (sIA h fa (fl (hia h fa) (hfi h n 9) (hfi h n 12) m)) := by
  obtain ⟨sj, j24, f24, hfs⟩ := hJ
  rw [E_Ju_looksAt]
  unfold fl
  simp (disch := omega) only [U_Ju_looksAt (cm _), SA, SB, SG, SV, SK, sj, hn, f24, nI_clamp, in_eq, up1_s, up1_n, true_and]
set_option maxHeartbeats 2000000 in
theorem x_l_rank (d j a c q N fa sk : Nat) {L : LWS} {h : MH} (hJ : JS h j fa sk) (s : PXs h a c q N L.1) (hs : sk < 300) {l : INS} {e : EV} (he : EOK e) (hP : ∀ i, i < L.1 → L.2.1 i ≤ 1 ∧ hia h q (6 * i) = nI (3 + L.2.1 i) ∧ XT h c N l lawW (L.2.2.1 i) (hia h q (6 * i + 2)) ∧ (L.2.1 i = 0 → ∃ t, t ≤ 448 ∧ hia h q (6 * i + 3) = nI t ∧ XE h c N l lawW t (L.2.2.2 i)))
    (hF : ∀ k, lawW k → k < 23 ∧ hia h fa k = iI (e k)) (msg : Int32) (Q : RT) (lm : Nat × Nat) : ∀ (m : Nat) (w : Option Value) (g : Nat → Int32), m ≤ L.1 → (∀ g, Q (some (.int (nI (clp ((jTell L e m).getD 0))))) (sIA h sk g)) → WP cd_Ju_rank (callD (d + 2)) Q lm 33 [] [some (.ref j), some (.ref a), some (.int msg), some (.int (dn m)), w] (sIA h sk g)
  | 0, w, g, _, kk => by
    rw [U_Ju_rank_33 (cm _)]
    have z : (-1 : Int32) < nI 0 := by decide
    simp (disch := omega) only [U_Ju_rank (cm _), SA, SB, SG, SV, dn_0, z, true_implies, not_true_eq_false, not_false_eq_true, false_implies, true_and, and_true]
    exact kk g
  | m + 1, w, g, hm, kk => by
    have ih := fun w g k2 => x_l_rank d j a c q N fa sk hJ s hs he hP hF msg Q lm m w g (by omega) k2
    obtain ⟨p1, p2, p3, p4⟩ := hP m (by omega)
    have s' := s
    obtain ⟨⟨s1, -⟩, sa, sc, sq, sN, n1, n12⟩ := s
    obtain ⟨sj, j24, f24, hfs⟩ := hJ
    have hq : ∀ g, hia (sIA h sk g) q = hia h q := fun g => hia_n _ _ (by omega)
    have hf : ∀ g, hia (sIA h sk g) fa = hia h fa := fun g => hia_n _ _ (by omega)
    have pk := fun g => pr_kind (d + 1) a c q N L.1 m (by omega) (h := sIA h sk g) s'
    have pt := fun g => pr_test (d + 1) a c q N L.1 m (by omega) (h := sIA h sk g) s'
    have ps := fun g => pr_sum (d + 1) a c q N L.1 m 0 (by omega) (by omega) (h := sIA h sk g) s'
    simp only [hq, Nat.add_zero] at pk pt ps
    have m0 : ¬ m < 0 := by omega
    have back : ∀ w g, (∀ g, Q (some (.int (nI (clp ((jTell L e m).getD 0))))) (sIA h sk g)) → WP cd_Ju_rank (callD (d + 2)) Q lm 92 [] [some (.ref j), some (.ref a), some (.int msg), some (.int (nI m)), w] (sIA h sk g) := fun w g k2 => by
      have := ih w g k2
      simp only [U_Ju_rank (cm _), SA, SB, SG, SV, dn_s]
      exact this
    rw [U_Ju_rank_33 (cm _)]
    unfold jTell at kk
    by_cases c0 : L.2.1 m = 0
    · have p2' : hia h q (6 * m) = nI 3 := by rw [p2, c0]
      obtain ⟨t, t448, t2, t3⟩ := p4 c0
      simp (disch := omega) only [dn_1, U_Ju_rank (cm _), SA, SB, SC1, SC2, SG, SV, s1, sj, pk, pt, p2', m0, ltI, true_implies, not_true_eq_false, not_false_eq_true, false_implies, true_and, and_true]
      refine x_test d j a c fa sk N q L.1 (h := sIA h sk g) ⟨sj, j24, f24, hfs⟩ s' hs he (XT_i (by omega) p3) (fun k hk => by rw [hf]; exact hF k hk) _ (fun g2 => ?_)
      by_cases ct : holB (L.2.2.1 m) e = true
      · rw [if_pos ⟨c0, ct⟩] at kk
        have t1 := (tv_1 he p3).mpr ct
        simp (disch := omega) only [U_Ju_rank (cm _), SA, SB, SC1, SC2, SG, SV, SK, s1, sj, ps, t1, t2, true_implies, not_true_eq_false, not_false_eq_true, false_implies, true_and, and_true]
        refine x_sum d j a c fa sk N q L.1 (h := sIA h sk g2) ⟨sj, j24, f24, hfs⟩ s' hs he (XE_i (by omega) t3) (fun k hk => by rw [hf]; exact hF k hk) _ (fun g3 => ?_)
        have bb := t3.bd he
        cases hv : L.2.2.2 m e with
        | none =>
          rw [hv] at kk
          have B := back (some (.int (nI 2000000000))) g3 kk
          have ob : vI none = nI 2000000000 := rfl
          simp (disch := omega) only [↓B, U_Ju_rank (cm _), SA, SB, SC1, SC2, SG, SV, SK, ob, true_implies, not_true_eq_false, not_false_eq_true, false_implies, true_and, and_true]
        | some x =>
          rw [hv] at kk bb
          have bx := bb x rfl
          have nb : ¬ iI x = nI 2000000000 := fun z => by
            have := (vI_b (o := some x) bb).mp z
            cases this
          simp (disch := omega) only [U_Ju_rank (cm _), SA, SB, SC1, SC2, SG, SV, SK, vI, nb, e_min, e_max, clp_i bx, true_implies, not_true_eq_false, not_false_eq_true, false_implies, true_and, and_true]
          exact kk g3
      · rw [if_neg (fun z => ct z.2)] at kk
        have t1 : ¬ tv (L.2.2.1 m) e = nI 1 := fun z => ct ((tv_1 he p3).mp z)
        have B := back w g2 kk
        simp (disch := omega) only [↓B, U_Ju_rank (cm _), SA, SB, SC1, SC2, SG, SV, SK, t1, true_implies, not_true_eq_false, not_false_eq_true, false_implies, true_and, and_true]
    · rw [if_neg (fun z => c0 z.1)] at kk
      have p2' : ¬ hia h q (6 * m) = nI 3 := by rw [p2, eqI (by omega) (by omega)]; omega
      have B := back w g kk
      simp (disch := omega) only [↓B, dn_1, U_Ju_rank (cm _), SA, SB, SC1, SC2, SG, SV, s1, sj, pk, p2', m0, ltI, true_implies, not_true_eq_false, not_false_eq_true, false_implies, true_and, and_true]
theorem fm_hi {b : Nat → Int32} {k f t d : Int32} {i : Nat} (h : 4 ≤ i) : fm b k f t d i = b i := by
  unfold fm
  rw [up1_n _ _ (by omega), up1_n _ _ (by omega), up1_n _ _ (by omega), up1_n _ _ (by omega)]
theorem fm_ok {b : Nat → Int32} {e : EV} {k f t d : Int32} (h0 : k = iI (e 0)) (h1 : f = iI (e 1)) (h2 : t = iI (e 2)) (h3 : d = iI (e 3)) (h4 : b 4 = iI (e 4)) (h5 : b 5 = iI (e 5)) (h6 : b 6 = iI (e 6)) : ∀ i, lawW i → i < 23 ∧ fm b k f t d i = iI (e i) := fun i hi => by
  unfold lawW at hi
  refine ⟨by omega, ?_⟩
  have : i = 0 ∨ i = 1 ∨ i = 2 ∨ i = 3 ∨ i = 4 ∨ i = 5 ∨ i = 6 := by omega
  rcases this with rfl | rfl | rfl | rfl | rfl | rfl | rfl
  · unfold fm; simp (disch := omega) only [up1_n, up1_s]; exact h0
  · unfold fm; simp (disch := omega) only [up1_n, up1_s]; exact h1
  · unfold fm; simp (disch := omega) only [up1_n, up1_s]; exact h2
  · unfold fm; simp (disch := omega) only [up1_n, up1_s]; exact h3
  · rw [fm_hi (by omega)]; exact h4
  · rw [fm_hi (by omega)]; exact h5
  · rw [fm_hi (by omega)]; exact h6
theorem x_rank (dd j a fa sk k f t d : Nat) (hk : k < 3) (hf : f < 7) (ht : t < 7) (hd : d ≤ 9999) {L : LWS} {h : MH} (hJ : JS h j fa sk) (P : PX h a L) (hs : sk < 300) (hfa : fa < 300) {e : EV} (he : EOK e) (h0 : e 0 = k) (h1 : e 1 = f) (h2 : e 2 = t) (h3 : e 3 = d) (h4 : hia h fa 4 = iI (e 4)) (h5 : hia h fa 5 = iI (e 5)) (h6 : hia h fa 6 = iI (e 6)) (Q : RT) (kk : ∀ g, Q (some (.int (nI (jRank L e)))) (sIA (sIA h fa (fm (hia h fa) (nI k) (nI f) (nI t) (nI d))) sk g)) : callD (dd + 3) 11 [.ref j, .ref a, .int (nI (k + 4 * f + 32 * t + 256 * d))] h Q := by
  have P1 : PX (sIA h fa (fm (hia h fa) (nI k) (nI f) (nI t) (nI d))) a L := PX_i hfa P
  obtain ⟨c, q, N, l, s, P1⟩ := P1
  have J1 : JS (sIA h fa (fm (hia h fa) (nI k) (nI f) (nI t) (nI d))) j fa sk := hJ
  have Y := x_l_rank dd j a c q N fa sk J1 s hs he P1 (by rw [hia_s]; exact fm_ok (by rw [h0, iI_n]) (by rw [h1, iI_n]) (by rw [h2, iI_n]) (by rw [h3, iI_n]) h4 h5 h6) (nI (k + 4 * f + 32 * t + 256 * d)) Q (hcc h, hcu h) L.1 none (hia h sk) (Nat.le_refl _) kk
  have e1 : sIA (sIA h fa (fm (hia h fa) (nI k) (nI f) (nI t) (nI d))) sk (hia h sk) = sIA h fa (fm (hia h fa) (nI k) (nI f) (nI t) (nI d)) := by
    have := sIA_id (sIA h fa (fm (hia h fa) (nI k) (nI f) (nI t) (nI d))) sk
    rw [hia_n _ _ (fun z => hJ.2.2.2 z.symm)] at this
    exact this
  rw [e1] at Y
  obtain ⟨⟨s1, -, -, -, -, -, -, s8⟩, -⟩ := s
  rw [E_Ju_rank]
  simp (disch := omega) only [U_Ju_rank (cm _), SA, SB, SC1, SC2, SG, SV, hJ.1, e_kindOf _ k f t d hk hf ht hd, e_fromOf _ k f t d hk hf ht hd, e_toOf _ k f t d hk hf ht hd, e_distanceOf _ k f t d hk hf ht hd, x_looksC _ j fa sk _ _ _ _ hJ, show hkd h a = 3 from s1, show hfi h a 2 = nI L.1 from s8, dn_m, true_and]
  exact Y
set_option maxHeartbeats 2000000 in
theorem x_l_bars (d j a c q N fa sk : Nat) {L : LWS} {h : MH} (hJ : JS h j fa sk) (s : PXs h a c q N L.1) (hs : sk < 300) {l : INS} {e : EV} (he : EOK e) (hP : ∀ i, i < L.1 → L.2.1 i ≤ 1 ∧ hia h q (6 * i) = nI (3 + L.2.1 i) ∧ XT h c N l lawW (L.2.2.1 i) (hia h q (6 * i + 2)) ∧ (L.2.1 i = 0 → ∃ t, t ≤ 448 ∧ hia h q (6 * i + 3) = nI t ∧ XE h c N l lawW t (L.2.2.2 i)))
    (hF : ∀ k, lawW k → k < 23 ∧ hia h fa k = iI (e k)) (w2 w3 : Option Value) (w4 : Int32) (Q : RT) (lm : Nat × Nat) : ∀ (m k : Nat) (g : Nat → Int32), k + m = L.1 → jBar L e k = false → (∀ g, Q (some (.int (b01 (jBar L e L.1 = true)))) (sIA h sk g)) → WP cd_Ju_bars (callD (d + 2)) Q lm 18 [] [some (.ref j), some (.ref a), w2, w3, some (.int w4), some (.int (nI k))] (sIA h sk g)
  | 0, k, g, hk, hb, kk => by
    obtain rfl : k = L.1 := by omega
    obtain ⟨⟨s1, -, -, -, -, -, -, s8⟩, -, -, -, -, n1, n12⟩ := s
    rw [hb] at kk
    rw [U_Ju_bars_18 (cm _)]
    simp (disch := omega) only [U_Ju_bars (cm _), SA, SB, SG, SV, s1, s8, leI, Nat.le_refl, true_implies, not_true_eq_false, not_false_eq_true, false_implies, true_and, and_true, true_or]
    exact kk g
  | m + 1, k, g, hk, hb, kk => by
    have ih := fun g h2 => x_l_bars d j a c q N fa sk hJ s hs he hP hF w2 w3 w4 Q lm m (k + 1) g (by omega) h2 kk
    obtain ⟨p1, p2, p3, -⟩ := hP k (by omega)
    have s' := s
    obtain ⟨⟨s1, -, -, -, -, -, -, s8⟩, sa, sc, sq, sN, n1, n12⟩ := s
    obtain ⟨sj, j24, f24, hfs⟩ := hJ
    have hq : ∀ g, hia (sIA h sk g) q = hia h q := fun g => hia_n _ _ (by omega)
    have hf : ∀ g, hia (sIA h sk g) fa = hia h fa := fun g => hia_n _ _ (by omega)
    have pk := fun g => pr_kind (d + 1) a c q N L.1 k (by omega) (h := sIA h sk g) s'
    have pt := fun g => pr_test (d + 1) a c q N L.1 k (by omega) (h := sIA h sk g) s'
    simp only [hq] at pk pt
    have m0 : ¬ L.1 ≤ k := by omega
    have hbs : jBar L e (k + 1) = (decide (L.2.1 k = 1) && holB (L.2.2.1 k) e) := by
      show (jBar L e k || (decide (L.2.1 k = 1) && holB (L.2.2.1 k) e)) = _
      rw [hb]; rfl
    rw [U_Ju_bars_18 (cm _)]
    by_cases c0 : L.2.1 k = 1
    · have p2' : hia h q (6 * k) = nI 4 := by rw [p2, c0]
      simp (disch := omega) only [U_Ju_bars (cm _), SA, SB, SC1, SC2, SG, SV, s1, s8, sj, pk, pt, p2', m0, leI, true_implies, not_true_eq_false, not_false_eq_true, false_implies, true_and, and_true]
      refine x_test d j a c fa sk N q L.1 (h := sIA h sk g) ⟨sj, j24, f24, hfs⟩ s' hs he (XT_i (by omega) p3) (fun k hk => by rw [hf]; exact hF k hk) _ (fun g2 => ?_)
      by_cases ct : holB (L.2.2.1 k) e = true
      · have t1 := (tv_1 he p3).mpr ct
        have ht : jBar L e L.1 = true := by
          have h1 : jBar L e (k + 1) = true := by rw [hbs, ct, c0]; rfl
          have up : ∀ n x, jBar L e x = true → jBar L e (x + n) = true := fun n => by
            induction n with
            | zero => intro x hx; exact hx
            | succ n ihn => intro x hx; show (jBar L e (x + n) || _) = true; rw [ihn x hx]; rfl
          have := up m (k + 1) h1
          rw [show k + 1 + m = L.1 by omega] at this
          exact this
        rw [b01_t ht] at kk
        simp (disch := omega) only [U_Ju_bars (cm _), SA, SB, SC1, SC2, SG, SV, SK, t1, true_implies, not_true_eq_false, not_false_eq_true, false_implies, true_and, and_true, true_or, or_true]
        exact kk g2
      · have t1 : ¬ tv (L.2.2.1 k) e = nI 1 := fun z => ct ((tv_1 he p3).mp z)
        have I := ih g2 (by rw [hbs, Bool.eq_false_iff.mpr ct, Bool.and_false])
        simp (disch := omega) only [U_Ju_bars (cm _), SA, SB, SC1, SC2, SG, SV, SK, t1, nI_add, true_implies, not_true_eq_false, not_false_eq_true, false_implies, true_and, and_true, true_or, or_true]
        exact I
    · have p2' : ¬ hia h q (6 * k) = nI 4 := by rw [p2, eqI (by omega) (by omega)]; omega
      have I := ih g (by rw [hbs, decide_eq_false c0, Bool.false_and])
      simp (disch := omega) only [U_Ju_bars (cm _), SA, SB, SC1, SC2, SG, SV, SK, s1, s8, pk, p2', m0, leI, nI_add, true_implies, not_true_eq_false, not_false_eq_true, false_implies, true_and, and_true]
      exact I
theorem x_bars (dd j a fa sk : Nat) (one other costs : Int32) {L : LWS} {h : MH} (hJ : JS h j fa sk) (P : PX h a L) (hs : sk < 300) (hfa : fa < 300) {e : EV} (he : EOK e) (h0 : e 0 = -1) (h1 : one = iI (e 1)) (h2 : other = iI (e 2)) (h3 : costs = iI (e 3)) (h4 : hia h fa 4 = iI (e 4)) (h5 : hia h fa 5 = iI (e 5)) (h6 : hia h fa 6 = iI (e 6)) (Q : RT) (kk : ∀ g, Q (some (.int (b01 (jBar L e L.1 = true)))) (sIA (sIA h fa (fm (hia h fa) (-1) one other costs)) sk g)) : callD (dd + 3) 12 [.ref j, .ref a, .int one, .int other, .int costs] h Q := by
  have P1 : PX (sIA h fa (fm (hia h fa) (-1) one other costs)) a L := PX_i hfa P
  obtain ⟨c, q, N, l, s, P1⟩ := P1
  have J1 : JS (sIA h fa (fm (hia h fa) (-1) one other costs)) j fa sk := hJ
  have Y := x_l_bars dd j a c q N fa sk J1 s hs he P1 (by rw [hia_s]; exact fm_ok (by rw [h0, iI_m1]) h1 h2 h3 h4 h5 h6) (some (.int one)) (some (.int other)) costs Q (hcc h, hcu h) L.1 0 (hia h sk) (by omega) rfl kk
  have e1 : sIA (sIA h fa (fm (hia h fa) (-1) one other costs)) sk (hia h sk) = sIA h fa (fm (hia h fa) (-1) one other costs) := by
    have := sIA_id (sIA h fa (fm (hia h fa) (-1) one other costs)) sk
    rw [hia_n _ _ (fun z => hJ.2.2.2 z.symm)] at this
    exact this
  rw [e1] at Y
  rw [E_Ju_bars]
  simp (disch := omega) only [U_Ju_bars (cm _), SA, SB, SC1, SC2, SG, SV, hJ.1, x_looksC _ j fa sk _ _ _ _ hJ, true_and]
  exact Y
