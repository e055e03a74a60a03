/-! ===== the program's first ===== -/
theorem sIA_ne (h : MH) {a b : Nat} (f g : Nat → Int32) (e : ¬ a = b) : sIA (sIA h a f) b g = sIA (sIA h b g) a f := by
  by_cases c : b < a
  · exact sIA_c h f g c
  · exact (sIA_c h g f (by omega)).symm
/-- the judge's cells, written anew -/
def JH (h : MH) (fa sk : Nat) (f g : Nat → Int32) : MH := sIA (sIA h fa f) sk g
theorem JH_n {h : MH} {fa sk a : Nat} {f g : Nat → Int32} (h1 : ¬ a = fa) (h2 : ¬ a = sk) : hia (JH h fa sk f g) a = hia h a := by unfold JH; rw [hia_n _ _ h2, hia_n _ _ h1]
theorem JH_f {h : MH} {fa sk : Nat} {f g : Nat → Int32} (e : ¬ fa = sk) : hia (JH h fa sk f g) fa = f := by unfold JH; rw [hia_n _ _ e, hia_s]
theorem JH_s {h : MH} {fa sk : Nat} {f g : Nat → Int32} : hia (JH h fa sk f g) sk = g := hia_s _ _ _
theorem JH_JH {h : MH} {fa sk : Nat} {f g f' g' : Nat → Int32} (e : ¬ fa = sk) : sIA (sIA (JH h fa sk f g) fa f') sk g' = JH h fa sk f' g' := by
  unfold JH
  rw [sIA_ne _ g f' (fun z => e z.symm), SK.2.2.2.1, SK.2.2.2.1]
theorem JH_id {h : MH} {fa sk : Nat} : JH h fa sk (hia h fa) (hia h sk) = h := by unfold JH; rw [sIA_id, sIA_id]
theorem JH_fi {h : MH} {fa sk : Nat} {f g : Nat → Int32} : hfi (JH h fa sk f g) = hfi h := rfl
def sepJ (n fa sk : Nat) : Prop := (fa < n ∨ n + 9 < fa) ∧ (sk < n ∨ n + 9 < sk)
theorem NeS_J {h : MH} {n fa sk : Nat} {f g : Nat → Int32} (S : NeS h n) : NeS (JH h fa sk f g) n := S
theorem NeV_J {h : MH} {n fa sk : Nat} {f g : Nat → Int32} {p : RW} (s : sepJ n fa sk) (V : NeV h n p) : NeV (JH h fa sk f g) n p := by
  obtain ⟨s1, s2⟩ := s
  unfold NeV at *
  rw [JH_n (by omega) (by omega), JH_n (by omega) (by omega), JH_n (by omega) (by omega), JH_n (by omega) (by omega), JH_n (by omega) (by omega), JH_n (by omega) (by omega), JH_n (by omega) (by omega), JH_n (by omega) (by omega), JH_n (by omega) (by omega), JH_fi]
  exact V
theorem PX_J {h : MH} {a fa sk : Nat} {f g : Nat → Int32} {L : LWS} (h1 : fa < 300) (h2 : sk < 300) (P : PX h a L) : PX (JH h fa sk f g) a L := PX_i h2 (PX_i h1 P)
theorem JS_J {h : MH} {j fa sk : Nat} {f g : Nat → Int32} (J : JS h j fa sk) : JS (JH h fa sk f g) j fa sk := J
set_option maxHeartbeats 4000000 in
theorem x_l_first (d j n a fa sk w tm md : Nat) (mo : Int32) {L : LWS} {p : RW} {h : MH} (hJ : JS h j fa sk) (hS : NeS h n) (hV : NeV h n p) (s : sepJ n fa sk) (P : PX h a L) (hs : sk < 300) (hfa : fa < 300) (hv : MVs p) (hw : p 6 = nI w) (hwq : w ≤ 420) (ht : p 5 = nI tm) (hmd : p 4 = nI md) (t1 : tm ≤ 999) (md1 : md ≤ 9) (Q : RT) (lm : Nat × Nat) : ∀ (k i m : Nat) (its : Int32) (le : Nat) (w9 w10 w11 w12 : Option Value) (f g : Nat → Int32), f 4 = nI w → f 5 = nI tm → f 6 = nI md → i + k = w → m < 2 ^ 49 → le ≤ 100 → (∀ f g, Q (some (.int (itr (nxS (fun i => jRankO (some L) (eP p i)) (wy p)) i k (m, its, le)).2.1)) (JH h fa sk f g)) →
    WP cd_Ju_first (callD (d + 3)) Q lm 25 [] [some (.ref j), some (.ref n), some (.ref a), some (.int mo), some (.long (lN m)), none, some (.int (nI le)), some (.int its), some (.int (nI i)), w9, w10, w11, w12] (JH h fa sk f g)
  | 0, i, m, its, le, w9, w10, w11, w12, f, g, f4, f5, f6, hi, hm, hl, kk => by
    have e9 : hfi (JH h fa sk f g) n 9 = nI w := hV.2.2.2.2.2.2.2.2.2.1.trans hw
    have k2 : hkd (JH h fa sk f g) n = 2 := hS.1
    rw [U_Ju_first_25 (cm _)]
    simp (disch := omega) only [U_Ju_first (cm _), SA, SB, SG, SV, k2, e9, leI, show w ≤ i by omega, true_implies, not_true_eq_false, not_false_eq_true, false_implies, true_and, and_true]
    exact kk f g
  | k + 1, i, m, its, le, w9, w10, w11, w12, f, g, f4, f5, f6, hi, hm, hl, kk => by
    have e9 : hfi (JH h fa sk f g) n 9 = nI w := hV.2.2.2.2.2.2.2.2.2.1.trans hw
    obtain ⟨sh, n24⟩ := (NeS_J (fa := fa) (sk := sk) (f := f) (g := g) hS).all
    have hql : ql p = w := ql_of hw (by omega)
    have hwi : ¬ w ≤ i := by omega
    rw [U_Ju_first_25 (cm _)]
    by_cases c0 : le = 0
    · subst c0
      rw [nxS_0 (k + 1) i _ rfl] at kk
      simp (disch := omega) only [U_Ju_first (cm _), SA, SB, SG, SV, sh, e9, leI, hwi, Nat.le_refl, true_implies, not_true_eq_false, not_false_eq_true, false_implies, true_and, and_true]
      exact kk f g
    obtain ⟨k', ff, t, dd, mv⟩ := hv i (by omega)
    obtain ⟨v1, v2⟩ := eP_v mv hw ht hmd (by omega) t1 md1
    have eq : hia (JH h fa sk f g) (n + 9) i = nI (k' + 4 * ff + 32 * t + 256 * dd) := ((NeV_J s hV).2.2.2.2.2.2.2.2.1 i (by omega)).trans mv.pk
    obtain ⟨q1, q2, q3, q4, -⟩ := mv
    have hwy : 7 * ff + t < 49 := by omega
    have b1 := x_bit hm hwy
    have wm : nI ff * nI 7 + nI t = nI (7 * ff + t) := by rw [pk_mul, nI_add, Nat.mul_comm]
    rw [itr_s] at kk
    by_cases c : m.testBit (7 * ff + t) = false
    · have sx : nxS (fun i => jRankO (some L) (eP p i)) (wy p) (m, its, le) i = (m ||| 2 ^ (7 * ff + t), if jRankO (some L) (eMs k' ff t dd w tm md) < le then nI i else its, if jRankO (some L) (eMs k' ff t dd w tm md) < le then jRankO (some L) (eMs k' ff t dd w tm md) else le) := by
        unfold nxS
        rw [v2]
        simp only [v1]
        rw [if_pos c]
      rw [sx] at kk
      have hr := jRankO_le (some L) (eMs k' ff t dd w tm md)
      have hr' : jRank L (eMs k' ff t dd w tm md) ≤ 99 := hr
      have he : EOK (eMs (k' : Int) ff t dd w tm md) := eMs_ok (by omega) (by omega) (by omega) (by omega) (by omega) (by omega) (by omega)
      have sj : hkd (JH h fa sk f g) j = 1 := hJ.1.1
      simp (disch := omega) only [↓SL, LC, U_Ju_first (cm _), SA, SB, SC1, SC2, SG, SV, sh, sj, e9, eq, leI, hwi, c0, e_fromOf _ k' ff t dd q1 q2 q3 q4, e_toOf _ k' ff t dd q1 q2 q3 q4, wm, nI_clamp, in_eq, b1, c, Nat.le_zero, true_implies, not_true_eq_false, not_false_eq_true, false_implies, true_and, and_true]
      refine x_rank d j a fa sk k' ff t dd q1 q2 q3 q4 (JS_J hJ) (PX_J hfa hs P) hs hfa he rfl rfl rfl rfl (by rw [JH_f hJ.2.2.2, f4]; exact (iI_n w).symm) (by rw [JH_f hJ.2.2.2, f5]; exact (iI_n tm).symm) (by rw [JH_f hJ.2.2.2, f6]; exact (iI_n md).symm) _ (fun g' => ?_)
      rw [JH_JH hJ.2.2.2, JH_f hJ.2.2.2]
      have h4 : fm f (nI k') (nI ff) (nI t) (nI dd) 4 = nI w := (fm_hi (by omega)).trans f4
      have h5 : fm f (nI k') (nI ff) (nI t) (nI dd) 5 = nI tm := (fm_hi (by omega)).trans f5
      have h6 : fm f (nI k') (nI ff) (nI t) (nI dd) 6 = nI md := (fm_hi (by omega)).trans f6
      rw [(sh_w _ hwy).2, lN_or]
      by_cases cl : jRankO (some L) (eMs k' ff t dd w tm md) < le
      · rw [if_pos cl, if_pos cl] at kk
        have I := fun w9 w10 w11 w12 => x_l_first d j n a fa sk w tm md mo hJ hS hV s P hs hfa hv hw hwq ht hmd t1 md1 Q lm k (i + 1) _ _ _ w9 w10 w11 w12 _ g' h4 h5 h6 (by omega) (or_lt hm hwy) (by omega) kk
        simp (disch := omega) only [U_Ju_first (cm _), SA, SB, SC1, SC2, SG, SV, leI, show ¬ le ≤ jRank L (eMs k' ff t dd w tm md) from Nat.not_le.mpr cl, nI_add, true_implies, not_true_eq_false, not_false_eq_true, false_implies, true_and, and_true]
        exact I _ _ _ _
      · rw [if_neg cl, if_neg cl] at kk
        have I := fun w9 w10 w11 w12 => x_l_first d j n a fa sk w tm md mo hJ hS hV s P hs hfa hv hw hwq ht hmd t1 md1 Q lm k (i + 1) _ _ _ w9 w10 w11 w12 _ g' h4 h5 h6 (by omega) (or_lt hm hwy) hl kk
        simp (disch := omega) only [U_Ju_first (cm _), SA, SB, SC1, SC2, SG, SV, leI, show le ≤ jRank L (eMs k' ff t dd w tm md) from Nat.not_lt.mp cl, nI_add, true_implies, not_true_eq_false, not_false_eq_true, false_implies, true_and, and_true]
        exact I _ _ _ _
    · have sx : nxS (fun i => jRankO (some L) (eP p i)) (wy p) (m, its, le) i = (m, its, le) := by
        unfold nxS
        rw [v2, if_neg c]
      rw [sx] at kk
      have I := fun w9 w10 w11 w12 => x_l_first d j n a fa sk w tm md mo hJ hS hV s P hs hfa hv hw hwq ht hmd t1 md1 Q lm k (i + 1) m its le w9 w10 w11 w12 f g f4 f5 f6 (by omega) hm hl kk
      simp (disch := omega) only [↓SL, LC, U_Ju_first (cm _), SA, SB, SC1, SC2, SG, SV, sh, e9, eq, leI, hwi, c0, e_fromOf _ k' ff t dd q1 q2 q3 q4, e_toOf _ k' ff t dd q1 q2 q3 q4, wm, nI_clamp, nI_add, in_eq, b1, c, Nat.le_zero, Bool.true_eq_false, true_implies, not_true_eq_false, not_false_eq_true, false_implies, true_and, and_true]
      exact I _ _ _ _
/-- the law in force as the program has it -/
def PO (h : MH) (v : Value) (Lo : Option LWS) : Prop := match Lo with
  | none => v = .null
  | some L => ∃ a, v = .ref a ∧ PX h a L
theorem jNx_none {p : RW} (hq : 0 < ql p) : jNxI none p = nI 0 := by
  unfold jNxI
  obtain ⟨n, hn⟩ : ∃ n, ql p = n + 1 := ⟨ql p - 1, by omega⟩
  rw [hn, itr_s, nx_first (fun i => jRankO_le none _), nxS_0 n 1 _ rfl]
theorem x_first (d j n fa sk w tm md : Nat) {Lo : Option LWS} {v : Value} {p : RW} {h : MH} (hJ : JS h j fa sk) (hS : NeS h n) (hV : NeV h n p) (s : sepJ n fa sk) (P : PO h v Lo) (hs : sk < 300) (hfa : fa < 300) (hv : MVs p) (hw : p 6 = nI w) (hw0 : 0 < w) (hwq : w ≤ 420) (ht : p 5 = nI tm) (hmd : p 4 = nI md) (t1 : tm ≤ 999) (md1 : md ≤ 9) (Q : RT) (kk : ∀ f g, Q (some (.int (jNxI Lo p))) (JH h fa sk f g)) : callD (d + 4) 10 [.ref j, .ref n, v, .int (nI md)] h Q := by
  have hql : ql p = w := ql_of hw (by omega)
  cases Lo with
  | none =>
    have P : v = .null := P
    subst P
    have K := kk (hia h fa) (hia h sk)
    rw [JH_id, jNx_none (by omega)] at K
    rw [En_Ju_first]
    simp only [U_Ju_first (cm _), SA, SB, SG, SV]
    exact K
  | some L =>
    obtain ⟨a, rfl, P⟩ := P
    have e9 : hfi h n 9 = nI w := hV.2.2.2.2.2.2.2.2.2.1.trans hw
    have e12 : hfi h n 12 = nI tm := hV.2.2.2.2.2.2.2.2.2.2.2.2.trans ht
    have e1 : JH h fa sk (fl (hia h fa) (nI w) (nI tm) (nI md)) (hia h sk) = sIA h fa (fl (hia h fa) (nI w) (nI tm) (nI md)) := by
      have := sIA_id (sIA h fa (fl (hia h fa) (nI w) (nI tm) (nI md))) sk
      rw [hia_n _ _ (fun z => hJ.2.2.2 z.symm)] at this
      exact this
    have Y := x_l_first d j n a fa sk w tm md (nI md) hJ hS hV s P hs hfa hv hw hwq ht hmd t1 md1 Q (hcc h, hcu h) w 0 0 (nI 0) 100 none none none none (fl (hia h fa) (nI w) (nI tm) (nI md)) (hia h sk) (by unfold fl; simp (disch := omega) only [up1_n, up1_s]) (by unfold fl; simp (disch := omega) only [up1_n, up1_s]) (by unfold fl; simp (disch := omega) only [up1_n, up1_s]) (by omega) (by omega) (by omega) (fun f g => by
      have K := kk f g
      unfold jNxI at K
      obtain ⟨n', hn⟩ : ∃ n', w = n' + 1 := ⟨w - 1, by omega⟩
      rw [hql, hn, itr_s, nx_first (fun i => jRankO_le (some L) _)] at K
      rw [hn, itr_s, nx_first (fun i => jRankO_le (some L) _)]
      exact K)
    rw [e1] at Y
    rw [E_Ju_first]
    simp (disch := omega) only [U_Ju_first (cm _), SA, SB, SC1, SC2, SG, SV, hJ.1, x_looksA _ j fa sk n (nI md) hJ hS.1, e9, e12, true_and]
    exact Y
