/-! ===== how long till all is quiet ===== -/
def KR (h h' : MH) : Prop := (hsz h' = hsz h ∧ hcc h' = hcc h ∧ hcu h' = hcu h ∧ SHE h h') ∧ (∀ a, a ≠ 273 → a ≠ 221 → a ≠ 218 → a ≠ 213 → a ≠ 214 → hfi h' a = hfi h a) ∧ (hfi h' 213 6 = hfi h 213 6 ∧ hfi h' 214 1 = hfi h 214 1) ∧ (∀ k, k = 1 ∨ k = 8 ∨ k = 11 ∨ k = 13 ∨ k = 18 ∨ k = 20 ∨ k = 48 ∨ k = 52 → hfi h' 273 k = hfi h 273 k) ∧ (∀ a, ¬ scr a → a ≠ 275 → hia h' a = hia h a) ∧ (∀ a, (288 ≤ a ∧ a ≤ 290) ∨ a = 297 → hja h' a = hja h a) ∧ (∀ x, x < 27984 → hia h' 278 x = hia h 278 x) ∧ ∀ j, j < 1754 ∨ 2010 ≤ j → hia h' 275 j = hia h 275 j
theorem KP.R {h h' : MH} (k : KP h h') : KR h h' := ⟨k.1, k.2.1, k.2.2.1, k.2.2.2.1, fun a b _ => k.2.2.2.2.1 a b, k.2.2.2.2.2.1, k.2.2.2.2.2.2, fun j _ => by rw [k.2.2.2.2.1 275 (scr_n (by omega))]⟩
theorem KR.trans {a b c : MH} (x : KR a b) (y : KR b c) : KR a c := by
  obtain ⟨⟨x1, x2, x3, x4⟩, x5, x6, x7, x8, x9, x10, x11⟩ := x
  obtain ⟨⟨y1, y2, y3, y4⟩, y5, y6, y7, y8, y9, y10, y11⟩ := y
  exact ⟨⟨y1.trans x1, y2.trans x2, y3.trans x3, x4.trans y4⟩, fun p a b c d e => (y5 p a b c d e).trans (x5 p a b c d e), ⟨y6.1.trans x6.1, y6.2.trans x6.2⟩, fun p q => (y7 p q).trans (x7 p q), fun p q r => (y8 p q r).trans (x8 p q r), fun p q => (y9 p q).trans (x9 p q), fun p q => (y10 p q).trans (x10 p q), fun p q => (y11 p q).trans (x11 p q)⟩
theorem KR.W {h h' : MH} (k : KR h h') : KWd h h' := by
  obtain ⟨x1, x5, x6, x7, x8, x9, x10, x11⟩ := k
  exact ⟨x1, fun a b c d e f _ _ => x5 a b c d e f, ⟨x6.2, by rw [x5 24 (by omega) (by omega) (by omega) (by omega) (by omega)], by rw [x5 24 (by omega) (by omega) (by omega) (by omega) (by omega)]⟩, fun k hk => x7 k (by omega), fun a b _ _ c _ _ => x8 a b c, x9, x10⟩
theorem GI_kr {h h' : MH} (k : KR h h') (g : GI h) : GI h' := by
  have kw := k.W
  obtain ⟨⟨x1, x2, x3, x4⟩, x5, x6, x7, x8, x9, x10, x11⟩ := k
  have f25 : hfi h' 25 = hfi h 25 := x5 25 (by omega) (by omega) (by omega) (by omega) (by omega)
  obtain ⟨-, -, ⟨w4, w5, w6, w7, w8⟩, -, ⟨ns, n1, n2, n3⟩, ⟨md, m1, m2⟩, ⟨sl, s1, s2⟩⟩ := g.2.2.2.1
  refine GI_kw kw g ?_ (fun y _ h2 => x11 y (by omega)) (fun y h1 => x11 y (by omega)) (x11 1 (by omega)) (fun nl _ _ z => by rw [x11 2 (by omega)]; exact z) ?_ ⟨ns, n1, (x11 0 (by omega)).trans n2, fun i hi => ?_⟩ ⟨md, m1, (x11 4 (by omega)).trans m2⟩ ⟨sl, s1, (x11 3 (by omega)).trans s2⟩
  · have c := g.2.2.2.2.2.2.1
    unfold CtV at *
    rw [x8 244 (scr_n (by omega)) (by omega), x8 274 (scr_n (by omega)) (by omega), x5 24 (by omega) (by omega) (by omega) (by omega) (by omega), x6.1, x7 1 (by omega), x7 11 (by omega), x7 48 (by omega), x7 18 (by omega), x7 20 (by omega)]
    exact c
  · rw [f25, x11 0 (by omega), x11 1 (by omega), x11 2 (by omega), x11 3 (by omega), x11 4 (by omega)]
    exact ⟨w4, w5, w6, w7, w8⟩
  · rw [x8 (25 + 12) (scr_n (by omega)) (by omega), x8 (25 + 13) (scr_n (by omega)) (by omega), x11 _ (by omega), x11 _ (by omega)]
    exact n3 i hi
theorem KR.E {h h2 : MH} (k : KR h h2) : FrE h h2 := ⟨k.1, k.2.2.2.2.1 0 (scr_n (by omega)) (by omega)⟩
theorem PairR {k x m : Nat} {args : List Value} (H : ∀ (d : Nat) (h : MH), GI h → ∃ v, (∀ Q : RT, (∀ h1, KP h h1 → Q (some v) h1) → callD (d + k) x (.ref 24 :: args) h Q) ∧ ∀ h1, KP h h1 → GI h1 → ∀ Q : RT, (∀ h2, KR h1 h2 → Q (some v) h2) → callD (d + k) m (.ref 273 :: args) h1 Q) : PairOp k x m args := fun d h g => by
  obtain ⟨v, h1, h2⟩ := H d h g
  refine h1 _ (fun a ka => ⟨v, rfl, ?_⟩)
  exact h2 a ka (GI_kp ka g) _ (fun b kb => ⟨rfl, Pst_e (GI_kr (ka.R.trans kb) g) (ka.R.trans kb).E⟩)
/-- a law as the program holds it -/
def POh (h : MH) (lv : Value) (Lo : Option LWS) : Prop := match Lo with
  | none => lv = .null
  | some L => ∃ a : Nat, lv = .ref a ∧ 300 ≤ a ∧ PXh h a L
theorem POh.P {h : MH} {lv : Value} {Lo : Option LWS} (x : POh h lv Lo) : PO h lv Lo := by
  cases Lo with
  | none => exact x
  | some L =>
    obtain ⟨a, e, -, P⟩ := x
    exact ⟨a, e, P.P⟩
theorem POh.v {h : MH} {lv : Value} {Lo : Option LWS} (x : POh h lv Lo) : lv = .null ∨ ∃ a : Nat, lv = .ref a := by
  cases Lo with
  | none => exact Or.inl x
  | some L =>
    obtain ⟨a, e, -⟩ := x
    exact Or.inr ⟨a, e⟩
theorem POh_kp {h h' : MH} {lv : Value} {Lo : Option LWS} (k : KP h h') (x : POh h lv Lo) : POh h' lv Lo := by
  cases Lo with
  | none => exact x
  | some L =>
    obtain ⟨a, e, l, P⟩ := x
    exact ⟨a, e, l, PXh_a (fun x h1 _ => ⟨by rw [k.1.2.2.2.1], by rw [k.1.2.2.2.2.1], by rw [k.1.2.2.2.2.2.1], k.2.1 x (by omega) (by omega) (by omega) (by omega) (by omega), k.2.2.2.2.1 x (scr_n (by omega))⟩) P⟩
theorem NF.P {h h' : MH} (x : NF 221 h h') : KP h h' := ⟨⟨x.1.1, x.1.2.1, x.1.2.2.1, x.e⟩, fun a _ h2 _ _ _ => x.2.1 a h2, ⟨by rw [x.2.1 213 (by omega)], by rw [x.2.1 214 (by omega)]⟩, fun k _ => by rw [x.2.1 273 (by omega)], fun a ns => x.2.2 a (by unfold scr at ns; omega), fun a _ => congrFun x.1.2.2.2.2.2.2.2.1 a, fun y _ => by rw [x.2.2 278 (by omega)]⟩
theorem dl_ok {Lo : Option LWS} {q : RW} (v : IV q) (hq : 0 < ql q) : WI (dl Lo q) 416 ∧ LO q (dl Lo q) ∧ (ql (dl Lo q) ≤ 400 → IV (dl Lo q)) := by
  have h6 : ¬ q 6 = nI 0 := by
    rw [v.q.1, eqI (by have := v.q.2; omega) (by omega)]
    omega
  have hr : aRef Lo q 1 (nI 0) (nI 0) (nI 0) = nI 0 := by unfold aRef; rw [if_pos rfl, if_neg h6]
  obtain ⟨x, y, z⟩ := raw_ok (by omega) v hr
  have e : aRaw Lo q 1 (nI 0) (nI 0) (nI 0) = dl Lo q := if_pos rfl
  rw [e] at x y z
  exact ⟨x, z, fun h => ⟨⟨x.1, x.2.1, x.2.2.1, ⟨x.2.2.2.1, h⟩⟩, y⟩⟩
theorem FO_lo {p q : RW} {Lo : Option LWS} (l : LO p q) (f : FO p Lo) : FO q Lo := by
  cases Lo with
  | none => exact (l 2 (by omega)).trans f
  | some L =>
    obtain ⟨f, a, b⟩ := f
    exact ⟨f, (l 2 (by omega)).trans a, TX_c (fun x hx => l x (by omega)) b⟩
theorem LO.trans {a b c : RW} (x : LO a b) (y : LO b c) : LO a c := fun j hj => (y j hj).trans (x j hj)
def qtR (Lo : Option LWS) : Nat → Nat → RW → Option (Nat × RW)
  | 0, n, q => if ql q = 0 then some (n, q) else none
  | m + 1, n, q => if ql q = 0 then some (n, q) else if 400 < ql (dl Lo q) then none else qtR Lo m (n + 1) (dl Lo q)
theorem qtR_0 (Lo : Option LWS) (n : Nat) (q : RW) : qtR Lo 0 n q = if ql q = 0 then some (n, q) else none := rfl
theorem qtR_s (Lo : Option LWS) (m n : Nat) (q : RW) : qtR Lo (m + 1) n q = if ql q = 0 then some (n, q) else if 400 < ql (dl Lo q) then none else qtR Lo m (n + 1) (dl Lo q) := rfl
theorem qtR_q (Lo : Option LWS) (m n : Nat) (q : RW) (h : ql q = 0) : qtR Lo m n q = some (n, q) := by
  cases m with
  | zero => rw [qtR_0, if_pos h]
  | succ m => rw [qtR_s, if_pos h]
theorem qtR_le (Lo : Option LWS) : ∀ (m n : Nat) (q : RW) (x : Nat × RW), qtR Lo m n q = some x → x.1 ≤ n + m
  | 0, n, q, x, h => by
    rw [qtR_0] at h
    split at h
    · injection h with h; rw [← h]; exact Nat.le_refl _
    · exact absurd h (by simp)
  | m + 1, n, q, x, h => by
    rw [qtR_s] at h
    split at h
    · injection h with h; rw [← h]; exact Nat.le_add_right _ _
    · split at h
      · exact absurd h (by simp)
      · have := qtR_le Lo m (n + 1) _ x h
        omega
def qtI : Option (Nat × RW) → Int32
  | none => -1
  | some x => nI x.1
theorem x_dlv (d md : Nat) {Lo : Option LWS} {lv : Value} {H : MH} {q : RW} (s : XS H) (P : POh H lv Lo) (V : NeV H 221 q) (v : IV q) (e4 : q 4 = nI md) (m9 : md ≤ 9) (hq : 0 < ql q) (Q : RT) (kk : ∀ f g, (∀ Q2 : RT, (∀ H2 k, KP H H2 → NeV H2 221 (dl Lo q) → Q2 (some (.int (nI k))) H2) → callD (d + 6) 33 [.ref 221, .int (jNxI Lo q)] (JH H 219 220 f g) Q2) → Q (some (.int (jNxI Lo q))) (JH H 219 220 f g)) : callD (d + 6) 10 [.ref 218, .ref 221, lv, .int (nI md)] H Q := by
  obtain ⟨w, tm, w1, t1, w2, t2, w3⟩ := iv_nums v
  have hS := s.2.2.2.2.2.1.2.1
  obtain ⟨n1, n2⟩ := jNx_ok Lo (p := q) hq (by omega)
  obtain ⟨k, f, t', dd, mv, lk⟩ := v.1.2.1 _ n2
  obtain ⟨c, t, sr⟩ := v.1.1
  refine x_first (d + 2) 218 221 219 220 w tm md (Lo := Lo) s.2.2.2.1 hS V ⟨by omega, by omega⟩ P.P (by omega) (by omega) (IM.vs v.1.2.1) w2 (by omega) (by omega) t2 e4 t1 m9 _ (fun f1 g1 => kk f1 g1 (fun Q2 K2 => ?_))
  rw [n1]
  refine y_delivers d 221 (jNx Lo q) k f t' dd tm (XN.of (NeS_J hS) (NeV_J ⟨by omega, by omega⟩ V)) n2 (QL_mono v.q (by omega)) mv c.CN (sr t' mv.2.2.1).2.1 (sr t' mv.2.2.1).2.2.2.2 lk t2 t1 _ (fun h' X => K2 h' k ((KP_J H f1 g1).trans X.1.P) ?_)
  rw [dl_eq mv]
  exact X.2.2
theorem x_l_q (d md : Nat) (m9 : md ≤ 9) {Lo : Option LWS} {lv : Value} {h : MH} (s : XS h) (P : POh h lv Lo) (hm : hfi h 25 8 = nI md) (Q : RT) (lm : Nat × Nat) : ∀ (m k : Nat) (q : RW) (H : MH), k + m = 999 → KP h H → NeV H 221 q → IV q → q 4 = nI md → (∀ H', KP h H' → (∀ x, qtR Lo m k q = some x → NeV H' 221 x.2) → Q (some (.int (qtI (qtR Lo m k q)))) H') → WP cd_Di_stepsTillQuiet (callD (d + 6)) Q lm 16 [] [some (.ref 24), some lv, some (.int (nI k))] H := by
  intro m
  induction m with
  | zero =>
    intro k q H e K V v e4 kk
    have sH := XS_e K.1.2.2.2 s
    have so := (sH).1
    unfold XSo at so
    have sw := WoS_25 (sH)
    unfold WoS at sw
    simp only [Nat.reduceAdd] at sw
    have k2 := sH.2.2.2.2.2.1.2.1.1
    have k218 : hkd H 218 = 1 := sH.2.2.2.1.1.1
    have PH := POh_kp K P
    have hm' : hfi H 25 8 = nI md := by rw [K.2.1 25 (by omega) (by omega) (by omega) (by omega) (by omega)]; exact hm
    have q4 := v.q.2
    have e9 : hfi H 221 9 = nI (ql q) := V.2.2.2.2.2.2.2.2.2.1.trans v.q.1
    by_cases c : ql q = 0
    · rw [qtR_q Lo 0 k q c] at kk
      have Y := kk H K (fun x hx => by injection hx with hx; rw [← hx]; exact V)
      rw [U_Di_stepsTillQuiet_16 (cm _)]
      simp (disch := omega) only [U_Di_stepsTillQuiet (cm _), SA, SB, SC1, SC2, SG, SK, SV, so, k2, e9, leI, eqI, c, ltI, show ¬ 999 < k by omega, true_or, or_true, true_implies, not_true_eq_false, not_false_eq_true, false_implies, true_and, and_true]
      exact Y
    · rw [qtR_0, if_neg c] at kk
      have D := fun Q kk => x_dlv d md sH PH V v e4 m9 (by omega) Q kk
      obtain ⟨w6, lo, -⟩ := dl_ok (Lo := Lo) v (by omega)
      have w416 := w6.2.2.2
      rcases P.v with rfl | ⟨a, rfl⟩
      all_goals
        rw [U_Di_stepsTillQuiet_16 (cm _)]
        simp (disch := omega) only [U_Di_stepsTillQuiet (cm _), SA, SB, SC1, SC2, SG, SK, SV, so, sw, k2, k218, hm', e9, leI, eqI, c, ltI, show ¬ 999 < k by omega, true_or, or_true, true_implies, not_true_eq_false, not_false_eq_true, false_implies, true_and, and_true]
        refine D _ (fun f g DV => ?_)
        have k2' : hkd (JH H 219 220 f g) 221 = 2 := k2
        simp (disch := omega) only [U_Di_stepsTillQuiet (cm _), SA, SB, SC1, SC2, SG, SK, SV, k2', true_or, or_true, true_implies, not_true_eq_false, not_false_eq_true, false_implies, true_and, and_true]
        refine DV _ (fun H2 kd K2 V2 => ?_)
        have s2 := XS_e K2.1.2.2.2 sH
        have so2 := s2.1
        unfold XSo at so2
        have k22 := s2.2.2.2.2.2.1.2.1.1
        have e92 : hfi H2 221 9 = nI (ql (dl Lo q)) := V2.2.2.2.2.2.2.2.2.2.1.trans w416.1
        have Y := kk H2 (K.trans K2) (fun x hx => absurd hx (by simp))
        have u := w416.2
        by_cases c4 : ql (dl Lo q) ≤ 400
        · simp (disch := omega) only [U_Di_stepsTillQuiet (cm _), SA, SB, SC1, SC2, SG, SK, SV, so2, k22, e92, leI, c4, nI_add, true_or, or_true, true_implies, not_true_eq_false, not_false_eq_true, false_implies, true_and, and_true]
          rw [U_Di_stepsTillQuiet_16 (cm _)]
          simp (disch := omega) only [U_Di_stepsTillQuiet (cm _), SA, SB, SC1, SC2, SG, SK, SV, ltI, show 999 < k + 1 by omega, true_or, or_true, true_implies, not_true_eq_false, not_false_eq_true, false_implies, true_and, and_true]
          exact Y
        · simp (disch := omega) only [U_Di_stepsTillQuiet (cm _), SA, SB, SC1, SC2, SG, SK, SV, so2, k22, e92, leI, c4, nI_add, true_or, or_true, true_implies, not_true_eq_false, not_false_eq_true, false_implies, true_and, and_true]
          exact Y
  | succ m ih =>
    intro k q H e K V v e4 kk
    have sH := XS_e K.1.2.2.2 s
    have so := (sH).1
    unfold XSo at so
    have sw := WoS_25 (sH)
    unfold WoS at sw
    simp only [Nat.reduceAdd] at sw
    have k2 := sH.2.2.2.2.2.1.2.1.1
    have k218 : hkd H 218 = 1 := sH.2.2.2.1.1.1
    have PH := POh_kp K P
    have hm' : hfi H 25 8 = nI md := by rw [K.2.1 25 (by omega) (by omega) (by omega) (by omega) (by omega)]; exact hm
    have q4 := v.q.2
    have e9 : hfi H 221 9 = nI (ql q) := V.2.2.2.2.2.2.2.2.2.1.trans v.q.1
    by_cases c : ql q = 0
    · rw [qtR_q Lo (m + 1) k q c] at kk
      have Y := kk H K (fun x hx => by injection hx with hx; rw [← hx]; exact V)
      rw [U_Di_stepsTillQuiet_16 (cm _)]
      simp (disch := omega) only [U_Di_stepsTillQuiet (cm _), SA, SB, SC1, SC2, SG, SK, SV, so, k2, e9, leI, eqI, c, ltI, show ¬ 999 < k by omega, true_or, or_true, true_implies, not_true_eq_false, not_false_eq_true, false_implies, true_and, and_true]
      exact Y
    · rw [qtR_s, if_neg c] at kk
      have D := fun Q kk => x_dlv d md sH PH V v e4 m9 (by omega) Q kk
      obtain ⟨w6, lo, iv2⟩ := dl_ok (Lo := Lo) v (by omega)
      have w416 := w6.2.2.2
      rcases P.v with rfl | ⟨a, rfl⟩
      all_goals
        rw [U_Di_stepsTillQuiet_16 (cm _)]
        simp (disch := omega) only [U_Di_stepsTillQuiet (cm _), SA, SB, SC1, SC2, SG, SK, SV, so, sw, k2, k218, hm', e9, leI, eqI, c, ltI, show ¬ 999 < k by omega, true_or, or_true, true_implies, not_true_eq_false, not_false_eq_true, false_implies, true_and, and_true]
        refine D _ (fun f g DV => ?_)
        have k2' : hkd (JH H 219 220 f g) 221 = 2 := k2
        simp (disch := omega) only [U_Di_stepsTillQuiet (cm _), SA, SB, SC1, SC2, SG, SK, SV, k2', true_or, or_true, true_implies, not_true_eq_false, not_false_eq_true, false_implies, true_and, and_true]
        refine DV _ (fun H2 kd K2 V2 => ?_)
        have s2 := XS_e K2.1.2.2.2 sH
        have so2 := s2.1
        unfold XSo at so2
        have k22 := s2.2.2.2.2.2.1.2.1.1
        have e92 : hfi H2 221 9 = nI (ql (dl Lo q)) := V2.2.2.2.2.2.2.2.2.2.1.trans w416.1
        have u := w416.2
        by_cases c4 : ql (dl Lo q) ≤ 400
        · rw [if_neg (by omega)] at kk
          simp (disch := omega) only [U_Di_stepsTillQuiet (cm _), SA, SB, SC1, SC2, SG, SK, SV, so2, k22, e92, leI, c4, nI_add, true_or, or_true, true_implies, not_true_eq_false, not_false_eq_true, false_implies, true_and, and_true]
          exact ih (k + 1) (dl Lo q) H2 (by omega) (K.trans K2) V2 (iv2 c4) ((lo 4 (by omega)).trans e4) kk
        · rw [if_pos (by omega)] at kk
          have Y := kk H2 (K.trans K2) (fun x hx => absurd hx (by simp))
          simp (disch := omega) only [U_Di_stepsTillQuiet (cm _), SA, SB, SC1, SC2, SG, SK, SV, so2, k22, e92, leI, c4, nI_add, true_or, or_true, true_implies, not_true_eq_false, not_false_eq_true, false_implies, true_and, and_true]
          exact Y
theorem x_stq (d md : Nat) (m9 : md ≤ 9) {Lo : Option LWS} {lv : Value} {h : MH} {p q : RW} (s : XS h) (P : POh h lv Lo) (hm : hfi h 25 8 = nI md) (V : NeV h 26 p) (iv : IV p) (hq : ∀ j, 5 ≤ j → j < 1754 → q j = p j) (q4 : q 4 = nI md) (Q : RT) (kk : ∀ H', KP h H' → (∀ x, qtR Lo 999 0 q = some x → NeV H' 221 x.2) → Q (some (.int (qtI (qtR Lo 999 0 q)))) H') : callD (d + 7) 125 [.ref 24, lv] h Q := by
  have so := (s).1
  unfold XSo at so
  have sw := WoS_25 (s)
  unfold WoS at sw
  simp only [Nat.reduceAdd] at sw
  have hS := s.2.2.2.2.2.1
  have k2 := hS.2.1.1
  have Vq := NeV_c hq iv.q V
  have ivq := IV_c hq iv
  rcases P.v with rfl | ⟨a, rfl⟩
  · rw [En_Di_stepsTillQuiet]
    simp (disch := omega) only [U_Di_stepsTillQuiet (cm _), SA, SB, SC1, SC2, SG, SK, SV, so, sw, k2, true_or, or_true, true_implies, not_true_eq_false, not_false_eq_true, false_implies, true_and, and_true]
    refine y_copies (d + 5) 26 221 (by omega) hS.1 Vq hS.2.1 (QL_mono ivq.q (by omega)) _ (fun H X => ?_)
    simp (disch := omega) only [U_Di_stepsTillQuiet (cm _), SA, SB, SC1, SC2, SG, SK, SV, true_or, or_true, true_implies, not_true_eq_false, not_false_eq_true, false_implies, true_and, and_true]
    exact x_l_q d md m9 s P hm Q _ 999 0 q H (by omega) X.1.P X.2.2 ivq q4 kk
  · rw [E_Di_stepsTillQuiet]
    simp (disch := omega) only [U_Di_stepsTillQuiet (cm _), SA, SB, SC1, SC2, SG, SK, SV, so, sw, k2, true_or, or_true, true_implies, not_true_eq_false, not_false_eq_true, false_implies, true_and, and_true]
    refine y_copies (d + 5) 26 221 (by omega) hS.1 Vq hS.2.1 (QL_mono ivq.q (by omega)) _ (fun H X => ?_)
    simp (disch := omega) only [U_Di_stepsTillQuiet (cm _), SA, SB, SC1, SC2, SG, SK, SV, true_or, or_true, true_implies, not_true_eq_false, not_false_eq_true, false_implies, true_and, and_true]
    exact x_l_q d md m9 s P hm Q _ 999 0 q H (by omega) X.1.P X.2.2 ivq q4 kk
