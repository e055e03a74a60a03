/-! ===== laws: how many clauses, of which kind (0 ranks, 1 bars), their tests, their sums ===== -/
abbrev LWS : Type := Nat × (Nat → Nat) × (Nat → Option VAL) × (Nat → VAL)
def holB (T : Option VAL) (e : EV) : Bool := match T with
  | none => true
  | some v => decide (v e = some 1)
def jTell (L : LWS) (e : EV) : Nat → Option Int
  | 0 => none
  | c + 1 => if L.2.1 c = 0 ∧ holB (L.2.2.1 c) e = true then (match L.2.2.2 c e with
    | some x => some x
    | none => jTell L e c) else jTell L e c
def jBar (L : LWS) (e : EV) : Nat → Bool
  | 0 => false
  | c + 1 => jBar L e c || (decide (L.2.1 c = 1) && holB (L.2.2.1 c) e)
def clp (x : Int) : Nat := if x < 0 then 0 else if 99 < x then 99 else x.toNat
theorem clp_le (x : Int) : clp x ≤ 99 := by unfold clp; split <;> (try split) <;> omega
def jRank (L : LWS) (e : EV) : Nat := clp ((jTell L e L.1).getD 0)
/-- an expression of a program's code -/
def XE (h : MH) (c N : Nat) (l : INS) (W : Nat → Prop) (t : Nat) (v : VAL) : Prop := ∃ t' D, D ≤ 60 ∧ Seg l t t' D v ∧ t' < N ∧ hia h c t' = nI 0 ∧ XC (hia h c) l t t' W
def PXs (h : MH) (a c q N n : Nat) : Prop := (hkd h a = 3 ∧ hfr h a 0 = some c ∧ hkd h c = 20 ∧ hln h c = N ∧ hfr h a 1 = some q ∧ hkd h q = 20 ∧ hln h q = 6 * n ∧ hfi h a 2 = nI n) ∧ 300 ≤ a ∧ 300 ≤ c ∧ 300 ≤ q ∧ N ≤ 448 ∧ 1 ≤ n ∧ n ≤ 12
def XT (h : MH) (c N : Nat) (l : INS) (W : Nat → Prop) (T : Option VAL) (x : Int32) : Prop := match T with
  | none => x = -1
  | some v => ∃ t, x = nI t ∧ t ≤ 448 ∧ XE h c N l W t v
def lawW (k : Nat) : Prop := k < 7
/-- a law of the program's -/
def PX (h : MH) (a : Nat) (L : LWS) : Prop := ∃ c q N l, PXs h a c q N L.1 ∧ ∀ i, i < L.1 → L.2.1 i ≤ 1 ∧ hia h q (6 * i) = nI (3 + L.2.1 i) ∧ XT h c N l lawW (L.2.2.1 i) (hia h q (6 * i + 2)) ∧ (L.2.1 i = 0 → ∃ t, t ≤ 448 ∧ hia h q (6 * i + 3) = nI t ∧ XE h c N l lawW t (L.2.2.2 i))
theorem XE_i {h : MH} {c N : Nat} {l : INS} {W : Nat → Prop} {t : Nat} {v : VAL} {x : Nat} {f : Nat → Int32} (hx : ¬ c = x) (E : XE h c N l W t v) : XE (sIA h x f) c N l W t v := by
  unfold XE at *
  rw [hia_n _ _ hx]
  exact E
theorem XT_i {h : MH} {c N : Nat} {l : INS} {W : Nat → Prop} {T : Option VAL} {y : Int32} {x : Nat} {f : Nat → Int32} (hx : ¬ c = x) (E : XT h c N l W T y) : XT (sIA h x f) c N l W T y := by
  cases T with
  | none => exact E
  | some v =>
    obtain ⟨t, e1, e2, e3⟩ := E
    exact ⟨t, e1, e2, XE_i hx e3⟩
theorem PX_i {h : MH} {a : Nat} {L : LWS} {x : Nat} {f : Nat → Int32} (hx : x < 300) (P : PX h a L) : PX (sIA h x f) a L := by
  obtain ⟨c, q, N, l, s, P⟩ := P
  refine ⟨c, q, N, l, s, fun i hi => ?_⟩
  have h1 := s.2.2.1
  have h2 := s.2.2.2.1
  rw [hia_n _ _ (by omega)]
  obtain ⟨p1, p2, p3, p4⟩ := P i hi
  refine ⟨p1, p2, XT_i (by omega) p3, fun z => ?_⟩
  obtain ⟨t, t1, t2, t3⟩ := p4 z
  exact ⟨t, t1, t2, XE_i (by omega) t3⟩
theorem JS_i {h : MH} {j fa sk x : Nat} {f : Nat → Int32} (J : JS h j fa sk) : JS (sIA h x f) j fa sk := J
def tv (T : Option VAL) (e : EV) : Int32 := match T with
  | none => nI 1
  | some v => vI (v e)
theorem x_test (d j a c fa sk N q n : Nat) {h : MH} (hJ : JS h j fa sk) (s : PXs h a c q N n) (hs : sk < 300) {l : INS} {W : Nat → Prop} {e : EV} {T : Option VAL} {x : Int32} (he : EOK e) (hT : XT h c N l W T x) (hF : ∀ k, W k → k < 23 ∧ hia h fa k = iI (e k)) (Q : RT) (kk : ∀ f, Q (some (.int (tv T e))) (sIA h sk f)) : callD (d + 2) 14 [.ref j, .ref a, .int x] h Q := by
  obtain ⟨⟨s1, s2, s3, s4, -⟩, -, s6, -, s8, -⟩ := s
  cases T with
  | none =>
    cases hT
    have := kk (hia h sk)
    rw [sIA_id] at this
    rw [E_Ju_value]
    have z : ¬ nI 0 ≤ (-1 : Int32) := by decide
    simp only [U_Ju_value (cm _), SA, SB, SG, SV, z, true_implies, not_true_eq_false, not_false_eq_true, false_implies, true_and, and_true]
    exact this
  | some v =>
    obtain ⟨t, rfl, ht, t', D, hD, hS, ht', hst, hX⟩ := hT
    exact x_value d j a c fa sk N t t' D hJ ⟨s1, s2⟩ s3 s4 (by omega) (by omega) he hS hD ht' hst (fun k h1 h2 => ⟨(hX k h1 h2).1, (hX k h1 h2).2.1, fun z => hF _ ((hX k h1 h2).2.2 z)⟩) Q kk
theorem x_sum (d j a c fa sk N q n : Nat) {h : MH} (hJ : JS h j fa sk) (s : PXs h a c q N n) (hs : sk < 300) {l : INS} {W : Nat → Prop} {e : EV} {v : VAL} {t : Nat} (he : EOK e) (hT : XE h c N l W t v) (hF : ∀ k, W k → k < 23 ∧ hia h fa k = iI (e k)) (Q : RT) (kk : ∀ f, Q (some (.int (vI (v e)))) (sIA h sk f)) : callD (d + 2) 14 [.ref j, .ref a, .int (nI t)] h Q := by
  obtain ⟨⟨s1, s2, s3, s4, -⟩, -, s6, -, s8, -⟩ := s
  obtain ⟨t', D, hD, hS, ht', hst, hX⟩ := hT
  exact x_value d j a c fa sk N t t' D hJ ⟨s1, s2⟩ s3 s4 (by omega) (by omega) he hS hD ht' hst (fun k h1 h2 => ⟨(hX k h1 h2).1, (hX k h1 h2).2.1, fun z => hF _ ((hX k h1 h2).2.2 z)⟩) Q kk
theorem vI_1 {o : Option Int} (h : ∀ x, o = some x → bd x) : vI o = nI 1 ↔ o = some 1 := by
  cases o with
  | none => exact ⟨fun q => absurd q (by decide), fun q => by cases q⟩
  | some x =>
    have e := iI_eq (bd_r (h x rfl)) (y := 1) (by omega)
    rw [iI1] at e
    exact ⟨fun q => by rw [show x = 1 from e ▸ q], fun q => by cases q; exact iI1⟩
theorem vI_b {o : Option Int} (h : ∀ x, o = some x → bd x) : vI o = nI 2000000000 ↔ o = none := by
  cases o with
  | none => exact ⟨fun _ => rfl, fun _ => rfl⟩
  | some x =>
    have e := iI_eq (bd_r (h x rfl)) (y := 2000000000) (by omega)
    rw [show iI 2000000000 = nI 2000000000 from iI_n 2000000000] at e
    exact ⟨fun q => by have : x = 2000000000 := e ▸ q; have := (h x rfl).2; omega, fun q => by cases q⟩
theorem XE.bd {h : MH} {c N : Nat} {l : INS} {W : Nat → Prop} {t : Nat} {v : VAL} {e : EV} (he : EOK e) (E : XE h c N l W t v) : ∀ x, v e = some x → Jvm.Pilot.CDiffusingRoutesLaw_law_r4474_45e1b3.bd x := fun x hx => by
  obtain ⟨t', D, -, S, -⟩ := E
  exact S.2.1 e x he hx
theorem tv_1 {h : MH} {c N : Nat} {l : INS} {W : Nat → Prop} {T : Option VAL} {x : Int32} {e : EV} (he : EOK e) (E : XT h c N l W T x) : tv T e = nI 1 ↔ holB T e = true := by
  cases T with
  | none => exact ⟨fun _ => rfl, fun _ => rfl⟩
  | some v =>
    obtain ⟨t, -, -, E⟩ := E
    show vI (v e) = nI 1 ↔ decide (v e = some 1) = true
    rw [vI_1 (E.bd he), decide_eq_true_iff]
theorem pr_kind (d a c q N n i : Nat) (hi : i < n) {h : MH} (s : PXs h a c q N n) (Q : RT) : callD (d + 1) 41 [.ref a, .int (nI i)] h Q = Q (some (.int (hia h q (6 * i)))) h := by
  obtain ⟨⟨s1, -, -, -, s5, s6, s7, -⟩, -, -, -, -, -, s12⟩ := s
  rw [E_Pr_kind]
  simp (disch := omega) only [U_Pr_kind (cm _), SA, SB, SG, SV, s1, s5, s6, s7, pk_mul, nI_add, Nat.add_zero, nI_clamp, in_eq, true_and]
  rw [Nat.mul_comm]
theorem pr_test (d a c q N n i : Nat) (hi : i < n) {h : MH} (s : PXs h a c q N n) (Q : RT) : callD (d + 1) 43 [.ref a, .int (nI i)] h Q = Q (some (.int (hia h q (6 * i + 2)))) h := by
  obtain ⟨⟨s1, -, -, -, s5, s6, s7, -⟩, -, -, -, -, -, s12⟩ := s
  rw [E_Pr_test]
  simp (disch := omega) only [U_Pr_test (cm _), SA, SB, SG, SV, s1, s5, s6, s7, pk_mul, nI_add, nI_clamp, in_eq, true_and]
  rw [Nat.mul_comm]
theorem pr_times (d a c q N n i : Nat) (hi : i < n) {h : MH} (s : PXs h a c q N n) (Q : RT) : callD (d + 1) 42 [.ref a, .int (nI i)] h Q = Q (some (.int (hia h q (6 * i + 1)))) h := by
  obtain ⟨⟨s1, -, -, -, s5, s6, s7, -⟩, -, -, -, -, -, s12⟩ := s
  rw [E_Pr_times]
  simp (disch := omega) only [U_Pr_times (cm _), SA, SB, SG, SV, s1, s5, s6, s7, pk_mul, nI_add, nI_clamp, in_eq, true_and]
  rw [Nat.mul_comm]
theorem pr_sum (d a c q N n i k : Nat) (hi : i < n) (hk : k < 3) {h : MH} (s : PXs h a c q N n) (Q : RT) : callD (d + 1) 44 [.ref a, .int (nI i), .int (nI k)] h Q = Q (some (.int (hia h q (6 * i + 3 + k)))) h := by
  obtain ⟨⟨s1, -, -, -, s5, s6, s7, -⟩, -, -, -, -, -, s12⟩ := s
  rw [E_Pr_sum]
  simp (disch := omega) only [U_Pr_sum (cm _), SA, SB, SG, SV, s1, s5, s6, s7, pk_mul, nI_add, nI_clamp, in_eq, true_and]
  rw [Nat.mul_comm]
theorem PXs_i {h : MH} {a c q N n x : Nat} {f : Nat → Int32} (s : PXs h a c q N n) : PXs (sIA h x f) a c q N n := s
theorem clp_i {x : Int} (hx : bd x) : (if nI 0 < (if iI x < nI 99 then iI x else nI 99) then (if iI x < nI 99 then iI x else nI 99) else nI 0) = nI (clp x) := by
  have e1 := iI_lt (bd_r hx) (y := 99) (by omega)
  have e2 := iI_lt (x := 0) (by omega) (bd_r hx)
  rw [show iI 99 = nI 99 from iI_n 99] at e1
  rw [iI0] at e2
  have e3 : nI 0 < nI 99 := by decide
  unfold clp
  by_cases c1 : x < 99
  · rw [if_pos (e1.symm ▸ c1 : iI x < nI 99)]
    by_cases c2 : 0 < x
    · rw [if_pos (e2.symm ▸ c2 : nI 0 < iI x), if_neg (by omega), if_neg (by omega), ← iI_n, Int.toNat_of_nonneg (by omega)]
    · rw [if_neg (fun q => c2 (e2 ▸ q) : ¬ nI 0 < iI x)]
      by_cases c3 : x < 0
      · rw [if_pos c3]
      · rw [if_neg c3, if_neg (by omega), show x.toNat = 0 by omega]
  · rw [if_neg (fun q => c1 (e1 ▸ q) : ¬ iI x < nI 99), if_pos e3, if_neg (by omega)]
    by_cases c3 : 99 < x
    · rw [if_pos c3]
    · rw [if_neg c3, show x.toNat = 99 by omega]
