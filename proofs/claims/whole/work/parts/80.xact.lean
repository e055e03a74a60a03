/-! ===== acts, whole: what is kept ===== -/
def aRaw (Lo : Option LWS) (p : RW) (kd : Nat) (one other costs : Int32) : RW := if kd = 1 then dl Lo p else if kd = 2 then mCut p (nn one) else mLnk p (nn one) (nn other) costs
def aTold (Lo : Option LWS) (p : RW) (kd : Nat) (one other : Int32) : Int32 := if kd = 1 then p (154 + 4 * jNx Lo p) else if kd = 2 then mMany (gR p (nn one) 4) else gC p (nn one) (nn other)
theorem aDo_eq (Lo : Option LWS) (p : RW) (kd : Nat) (one other costs : Int32) : aDo Lo p kd one other costs = ov p (aRaw Lo p kd one other costs) (aTold Lo p kd one other) := by
  unfold aDo aRaw aTold
  split
  · rfl
  · split <;> rfl
theorem LO_of {p q : RW} {k : Nat} (h : HIQ p q k) (hQ : QL p 400) (hk : k ≤ 60) : LO p q := (h 400 hQ (by omega)).1
/-- what must hold for an act that nothing is in the way of -/
theorem ref_0 {Lo : Option LWS} {p : RW} {one other costs : Int32} (h : aRef Lo p 0 one other costs = nI 0) : ∃ a b c, a < 7 ∧ b < 7 ∧ a ≠ b ∧ c ≤ 50 ∧ one = nI a ∧ other = nI b ∧ costs = nI c ∧ ¬ gC p a b = nI c := by
  unfold aRef at h
  rw [if_neg (by omega), if_neg (by omega)] at h
  by_cases c : isR one ∧ isR other ∧ ¬ one = other ∧ nI 0 ≤ costs ∧ costs ≤ nI 50
  · rw [if_pos c] at h
    obtain ⟨r1, r2, r3, r4⟩ := c
    obtain ⟨a, ha, rfl⟩ := isR_n r1
    obtain ⟨b, hb, rfl⟩ := isR_n r2
    obtain ⟨c, hc, rfl⟩ := rng_n (by omega) r4
    rw [nn_n (by omega), nn_n (by omega)] at h
    refine ⟨a, b, c, ha, hb, fun z => r3 (by rw [z]), hc, rfl, rfl, rfl, fun z => ?_⟩
    rw [if_pos (Or.inl z)] at h
    exact absurd h (by decide)
  · rw [if_neg c] at h
    exact absurd h (by decide)
theorem ref_2 {Lo : Option LWS} {p : RW} {one other costs : Int32} (h : aRef Lo p 2 one other costs = nI 0) : ∃ r, r < 7 ∧ one = nI r ∧ ¬ gR p r 3 = nI 0 := by
  unfold aRef at h
  rw [if_neg (by omega), if_pos rfl] at h
  by_cases c : isR one
  · rw [if_pos c] at h
    obtain ⟨a, ha, rfl⟩ := isR_n c
    rw [nn_n (by omega)] at h
    refine ⟨a, ha, rfl, fun z => ?_⟩
    rw [if_pos z] at h
    exact absurd h (by decide)
  · rw [if_neg c] at h
    exact absurd h (by decide)
theorem ref_1 {Lo : Option LWS} {p : RW} {one other costs : Int32} (h : aRef Lo p 1 one other costs = nI 0) : ¬ p 6 = nI 0 := fun z => by
  unfold aRef at h
  rw [if_pos rfl, if_pos z] at h
  exact absurd h (by decide)
theorem raw_ok {Lo : Option LWS} {p : RW} {kd : Nat} {one other costs : Int32} (hkd : kd < 3) (v : IV p) (h : aRef Lo p kd one other costs = nI 0) : WI (aRaw Lo p kd one other costs) 416 ∧ ((∀ s, s < 7 → IO (aRaw Lo p kd one other costs) s ∧ IP (aRaw Lo p kd one other costs) s) ∧ gR (aRaw Lo p kd one other costs) 0 3 = nI 0) ∧ LO p (aRaw Lo p kd one other costs) := by
  have hQ := v.1.2.2.2
  rcases (show kd = 0 ∨ kd = 1 ∨ kd = 2 by omega) with rfl | rfl | rfl
  · obtain ⟨a, b, c, ha, hb, hab, hc, rfl, rfl, rfl, hne⟩ := ref_0 h
    unfold aRaw
    rw [if_neg (by omega), if_neg (by omega), nn_n (by omega), nn_n (by omega)]
    obtain ⟨x, y⟩ := iv_lnk ha hb hab hc v hne
    exact ⟨x, y, LO_of (hi_lnk p (nI c) ha hb) hQ (by omega)⟩
  · have h6 := ref_1 h
    have hq0 : 0 < ql p := by
      rw [hQ.1, eqI (by have := hQ.2; omega) (by omega)] at h6
      omega
    obtain ⟨-, n2⟩ := jNx_ok Lo hq0 (by have := hQ.2; omega)
    obtain ⟨k, f, t, d, mv, l⟩ := v.1.2.1 _ n2
    unfold aRaw
    rw [if_pos rfl, dl_eq mv]
    obtain ⟨x, y⟩ := iv_dlv v n2 mv l
    exact ⟨x.mono (by omega), y, LO_of (hi_dlv p mv.2.2.1 mv.2.1) hQ (by omega)⟩
  · obtain ⟨r, hr, rfl, h3⟩ := ref_2 h
    unfold aRaw
    rw [if_neg (by omega), if_pos rfl, nn_n (by omega)]
    obtain ⟨x, y⟩ := iv_cut hr v ((v.1.1.2.2 r hr).2.2.1.resolve_left h3)
    exact ⟨x.mono (by omega), y, LO_of (hi_cut p hr) hQ (by omega)⟩
theorem aAct_ok {Lo : Option LWS} {p : RW} {kd : Nat} {one other costs : Int32} (hkd : kd < 3) (v : IV p) : IV (aAct Lo p kd one other costs).2 ∧ LO p (aAct Lo p kd one other costs).2 := by
  unfold aAct
  by_cases c : aRef Lo p kd one other costs = nI 0
  · rw [if_pos c, aDo_eq]
    obtain ⟨x, y, z⟩ := raw_ok hkd v c
    exact ov_iv v x y z
  · rw [if_neg c]; exact ⟨v, fun _ _ => rfl⟩
theorem NeV_c {h : MH} {n : Nat} {p q : RW} (hq : ∀ j, 5 ≤ j → j < 1754 → q j = p j) (hQ : QL p 400) (V : NeV h n p) : NeV h n q := by
  obtain ⟨v1, v2, v3, v4, v5, v6, v7, v8, v9, v10, v11, v12, v13⟩ := V
  have gc : ∀ a b, a < 7 → b < 7 → gC q a b = gC p a b := fun a b ha hb => hq _ (by omega) (by omega)
  have gr : ∀ a j, a < 7 → j < 7 → gR q a j = gR p a j := fun a j ha hj => hq _ (by omega) (by omega)
  have e6 : q 6 = p 6 := hq 6 (by omega) (by omega)
  have eq : ql q = ql p := by unfold ql; rw [e6]
  have hq2 := hQ.2
  refine ⟨fun r o hr ho => by rw [gc r o hr ho]; exact v1 r o hr ho, fun r o hr ho => by rw [show gT q r o = gT p r o from hq _ (by omega) (by omega)]; exact v2 r o hr ho, fun r hr => by rw [mNb_c (fun o ho => gc r o hr ho)]; exact v3 r hr, fun r hr => by rw [gr r 0 hr (by omega)]; exact v4 r hr, fun r hr => by rw [gr r 1 hr (by omega)]; exact v5 r hr, fun r hr => by rw [gr r 2 hr (by omega)]; exact v6 r hr, fun r hr => by rw [gr r 4 hr (by omega)]; exact v7 r hr, fun r hr => by rw [gr r 5 hr (by omega)]; exact v8 r hr, fun i hi => ?_, v10.trans e6.symm, bits7_c (fun r hr => gr r 3 hr (by omega)) v11, bits7_c (fun r hr => gr r 6 hr (by omega)) v12, v13.trans (hq 5 (by omega) (by omega)).symm⟩
  rw [eq] at hi
  rw [v9 i hi]
  unfold pk
  rw [hq _ (by omega) (by omega), hq _ (by omega) (by omega), hq _ (by omega) (by omega), hq _ (by omega) (by omega)]
/-! ===== the program's history ===== -/
def AR (N nx : Nat) (h h' : MH) : Prop := (hsz h' = hsz h ∧ hcc h' = hcc h ∧ hcu h' = hcu h ∧ SHE h h' ∧ hfj h' = hfj h ∧ hja h' = hja h) ∧ (∀ a, a ≠ N → a ≠ 43 + 10 * nx → a ≠ 40 → hfi h' a = hfi h a) ∧ (∀ a, (a ≤ N ∨ N + 9 < a) → (a ≤ 43 + 10 * nx ∨ 43 + 10 * nx + 9 < a) → a ≠ 219 → a ≠ 220 → a ≠ 42 → hia h' a = hia h a)
theorem AR.refl (N nx : Nat) (h : MH) : AR N nx h h := ⟨⟨rfl, rfl, rfl, SHE.refl h, rfl, rfl⟩, fun _ _ _ _ => rfl, fun _ _ _ _ _ _ => rfl⟩
theorem AR.trans {N nx : Nat} {a b c : MH} (x : AR N nx a b) (y : AR N nx b c) : AR N nx a c := by
  obtain ⟨⟨x1, x2, x3, x4, x5, x6⟩, x7, x8⟩ := x
  obtain ⟨⟨y1, y2, y3, y4, y5, y6⟩, y7, y8⟩ := y
  exact ⟨⟨y1.trans x1, y2.trans x2, y3.trans x3, x4.trans y4, y5.trans x5, y6.trans x6⟩, fun p q r s => (y7 p q r s).trans (x7 p q r s), fun p q r s t u => (y8 p q r s t u).trans (x8 p q r s t u)⟩
theorem NF.A {N nx : Nat} {h h' : MH} (x : NF N h h') : AR N nx h h' := ⟨⟨x.1.1, x.1.2.1, x.1.2.2.1, x.e, x.1.2.2.2.2.2.1, x.1.2.2.2.2.2.2.2.1⟩, fun a h1 _ _ => x.2.1 a h1, fun a h1 _ _ _ _ => x.2.2 a h1⟩
theorem NF.B {N nx : Nat} {h h' : MH} (x : NF (43 + 10 * nx) h h') : AR N nx h h' := ⟨⟨x.1.1, x.1.2.1, x.1.2.2.1, x.e, x.1.2.2.2.2.2.1, x.1.2.2.2.2.2.2.2.1⟩, fun a _ h1 _ => x.2.1 a h1, fun a _ h1 _ _ _ => x.2.2 a h1⟩
theorem AR.J (N nx : Nat) (h : MH) (f g : Nat → Int32) : AR N nx h (JH h 219 220 f g) := ⟨⟨rfl, rfl, rfl, SHE.refl h, rfl, rfl⟩, fun _ _ _ _ => rfl, fun a _ _ h1 h2 _ => JH_n h1 h2⟩
theorem nI_mod {a b : Nat} (ha : a < 2 ^ 31) (hb : b < 2 ^ 31) : nI a - nI a / nI b * nI b = nI (a % b) := by
  have := iI_rem (x := (a : Int)) (y := (b : Int)) (by omega) (by omega)
  rw [iI_n, iI_n] at this
  rw [this, show ((a : Int).tmod b) = ((a % b : Nat) : Int) from rfl, iI_n]
theorem h_prep (d N nx : Nat) (hN : N + 9 < 43 + 10 * nx ∨ 43 + 10 * nx + 9 < N) (hnx : nx < 17) {h : MH} {p : RW} (s : XS h) (hS : NeS h N) (hV : NeV h N p) (hQ : QL p 420) (h2 : hfi h 40 2 = nI nx) (Q : RT) (kk : ∀ h', XN h (43 + 10 * nx) h' p → Q none h') : callD (d + 2) 1 [.ref 40, .ref N] h Q := by
  obtain ⟨-, -, sh, -, -, -, sn, -⟩ := s
  unfold XSh at sh
  obtain ⟨n1, n2⟩ := sn nx hnx
  rw [E_Hi_prepares]
  simp (disch := omega) only [U_Hi_prepares (cm _), SA, SB, SC1, SC2, SG, SV, sh, h2, n1.1, n2, nI_clamp, in_eq, Nat.reduceLeDiff, true_and, and_true]
  refine y_copies d N (43 + 10 * nx) hN hS hV n1 hQ _ (fun h' X => ?_)
  simp (disch := omega) only [U_Hi_prepares (cm _), SA, SB, SV]
  exact kk h' X
theorem h_put (d N nx : Nat) (hN : N + 9 < 43 + 10 * nx ∨ 43 + 10 * nx + 9 < N) (hnx : nx < 17) {h : MH} {p : RW} (s : XS h) (hS : NeS h N) (hV : NeV h (43 + 10 * nx) p) (hQ : QL p 420) (h2 : hfi h 40 2 = nI nx) (Q : RT) (kk : ∀ h', XN h N h' p → Q none h') : callD (d + 2) 2 [.ref 40, .ref N] h Q := by
  obtain ⟨-, -, sh, -, -, -, sn, -⟩ := s
  unfold XSh at sh
  obtain ⟨n1, n2⟩ := sn nx hnx
  rw [E_Hi_putsBack]
  simp (disch := omega) only [U_Hi_putsBack (cm _), SA, SB, SC1, SC2, SG, SV, sh, h2, hS.1, n2, nI_clamp, in_eq, Nat.reduceLeDiff, true_and, and_true]
  refine y_copies d (43 + 10 * nx) N (by omega) n1 hV hS hQ _ (fun h' X => ?_)
  simp (disch := omega) only [U_Hi_putsBack (cm _), SA, SB, SV]
  exact kk h' X
def hkF (h : MH) (nx n kd : Nat) : MH := sFI (sIA h 42 (up1 (hia h 42) nx (nI kd))) 40 (up1 (up1 (hfi h 40) 2 (nI ((nx + 1) % 17))) 3 (nI (min 16 (n + 1))))
theorem h_keeps (d nx n kd : Nat) (hnx : nx < 17) (hn : n ≤ 16) {h : MH} (s : XS h) (h2 : hfi h 40 2 = nI nx) (h3 : hfi h 40 3 = nI n) (Q : RT) : callD (d + 2) 3 [.ref 40, .int (nI kd)] h Q = Q none (hkF h nx n kd) := by
  obtain ⟨-, -, sh, -⟩ := s
  unfold XSh at sh
  have em : (if n + 1 < 16 then nI (n + 1) else nI 16) = nI (min 16 (n + 1)) := by
    by_cases c : n + 1 < 16
    · rw [if_pos c, Nat.min_eq_right (by omega)]
    · rw [if_neg c, Nat.min_eq_left (by omega)]
  have z17 : ¬ nI 17 = nI 0 := by decide
  rw [E_Hi_keeps]
  unfold hkF
  simp (disch := omega) only [U_Hi_keeps (cm _), SA, SB, SC1, SC2, SG, SV, SK, SM, sh, h2, h3, z17, e_min, em, ltI, nI_add, nI_mod, nI_clamp, in_eq, up1_s, up1_n, Nat.reduceLeDiff, not_false_eq_true, true_and, and_true]
