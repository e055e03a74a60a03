/-! ===== bits ===== -/
def M7 (x : Int32) : Prop := ∃ m, m < 128 ∧ x = nI m
set_option maxRecDepth 100000 in
theorem or7 : ∀ m, m < 128 → ∀ k, k < 7 → (m ||| 1 <<< k) < 128 ∧ nI m ||| sh1 k = nI (m ||| 1 <<< k) ∧ ∀ o, o < 7 → bt (nI (m ||| 1 <<< k)) o = if o = k then nI 1 else bt (nI m) o := by decide +kernel
set_option maxRecDepth 100000 in
theorem an7 : ∀ m, m < 128 → ∀ k, k < 7 → (m &&& (127 ^^^ (1 <<< k))) < 128 ∧ nI m &&& (sh1 k ^^^ (-1 : Int32)) = nI (m &&& (127 ^^^ (1 <<< k))) ∧ ∀ o, o < 7 → bt (nI (m &&& (127 ^^^ (1 <<< k)))) o = if o = k then nI 0 else bt (nI m) o := by decide +kernel
set_option maxRecDepth 100000 in
theorem xo7 : ∀ m, m < 128 → ∀ k, k < 7 → (m ^^^ (1 <<< k)) < 128 ∧ nI m ^^^ sh1 k = nI (m ^^^ (1 <<< k)) ∧ ∀ o, o < 7 → bt (nI (m ^^^ (1 <<< k))) o = if o = k then nI 1 - bt (nI m) o else bt (nI m) o := by decide +kernel
set_option maxRecDepth 100000 in
theorem bt7 : ∀ m, m < 128 → (∀ o, o < 7 → bt (nI m) o = nI 0 ∨ bt (nI m) o = nI 1) ∧ nI m = bt (nI m) 0 + nI 2 * bt (nI m) 1 + nI 4 * bt (nI m) 2 + nI 8 * bt (nI m) 3 + nI 16 * bt (nI m) 4 + nI 32 * bt (nI m) 5 + nI 64 * bt (nI m) 6 := by decide +kernel
theorem bt_0 : ∀ o, o < 7 → bt (nI 0) o = nI 0 := by decide +kernel
theorem M7.ext {x y : Int32} (hx : M7 x) (hy : M7 y) (h : ∀ o, o < 7 → bt x o = bt y o) : x = y := by
  obtain ⟨m, m1, rfl⟩ := hx
  obtain ⟨k, k1, rfl⟩ := hy
  rw [(bt7 m m1).2, (bt7 k k1).2, h 0 (by omega), h 1 (by omega), h 2 (by omega), h 3 (by omega), h 4 (by omega), h 5 (by omega), h 6 (by omega)]
theorem M7.bt {x : Int32} (hx : M7 x) {o : Nat} (ho : o < 7) : bt x o = nI 0 ∨ bt x o = nI 1 := by
  obtain ⟨m, m1, rfl⟩ := hx
  exact (bt7 m m1).1 o ho
theorem M7.or {x : Int32} (hx : M7 x) {k : Nat} (hk : k < 7) : M7 (x ||| sh1 k) ∧ ∀ o, o < 7 → Jvm.Pilot.CDiffusingRoutesLaw_law_r4474_45e1b3.bt (x ||| sh1 k) o = if o = k then nI 1 else Jvm.Pilot.CDiffusingRoutesLaw_law_r4474_45e1b3.bt x o := by
  obtain ⟨m, m1, rfl⟩ := hx
  obtain ⟨a, b, c⟩ := or7 m m1 k hk
  rw [b]
  exact ⟨⟨_, a, rfl⟩, c⟩
theorem M7.an {x : Int32} (hx : M7 x) {k : Nat} (hk : k < 7) : M7 (x &&& (sh1 k ^^^ (-1))) ∧ ∀ o, o < 7 → Jvm.Pilot.CDiffusingRoutesLaw_law_r4474_45e1b3.bt (x &&& (sh1 k ^^^ (-1))) o = if o = k then nI 0 else Jvm.Pilot.CDiffusingRoutesLaw_law_r4474_45e1b3.bt x o := by
  obtain ⟨m, m1, rfl⟩ := hx
  obtain ⟨a, b, c⟩ := an7 m m1 k hk
  rw [b]
  exact ⟨⟨_, a, rfl⟩, c⟩
theorem M7.xo {x : Int32} (hx : M7 x) {k : Nat} (hk : k < 7) : M7 (x ^^^ sh1 k) ∧ ∀ o, o < 7 → Jvm.Pilot.CDiffusingRoutesLaw_law_r4474_45e1b3.bt (x ^^^ sh1 k) o = if o = k then nI 1 - Jvm.Pilot.CDiffusingRoutesLaw_law_r4474_45e1b3.bt x o else Jvm.Pilot.CDiffusingRoutesLaw_law_r4474_45e1b3.bt x o := by
  obtain ⟨m, m1, rfl⟩ := hx
  obtain ⟨a, b, c⟩ := xo7 m m1 k hk
  rw [b]
  exact ⟨⟨_, a, rfl⟩, c⟩
theorem m7_0 : M7 (nI 0) := ⟨0, by omega, rfl⟩
theorem n01 : ¬ nI 0 = nI 1 := by decide
theorem n10 : ¬ nI 1 = nI 0 := by decide
/-- bits put together one by one -/
theorem enc_inv {c : Nat → Prop} {g : Int32 → Nat → Int32} (h1 : ∀ x o, o < 7 → c o → g x o = x ||| sh1 o) (h2 : ∀ x o, o < 7 → M7 x → ¬ c o → g x o = x) : ∀ (m k : Nat) (x : Int32), k + m = 7 → M7 x → (∀ o, o < k → (bt x o = nI 1 ↔ c o)) → (∀ o, k ≤ o → o < 7 → bt x o = nI 0) → M7 (itr g k m x) ∧ ∀ o, o < 7 → (bt (itr g k m x) o = nI 1 ↔ c o)
  | 0, k, x, hk, hx, ha, hb => by
    obtain rfl : k = 7 := by omega
    exact ⟨hx, fun o ho => ha o ho⟩
  | m + 1, k, x, hk, hx, ha, hb => by
    rw [itr_s]
    by_cases q : c k
    · rw [h1 x k (by omega) q]
      obtain ⟨a, b⟩ := hx.or (k := k) (by omega)
      refine enc_inv h1 h2 m (k + 1) _ (by omega) a (fun o ho => ?_) (fun o h3 h4 => ?_)
      · rw [b o (by omega)]
        by_cases e : o = k
        · rw [if_pos e]; subst e; exact ⟨fun _ => q, fun _ => rfl⟩
        · rw [if_neg e]; exact ha o (by omega)
      · rw [b o h4, if_neg (by omega)]; exact hb o (by omega) h4
    · rw [h2 x k (by omega) hx q]
      refine enc_inv h1 h2 m (k + 1) _ (by omega) hx (fun o ho => ?_) (fun o h3 h4 => hb o (by omega) h4)
      by_cases e : o = k
      · subst e; rw [hb o (Nat.le_refl _) (by omega)]; exact ⟨fun z => absurd z n01, fun z => absurd z q⟩
      · exact ha o (by omega)
set_option maxRecDepth 100000 in
theorem or0 : ∀ m, m < 128 → nI m ||| nI 0 = nI m := by decide +kernel
theorem mNb_b (p : RW) (r : Nat) : M7 (mNb p r) ∧ ∀ o, o < 7 → (bt (mNb p r) o = nI 1 ↔ nI 0 < gC p r o) :=
  enc_inv (c := fun o => nI 0 < gC p r o) (fun x o _ q => by rw [if_pos q]) (fun x o _ hx q => by obtain ⟨m, m1, rfl⟩ := hx; rw [if_neg q, or0 m m1]) 7 0 _ rfl m7_0 (fun o h => absurd h (Nat.not_lt_zero o)) (fun o _ h => bt_0 o h)
theorem mFs_b (p : RW) (r : Nat) : M7 (mFs p r) ∧ ∀ o, o < 7 → (bt (mFs p r) o = nI 1 ↔ mFeas p r o) := by
  have h := enc_inv (c := fun o => bt (mNb p r) o = nI 1 ∧ gT p r o < gR p r 1) (g := fun x o => if bt (mNb p r) o = nI 1 ∧ gT p r o < gR p r 1 then x ||| sh1 o else x) (fun x o _ q => if_pos q) (fun x o _ hx q => if_neg q) 7 0 (nI 0) rfl m7_0 (fun o h => absurd h (Nat.not_lt_zero o)) (fun o _ h => bt_0 o h)
  refine ⟨h.1, fun o ho => (h.2 o ho).trans ?_⟩
  unfold mFeas
  rw [(mNb_b p r).2 o ho]
/-! ===== what stays ===== -/
def NF (n : Nat) (h h' : MH) : Prop := (hsz h' = hsz h ∧ hcc h' = hcc h ∧ hcu h' = hcu h ∧ hkd h' = hkd h ∧ hln h' = hln h ∧ hfj h' = hfj h ∧ hfr h' = hfr h ∧ hja h' = hja h ∧ hra h' = hra h) ∧ (∀ a, a ≠ n → hfi h' a = hfi h a) ∧ (∀ a, (a ≤ n ∨ n + 9 < a) → hia h' a = hia h a)
theorem NF.refl (n : Nat) (h : MH) : NF n h h := ⟨⟨rfl, rfl, rfl, rfl, rfl, rfl, rfl, rfl, rfl⟩, fun _ _ => rfl, fun _ _ => rfl⟩
theorem NF.trans {n : Nat} {a b c : MH} (x : NF n a b) (y : NF n b c) : NF n a c := by
  obtain ⟨⟨x1, x2, x3, x4, x5, x6, x7, x8, x9⟩, x10, x11⟩ := x
  obtain ⟨⟨y1, y2, y3, y4, y5, y6, y7, y8, y9⟩, y10, y11⟩ := y
  exact ⟨⟨y1.trans x1, y2.trans x2, y3.trans x3, y4.trans x4, y5.trans x5, y6.trans x6, y7.trans x7, y8.trans x8, y9.trans x9⟩, fun q e => (y10 q e).trans (x10 q e), fun q e => (y11 q e).trans (x11 q e)⟩
theorem NF.i {n a : Nat} (h : MH) (f : Nat → Int32) (h1 : n < a) (h2 : a ≤ n + 9) : NF n h (sIA h a f) := ⟨⟨rfl, rfl, rfl, rfl, rfl, rfl, rfl, rfl, rfl⟩, fun _ _ => rfl, fun q e => hia_n h f (by omega)⟩
theorem NF.f {n : Nat} (h : MH) (f : Nat → Int32) : NF n h (sFI h n f) := ⟨⟨rfl, rfl, rfl, rfl, rfl, rfl, rfl, rfl, rfl⟩, fun q e => up1_n (hfi h) f e, fun q e => rfl⟩
theorem NF.S {n : Nat} {h h' : MH} (x : NF n h h') {k : Nat} (s : NeS h k) : NeS h' k := by
  obtain ⟨⟨x1, x2, x3, x4, x5, x6, x7, x8, x9⟩, x10, x11⟩ := x
  unfold NeS AF at s ⊢
  rw [x4, x5, x7]; exact s
/-! ===== folds that look at the same ===== -/
theorem itr_c {α : Type} {g k : α → Nat → α} {N : Nat} (h : ∀ x o, o < N → g x o = k x o) : ∀ (m i : Nat) (x : α), i + m ≤ N → itr g i m x = itr k i m x
  | 0, _, _, _ => rfl
  | m + 1, i, x, hi => by rw [itr_s, itr_s, h x i (by omega)]; exact itr_c h m (i + 1) _ (by omega)
theorem mNb_c {p q : RW} {r : Nat} (h : ∀ o, o < 7 → gC p r o = gC q r o) : mNb p r = mNb q r := itr_c (N := 7) (fun x o ho => by rw [h o ho]) 7 0 _ (by omega)
theorem mBy_c {p q : RW} {r o : Nat} (h : gC p r o = gC q r o) (h2 : gT p r o = gT q r o) : mBy p r o = mBy q r o := by unfold mBy; rw [h, h2]
theorem mLeast_c {p q : RW} {r : Nat} (h : ∀ o, o < 7 → gC p r o = gC q r o ∧ gT p r o = gT q r o) : mLeast p r = mLeast q r := itr_c (N := 7) (fun x o ho => by rw [mBy_c (h o ho).1 (h o ho).2]) 7 0 _ (by omega)
/-! ===== a value is put into the net ===== -/
theorem gC_up {p : RW} {r o k : Nat} {v : Int32} (h : ¬ 7 + 7 * r + o = k) : gC (up1 p k v) r o = gC p r o := up1_n _ _ h
theorem gT_up {p : RW} {r o k : Nat} {v : Int32} (h : ¬ 56 + 7 * r + o = k) : gT (up1 p k v) r o = gT p r o := up1_n _ _ h
theorem mNb_up {p : RW} {r k : Nat} {v : Int32} (hr : r < 7) (h : 56 ≤ k) : mNb (up1 p k v) r = mNb p r := mNb_c (fun o ho => gC_up (by omega))
theorem ql_up {p : RW} {k : Nat} {v : Int32} (h : ¬ 6 = k) : ql (up1 p k v) = ql p := by unfold ql; rw [up1_n _ _ h]
theorem pk_up {p : RW} {i k : Nat} {v : Int32} (h : k < 154) : pk (up1 p k v) i = pk p i := by
  unfold pk; rw [up1_n _ _ (by omega), up1_n _ _ (by omega), up1_n _ _ (by omega), up1_n _ _ (by omega)]
theorem bits7_up {x : Int32} {p : RW} {j k : Nat} {v : Int32} (h : ∀ r, r < 7 → ¬ 105 + 7 * r + j = k) : bits7 x (up1 p k v) j = bits7 x p j := by
  unfold bits7
  refine propext ⟨fun ⟨m, a, b, c⟩ => ⟨m, a, b, fun r hr => (c r hr).trans (gR_up (h r hr))⟩, fun ⟨m, a, b, c⟩ => ⟨m, a, b, fun r hr => (c r hr).trans (gR_up (h r hr)).symm⟩⟩

theorem NeV.dist {h : MH} {n : Nat} {p : RW} (V : NeV h n p) {r : Nat} (hr : r < 7) (v : Int32) : NeV (sIA h (n + 4) (up1 (hia h (n + 4)) r v)) n (up1 p (105 + 7 * r + 0) v) := by
  obtain ⟨v1, v2, v3, v4, v5, v6, v7, v8, v9, v10, v11, v12, v13⟩ := V
  refine ⟨fun r2 o2 h1 h2 => ?_, fun r2 o2 h1 h2 => ?_, fun r2 h1 => ?_, fun r2 h1 => ?_, fun r2 h1 => ?_, fun r2 h1 => ?_, fun r2 h1 => ?_, fun r2 h1 => ?_, fun i hi => ?_, ?_, ?_, ?_, ?_⟩
  · rw [gC_up (by omega), hia_n _ _ (by omega)]; exact v1 r2 o2 h1 h2
  · rw [gT_up (by omega), hia_n _ _ (by omega)]; exact v2 r2 o2 h1 h2
  · rw [mNb_up h1 (by omega), hia_n _ _ (by omega)]; exact v3 r2 h1
  · rw [hia_s]; by_cases e : r2 = r
    · subst e; rw [up1_s]; exact (up1_s _ _ _).symm
    · rw [gR_up (by omega), up1_n _ _ e]; exact v4 r2 h1
  · rw [gR_up (by omega), hia_n _ _ (by omega)]; exact v5 r2 h1
  · rw [gR_up (by omega), hia_n _ _ (by omega)]; exact v6 r2 h1
  · rw [gR_up (by omega), hia_n _ _ (by omega)]; exact v7 r2 h1
  · rw [gR_up (by omega), hia_n _ _ (by omega)]; exact v8 r2 h1
  · rw [ql_up (by omega)] at hi; rw [pk_up (by omega), hia_n _ _ (by omega)]; exact v9 i hi
  · rw [up1_n _ _ (by omega)]; exact v10
  · rw [bits7_up (fun r3 h3 => by omega)]; exact v11
  · rw [bits7_up (fun r3 h3 => by omega)]; exact v12
  · rw [up1_n _ _ (by omega)]; exact v13
theorem NeV.bnd {h : MH} {n : Nat} {p : RW} (V : NeV h n p) {r : Nat} (hr : r < 7) (v : Int32) : NeV (sIA h (n + 5) (up1 (hia h (n + 5)) r v)) n (up1 p (105 + 7 * r + 1) v) := by
  obtain ⟨v1, v2, v3, v4, v5, v6, v7, v8, v9, v10, v11, v12, v13⟩ := V
  refine ⟨fun r2 o2 h1 h2 => ?_, fun r2 o2 h1 h2 => ?_, fun r2 h1 => ?_, fun r2 h1 => ?_, fun r2 h1 => ?_, fun r2 h1 => ?_, fun r2 h1 => ?_, fun r2 h1 => ?_, fun i hi => ?_, ?_, ?_, ?_, ?_⟩
  · rw [gC_up (by omega), hia_n _ _ (by omega)]; exact v1 r2 o2 h1 h2
  · rw [gT_up (by omega), hia_n _ _ (by omega)]; exact v2 r2 o2 h1 h2
  · rw [mNb_up h1 (by omega), hia_n _ _ (by omega)]; exact v3 r2 h1
  · rw [gR_up (by omega), hia_n _ _ (by omega)]; exact v4 r2 h1
  · rw [hia_s]; by_cases e : r2 = r
    · subst e; rw [up1_s]; exact (up1_s _ _ _).symm
    · rw [gR_up (by omega), up1_n _ _ e]; exact v5 r2 h1
  · rw [gR_up (by omega), hia_n _ _ (by omega)]; exact v6 r2 h1
  · rw [gR_up (by omega), hia_n _ _ (by omega)]; exact v7 r2 h1
  · rw [gR_up (by omega), hia_n _ _ (by omega)]; exact v8 r2 h1
  · rw [ql_up (by omega)] at hi; rw [pk_up (by omega), hia_n _ _ (by omega)]; exact v9 i hi
  · rw [up1_n _ _ (by omega)]; exact v10
  · rw [bits7_up (fun r3 h3 => by omega)]; exact v11
  · rw [bits7_up (fun r3 h3 => by omega)]; exact v12
  · rw [up1_n _ _ (by omega)]; exact v13
theorem NeV.suc {h : MH} {n : Nat} {p : RW} (V : NeV h n p) {r : Nat} (hr : r < 7) (v : Int32) : NeV (sIA h (n + 6) (up1 (hia h (n + 6)) r v)) n (up1 p (105 + 7 * r + 2) v) := by
  obtain ⟨v1, v2, v3, v4, v5, v6, v7, v8, v9, v10, v11, v12, v13⟩ := V
  refine ⟨fun r2 o2 h1 h2 => ?_, fun r2 o2 h1 h2 => ?_, fun r2 h1 => ?_, fun r2 h1 => ?_, fun r2 h1 => ?_, fun r2 h1 => ?_, fun r2 h1 => ?_, fun r2 h1 => ?_, fun i hi => ?_, ?_, ?_, ?_, ?_⟩
  · rw [gC_up (by omega), hia_n _ _ (by omega)]; exact v1 r2 o2 h1 h2
  · rw [gT_up (by omega), hia_n _ _ (by omega)]; exact v2 r2 o2 h1 h2
  · rw [mNb_up h1 (by omega), hia_n _ _ (by omega)]; exact v3 r2 h1
  · rw [gR_up (by omega), hia_n _ _ (by omega)]; exact v4 r2 h1
  · rw [gR_up (by omega), hia_n _ _ (by omega)]; exact v5 r2 h1
  · rw [hia_s]; by_cases e : r2 = r
    · subst e; rw [up1_s]; exact (up1_s _ _ _).symm
    · rw [gR_up (by omega), up1_n _ _ e]; exact v6 r2 h1
  · rw [gR_up (by omega), hia_n _ _ (by omega)]; exact v7 r2 h1
  · rw [gR_up (by omega), hia_n _ _ (by omega)]; exact v8 r2 h1
  · rw [ql_up (by omega)] at hi; rw [pk_up (by omega), hia_n _ _ (by omega)]; exact v9 i hi
  · rw [up1_n _ _ (by omega)]; exact v10
  · rw [bits7_up (fun r3 h3 => by omega)]; exact v11
  · rw [bits7_up (fun r3 h3 => by omega)]; exact v12
  · rw [up1_n _ _ (by omega)]; exact v13
theorem NeV.out {h : MH} {n : Nat} {p : RW} (V : NeV h n p) {r : Nat} (hr : r < 7) (v : Int32) : NeV (sIA h (n + 7) (up1 (hia h (n + 7)) r v)) n (up1 p (105 + 7 * r + 4) v) := by
  obtain ⟨v1, v2, v3, v4, v5, v6, v7, v8, v9, v10, v11, v12, v13⟩ := V
  refine ⟨fun r2 o2 h1 h2 => ?_, fun r2 o2 h1 h2 => ?_, fun r2 h1 => ?_, fun r2 h1 => ?_, fun r2 h1 => ?_, fun r2 h1 => ?_, fun r2 h1 => ?_, fun r2 h1 => ?_, fun i hi => ?_, ?_, ?_, ?_, ?_⟩
  · rw [gC_up (by omega), hia_n _ _ (by omega)]; exact v1 r2 o2 h1 h2
  · rw [gT_up (by omega), hia_n _ _ (by omega)]; exact v2 r2 o2 h1 h2
  · rw [mNb_up h1 (by omega), hia_n _ _ (by omega)]; exact v3 r2 h1
  · rw [gR_up (by omega), hia_n _ _ (by omega)]; exact v4 r2 h1
  · rw [gR_up (by omega), hia_n _ _ (by omega)]; exact v5 r2 h1
  · rw [gR_up (by omega), hia_n _ _ (by omega)]; exact v6 r2 h1
  · rw [hia_s]; by_cases e : r2 = r
    · subst e; rw [up1_s]; exact (up1_s _ _ _).symm
    · rw [gR_up (by omega), up1_n _ _ e]; exact v7 r2 h1
  · rw [gR_up (by omega), hia_n _ _ (by omega)]; exact v8 r2 h1
  · rw [ql_up (by omega)] at hi; rw [pk_up (by omega), hia_n _ _ (by omega)]; exact v9 i hi
  · rw [up1_n _ _ (by omega)]; exact v10
  · rw [bits7_up (fun r3 h3 => by omega)]; exact v11
  · rw [bits7_up (fun r3 h3 => by omega)]; exact v12
  · rw [up1_n _ _ (by omega)]; exact v13
theorem NeV.owd {h : MH} {n : Nat} {p : RW} (V : NeV h n p) {r : Nat} (hr : r < 7) (v : Int32) : NeV (sIA h (n + 8) (up1 (hia h (n + 8)) r v)) n (up1 p (105 + 7 * r + 5) v) := by
  obtain ⟨v1, v2, v3, v4, v5, v6, v7, v8, v9, v10, v11, v12, v13⟩ := V
  refine ⟨fun r2 o2 h1 h2 => ?_, fun r2 o2 h1 h2 => ?_, fun r2 h1 => ?_, fun r2 h1 => ?_, fun r2 h1 => ?_, fun r2 h1 => ?_, fun r2 h1 => ?_, fun r2 h1 => ?_, fun i hi => ?_, ?_, ?_, ?_, ?_⟩
  · rw [gC_up (by omega), hia_n _ _ (by omega)]; exact v1 r2 o2 h1 h2
  · rw [gT_up (by omega), hia_n _ _ (by omega)]; exact v2 r2 o2 h1 h2
  · rw [mNb_up h1 (by omega), hia_n _ _ (by omega)]; exact v3 r2 h1
  · rw [gR_up (by omega), hia_n _ _ (by omega)]; exact v4 r2 h1
  · rw [gR_up (by omega), hia_n _ _ (by omega)]; exact v5 r2 h1
  · rw [gR_up (by omega), hia_n _ _ (by omega)]; exact v6 r2 h1
  · rw [gR_up (by omega), hia_n _ _ (by omega)]; exact v7 r2 h1
  · rw [hia_s]; by_cases e : r2 = r
    · subst e; rw [up1_s]; exact (up1_s _ _ _).symm
    · rw [gR_up (by omega), up1_n _ _ e]; exact v8 r2 h1
  · rw [ql_up (by omega)] at hi; rw [pk_up (by omega), hia_n _ _ (by omega)]; exact v9 i hi
  · rw [up1_n _ _ (by omega)]; exact v10
  · rw [bits7_up (fun r3 h3 => by omega)]; exact v11
  · rw [bits7_up (fun r3 h3 => by omega)]; exact v12
  · rw [up1_n _ _ (by omega)]; exact v13
theorem NeV.tol {h : MH} {n : Nat} {p : RW} (V : NeV h n p) {r o : Nat} (hr : r < 7) (ho : o < 7) (v : Int32) : NeV (sIA h (n + 2) (up1 (hia h (n + 2)) (r * 7 + o) v)) n (up1 p (56 + 7 * r + o) v) := by
  obtain ⟨v1, v2, v3, v4, v5, v6, v7, v8, v9, v10, v11, v12, v13⟩ := V
  refine ⟨fun r2 o2 h1 h2 => ?_, fun r2 o2 h1 h2 => ?_, fun r2 h1 => ?_, fun r2 h1 => ?_, fun r2 h1 => ?_, fun r2 h1 => ?_, fun r2 h1 => ?_, fun r2 h1 => ?_, fun i hi => ?_, ?_, ?_, ?_, ?_⟩
  · rw [gC_up (by omega), hia_n _ _ (by omega)]; exact v1 r2 o2 h1 h2
  · rw [hia_s]; by_cases e : r2 * 7 + o2 = r * 7 + o
    · rw [e, up1_s]; unfold gT; rw [show 56 + 7 * r2 + o2 = 56 + 7 * r + o by omega, up1_s]
    · rw [gT_up (by omega), up1_n _ _ e]; exact v2 r2 o2 h1 h2
  · rw [mNb_up h1 (by omega), hia_n _ _ (by omega)]; exact v3 r2 h1
  · rw [gR_up (by omega), hia_n _ _ (by omega)]; exact v4 r2 h1
  · rw [gR_up (by omega), hia_n _ _ (by omega)]; exact v5 r2 h1
  · rw [gR_up (by omega), hia_n _ _ (by omega)]; exact v6 r2 h1
  · rw [gR_up (by omega), hia_n _ _ (by omega)]; exact v7 r2 h1
  · rw [gR_up (by omega), hia_n _ _ (by omega)]; exact v8 r2 h1
  · rw [ql_up (by omega)] at hi; rw [pk_up (by omega), hia_n _ _ (by omega)]; exact v9 i hi
  · rw [up1_n _ _ (by omega)]; exact v10
  · rw [bits7_up (fun r3 h3 => by omega)]; exact v11
  · rw [bits7_up (fun r3 h3 => by omega)]; exact v12
  · rw [up1_n _ _ (by omega)]; exact v13
theorem NeV.act1 {h : MH} {n : Nat} {p : RW} (V : NeV h n p) {r : Nat} (hr : r < 7) : NeV (sFI h n (up1 (hfi h n) 10 (hfi h n 10 ||| sh1 r))) n (up1 p (105 + 7 * r + 3) (nI 1)) := by
  obtain ⟨v1, v2, v3, v4, v5, v6, v7, v8, v9, v10, v11, v12, v13⟩ := V
  refine ⟨fun r2 o2 h1 h2 => ?_, fun r2 o2 h1 h2 => ?_, fun r2 h1 => ?_, fun r2 h1 => ?_, fun r2 h1 => ?_, fun r2 h1 => ?_, fun r2 h1 => ?_, fun r2 h1 => ?_, fun i hi => ?_, ?_, ?_, ?_, ?_⟩
  · rw [gC_up (by omega)]; exact v1 r2 o2 h1 h2
  · rw [gT_up (by omega)]; exact v2 r2 o2 h1 h2
  · rw [mNb_up h1 (by omega)]; exact v3 r2 h1
  · rw [gR_up (by omega)]; exact v4 r2 h1
  · rw [gR_up (by omega)]; exact v5 r2 h1
  · rw [gR_up (by omega)]; exact v6 r2 h1
  · rw [gR_up (by omega)]; exact v7 r2 h1
  · rw [gR_up (by omega)]; exact v8 r2 h1
  · rw [ql_up (by omega)] at hi; rw [pk_up (by omega)]; exact v9 i hi
  · rw [hfi_s, up1_n _ _ (by omega), up1_n _ _ (by omega)]; exact v10
  · rw [hfi_s, up1_s]
    obtain ⟨m, m1, m2, m3⟩ := v11
    obtain ⟨⟨k, k1, k2⟩, k3⟩ := M7.or (x := hfi h n 10) ⟨m, m1, m2⟩ hr
    refine ⟨k, k1, k2, fun r2 h2 => ?_⟩
    rw [k3 r2 h2]
    by_cases e : r2 = r
    · subst e; rw [if_pos rfl]; exact (up1_s _ _ _).symm
    · rw [if_neg e, gR_up (by omega)]; exact m3 r2 h2
  · rw [hfi_s, up1_n _ _ (by omega), bits7_up (fun r3 h3 => by omega)]; exact v12
  · rw [hfi_s, up1_n _ _ (by omega), up1_n _ _ (by omega)]; exact v13
theorem NeV.act0 {h : MH} {n : Nat} {p : RW} (V : NeV h n p) {r : Nat} (hr : r < 7) : NeV (sFI h n (up1 (hfi h n) 10 (hfi h n 10 &&& (sh1 r ^^^ (-1))))) n (up1 p (105 + 7 * r + 3) (nI 0)) := by
  obtain ⟨v1, v2, v3, v4, v5, v6, v7, v8, v9, v10, v11, v12, v13⟩ := V
  refine ⟨fun r2 o2 h1 h2 => ?_, fun r2 o2 h1 h2 => ?_, fun r2 h1 => ?_, fun r2 h1 => ?_, fun r2 h1 => ?_, fun r2 h1 => ?_, fun r2 h1 => ?_, fun r2 h1 => ?_, fun i hi => ?_, ?_, ?_, ?_, ?_⟩
  · rw [gC_up (by omega)]; exact v1 r2 o2 h1 h2
  · rw [gT_up (by omega)]; exact v2 r2 o2 h1 h2
  · rw [mNb_up h1 (by omega)]; exact v3 r2 h1
  · rw [gR_up (by omega)]; exact v4 r2 h1
  · rw [gR_up (by omega)]; exact v5 r2 h1
  · rw [gR_up (by omega)]; exact v6 r2 h1
  · rw [gR_up (by omega)]; exact v7 r2 h1
  · rw [gR_up (by omega)]; exact v8 r2 h1
  · rw [ql_up (by omega)] at hi; rw [pk_up (by omega)]; exact v9 i hi
  · rw [hfi_s, up1_n _ _ (by omega), up1_n _ _ (by omega)]; exact v10
  · rw [hfi_s, up1_s]
    obtain ⟨m, m1, m2, m3⟩ := v11
    obtain ⟨⟨k, k1, k2⟩, k3⟩ := M7.an (x := hfi h n 10) ⟨m, m1, m2⟩ hr
    refine ⟨k, k1, k2, fun r2 h2 => ?_⟩
    rw [k3 r2 h2]
    by_cases e : r2 = r
    · subst e; rw [if_pos rfl]; exact (up1_s _ _ _).symm
    · rw [if_neg e, gR_up (by omega)]; exact m3 r2 h2
  · rw [hfi_s, up1_n _ _ (by omega), bits7_up (fun r3 h3 => by omega)]; exact v12
  · rw [hfi_s, up1_n _ _ (by omega), up1_n _ _ (by omega)]; exact v13
theorem NeV.wor1 {h : MH} {n : Nat} {p : RW} (V : NeV h n p) {r : Nat} (hr : r < 7) : NeV (sFI h n (up1 (hfi h n) 11 (hfi h n 11 ||| sh1 r))) n (up1 p (105 + 7 * r + 6) (nI 1)) := by
  obtain ⟨v1, v2, v3, v4, v5, v6, v7, v8, v9, v10, v11, v12, v13⟩ := V
  refine ⟨fun r2 o2 h1 h2 => ?_, fun r2 o2 h1 h2 => ?_, fun r2 h1 => ?_, fun r2 h1 => ?_, fun r2 h1 => ?_, fun r2 h1 => ?_, fun r2 h1 => ?_, fun r2 h1 => ?_, fun i hi => ?_, ?_, ?_, ?_, ?_⟩
  · rw [gC_up (by omega)]; exact v1 r2 o2 h1 h2
  · rw [gT_up (by omega)]; exact v2 r2 o2 h1 h2
  · rw [mNb_up h1 (by omega)]; exact v3 r2 h1
  · rw [gR_up (by omega)]; exact v4 r2 h1
  · rw [gR_up (by omega)]; exact v5 r2 h1
  · rw [gR_up (by omega)]; exact v6 r2 h1
  · rw [gR_up (by omega)]; exact v7 r2 h1
  · rw [gR_up (by omega)]; exact v8 r2 h1
  · rw [ql_up (by omega)] at hi; rw [pk_up (by omega)]; exact v9 i hi
  · rw [hfi_s, up1_n _ _ (by omega), up1_n _ _ (by omega)]; exact v10
  · rw [hfi_s, up1_n _ _ (by omega), bits7_up (fun r3 h3 => by omega)]; exact v11
  · rw [hfi_s, up1_s]
    obtain ⟨m, m1, m2, m3⟩ := v12
    obtain ⟨⟨k, k1, k2⟩, k3⟩ := M7.or (x := hfi h n 11) ⟨m, m1, m2⟩ hr
    refine ⟨k, k1, k2, fun r2 h2 => ?_⟩
    rw [k3 r2 h2]
    by_cases e : r2 = r
    · subst e; rw [if_pos rfl]; exact (up1_s _ _ _).symm
    · rw [if_neg e, gR_up (by omega)]; exact m3 r2 h2
  · rw [hfi_s, up1_n _ _ (by omega), up1_n _ _ (by omega)]; exact v13
theorem NeV.wor0 {h : MH} {n : Nat} {p : RW} (V : NeV h n p) {r : Nat} (hr : r < 7) : NeV (sFI h n (up1 (hfi h n) 11 (hfi h n 11 &&& (sh1 r ^^^ (-1))))) n (up1 p (105 + 7 * r + 6) (nI 0)) := by
  obtain ⟨v1, v2, v3, v4, v5, v6, v7, v8, v9, v10, v11, v12, v13⟩ := V
  refine ⟨fun r2 o2 h1 h2 => ?_, fun r2 o2 h1 h2 => ?_, fun r2 h1 => ?_, fun r2 h1 => ?_, fun r2 h1 => ?_, fun r2 h1 => ?_, fun r2 h1 => ?_, fun r2 h1 => ?_, fun i hi => ?_, ?_, ?_, ?_, ?_⟩
  · rw [gC_up (by omega)]; exact v1 r2 o2 h1 h2
  · rw [gT_up (by omega)]; exact v2 r2 o2 h1 h2
  · rw [mNb_up h1 (by omega)]; exact v3 r2 h1
  · rw [gR_up (by omega)]; exact v4 r2 h1
  · rw [gR_up (by omega)]; exact v5 r2 h1
  · rw [gR_up (by omega)]; exact v6 r2 h1
  · rw [gR_up (by omega)]; exact v7 r2 h1
  · rw [gR_up (by omega)]; exact v8 r2 h1
  · rw [ql_up (by omega)] at hi; rw [pk_up (by omega)]; exact v9 i hi
  · rw [hfi_s, up1_n _ _ (by omega), up1_n _ _ (by omega)]; exact v10
  · rw [hfi_s, up1_n _ _ (by omega), bits7_up (fun r3 h3 => by omega)]; exact v11
  · rw [hfi_s, up1_s]
    obtain ⟨m, m1, m2, m3⟩ := v12
    obtain ⟨⟨k, k1, k2⟩, k3⟩ := M7.an (x := hfi h n 11) ⟨m, m1, m2⟩ hr
    refine ⟨k, k1, k2, fun r2 h2 => ?_⟩
    rw [k3 r2 h2]
    by_cases e : r2 = r
    · subst e; rw [if_pos rfl]; exact (up1_s _ _ _).symm
    · rw [if_neg e, gR_up (by omega)]; exact m3 r2 h2
  · rw [hfi_s, up1_n _ _ (by omega), up1_n _ _ (by omega)]; exact v13
