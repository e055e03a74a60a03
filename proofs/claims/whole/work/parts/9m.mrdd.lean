theorem SR_pe0 {h g e : MH} {pl : PLt} {cf : CFt} {nc : Nat} (s : SR h pl cf nc) (o : Nat) (h1 : 20 ≤ o) (h2 : o ≤ 32) (hn : nc + pl.length + 1 < 400)
    (G : hfi g 273 = up1 (hfi h 273) 29 (nI (pl.length + 1)) ∧ hia g 286 = up1 (hia h 286) pl.length (nI o) ∧ hia g 287 = up1 (hia h 287) pl.length (nI nc) ∧ (∀ b, b ≠ 286 → b ≠ 287 → hia g b = hia h b) ∧ (∀ a, a ≠ 273 → hfi g a = hfi h a))
    (F : hsz g = hsz h ∧ hcc g = hcc h ∧ hcu g = hcu h ∧ SHE h g ∧ hja g = hja h ∧ hfj g = hfj h)
    (G2 : hfi e 273 = up1 (hfi g 273) 23 (nI (nc + 1)) ∧ hia e 284 = up1 (hia g 284) nc (nI o) ∧ hia e 285 = up1 (hia g 285) nc (nI 0) ∧ (∀ b, b ≠ 284 → b ≠ 285 → hia e b = hia g b) ∧ (∀ a, a ≠ 273 → hfi e a = hfi g a))
    (F2 : hsz e = hsz g ∧ hcc e = hcc g ∧ hcu e = hcu g ∧ SHE g e ∧ hja e = hja g ∧ hfj e = hfj g) : SR e ((o, nc) :: pl) (up1 cf nc (o, 0)) (nc + 1) ∧ MRx h e ∧ MoS g ∧ hfi g 273 23 = nI nc := by
  obtain ⟨s1, s2, s3, s4, s5, s6, s7⟩ := s
  obtain ⟨ef, e6, e7, eo, en⟩ := G
  obtain ⟨gf, g4, g5, go, gn⟩ := G2
  obtain ⟨f1, f2, f3, f4, f5, f6⟩ := F
  obtain ⟨k1, k2, k3, k4, k5, k6⟩ := F2
  have ek : ∀ k, k ≠ 23 → k ≠ 29 → hfi e 273 k = hfi h 273 k := fun k a b => by rw [gf, up1_n _ _ a, ef, up1_n _ _ b]
  have gj : hfj e = hfj h := k6.trans f6
  refine ⟨⟨k4.M (f4.M s1), by rw [gf, up1_s], by rw [gf, up1_n _ _ (by omega), ef, up1_s, List.length_cons], fun i hi => ?_, ?_, fun y hy => ?_, by rw [List.length_cons]; omega⟩, ⟨⟨⟨k1.trans f1, k2.trans f2, k3.trans f3, f4.trans k4, k5.trans f5⟩, fun a ha => ⟨(gn a ha).trans (en a ha), by rw [gj]⟩, fun a ha => (go a (by omega) (by omega)).trans (eo a (by omega) (by omega)), fun k _ _ _ _ _ a _ b _ => ek k a b, fun k _ => by rw [gj]⟩, ek, gj⟩, f4.M s1, by rw [ef, up1_n _ _ (by omega)]; exact s2⟩
  · rw [g4, g5, eo _ (by omega) (by omega), eo _ (by omega) (by omega)]
    by_cases c : i = nc
    · subst c; rw [up1_s, up1_s, up1_s]; exact ⟨rfl, rfl⟩
    · rw [up1_n _ _ c, up1_n _ _ c, up1_n _ _ c]; exact s4 i (by omega)
  · rw [go _ (by omega) (by omega), go _ (by omega) (by omega), e6, e7]
    exact ⟨up1_s _ _ _, up1_s _ _ _, PLr_up s5 (Nat.le_refl _)⟩
  · rcases List.mem_cons.mp hy with rfl | hy
    · exact ⟨h1, h2, by show nc ≤ 400; omega, fun _ => Nat.lt_succ_self nc⟩
    · obtain ⟨p1, p2, p3, p4⟩ := s6 y hy
      exact ⟨p1, p2, p3, fun z => by have := p4 z; omega⟩
theorem SR_pe {h : MH} {pl : PLt} {cf : CFt} {nc : Nat} (s : SR h pl cf nc) (o : Nat) (h1 : 20 ≤ o) (h2 : o ≤ 32) (hn : nc + pl.length + 1 < 400) : SR (meH (mpH h pl.length (nI o) (nI nc)) nc (nI o) (nI 0)) ((o, nc) :: pl) (up1 cf nc (o, 0)) (nc + 1) ∧ MRx h (meH (mpH h pl.length (nI o) (nI nc)) nc (nI o) (nI 0)) ∧ MoS (mpH h pl.length (nI o) (nI nc)) ∧ hfi (mpH h pl.length (nI o) (nI nc)) 273 23 = nI nc :=
  SR_pe0 s o h1 h2 hn (mpH_g h pl.length (nI o) (nI nc)) (mpH_f h pl.length (nI o) (nI nc)) (meH_g (mpH h pl.length (nI o) (nI nc)) nc (nI o) (nI 0)) (meH_f (mpH h pl.length (nI o) (nI nc)) nc (nI o) (nI 0))
