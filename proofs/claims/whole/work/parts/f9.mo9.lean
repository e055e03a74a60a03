/-! ===== the reference is made: the whole ===== -/
def MoP (h g : MH) : Prop := hsz g = 300 ∧ (∀ x, x < 273 → Kp h g x ∧ hfr g x = hfr h x) ∧ (MoS g ∧ WDM g ∧ HDM g) ∧ hia g 275 = ini ∧ (hia g 274 = (fun _ => 0) ∧ hia g 276 = (fun _ => 0) ∧ hia g 277 = fun _ => 0) ∧ hfi g 273 = up1 (up1 (fun _ => 0) 18 (-1)) 48 (-1)
set_option maxRecDepth 100000 in
theorem m_mo3 (d : Nat) {h H : MH} {F : Nat → Int32} (M : MIz h H lMo F) (z0 : hia H 275 = fun _ => 0) (R : RT) (lm : Nat × Nat) (K : R none (sIA H 275 ini)) : WP cd_Mo_init (callD (d + 1)) R lm 337 [] [some (.ref 273), none, none] H := by
  have c := M.2.2.2.2 1 (3, 20, 7422) rfl
  obtain ⟨c1, c2, c3⟩ := c
  rw [z32] at z0
  refine m_r337 (d + 1) M.2.2.1 c1 c2 c3 z0 R lm ?_
  refine m_l_inA (d + 1) M.2.2.1 c1 c2 c3 R lm ?_ 49 0 rfl
  rw [← inB_0]
  exact m_l_inB d M.2.2.1 c1 c2 c3 R lm K 7 0 none rfl
set_option maxRecDepth 100000 in
theorem m_mo2 (d : Nat) {h g : MH} {F : Nat → Int32} (M : MIz h g (((([] ++ lM1) ++ lM2) ++ [(31, 21, 7)]) ++ [(32, 21, 6)] ++ [(33, 21, 2)]) F) (R : RT) (K : ∀ H, MIz h H lMo (up1 F 48 (-1)) → KV g H → (hja H 297 0 = lN (ev (wds 0).reverse) ∧ hja H 297 1 = lN (ev (wds 1).reverse) ∧ hja H 297 2 = lN (ev (wds 2).reverse)) → WP cd_Mo_init (callD d) R (hcc g + 9, hcu g + 605) 337 [] [some (.ref 273), none, none] H) : WP cd_Mo_init (callD d) R (hcc g + 9, hcu g + 605) 242 [] [some (.ref 273), none, none] g := by
  have zg : hsz g = 291 := M.1
  refine m_nm3 d (h := g) (by omega) R (fun H1 A1 k1 c1 u1 z1 => ?_) g (AA.nil g 273) M.2.2.1 rfl rfl rfl
  have M1 := M.aa A1 (by decide)
  refine m_nw4 d (h := H1) (by omega) k1 R _ (by show _ ≤ hcc g + 9; omega) (by show _ ≤ hcu g + 605; omega) (fun H2 W2 A2 w2 => ?_)
  have M2 := M1.aj A2 (by decide)
  have j2 := A2.2.2.2.2.2.2
  have s2 := A2.1
  rw [show hsz H1 = 297 by omega] at j2
  rw [show hcc g + 9 = hcc H2 + 2 by omega, show hcu g + 605 = hcu H2 + 141 by omega] at K ⊢
  refine m_nm4 d (h := H2) (by omega) R (fun H3 A3 k3 c3 u3 z3 => ?_) H2 (AA.nil H2 273) M2.2.2.1 rfl rfl rfl
  have M3 := M2.aa A3 (by decide)
  have f3 : hfi H3 273 = F := M3.2.2.2.1
  obtain ⟨M4, V4, q1, q2⟩ := M3.fi (up1 F 48 (-1))
  refine m_pf2 d R _ k3 ?_
  rw [f3]
  generalize sFI H3 273 (up1 F 48 (-1)) = H4 at *
  rw [show hcc H2 + 2 = hcc H4 + 1 by omega, show hcu H2 + 141 = hcu H4 + 21 by omega] at K ⊢
  have z4 : hsz H4 = 299 := M4.1
  refine m_nm5 d (h := H4) (by omega) R (fun H5 A5 k5 c5 u5 z5 => ?_) H4 (AA.nil H4 273) M4.2.2.1 rfl rfl rfl
  have M5 := M4.aa A5 (by decide)
  have V25 : KV H2 H5 := ((KV.aa A3).trans V4).trans (KV.aa A5)
  refine K H5 M5 (((KV.aa A1).trans (KV.aj A2)).trans V25) ?_
  rw [(V25.2 297 (by omega)).2, j2]
  exact w2
set_option maxRecDepth 100000 in
theorem m_mo1 (d : Nat) {h : MH} (k8 : hkd h 273 = 8) (z : hsz h = 274) (f0 : hfi h 273 = fun _ => 0) (R : RT) (K : ∀ g, MoP h g → R none g) : WP cd_Mo_init (callD (d + 1)) R (hcc h + 26, hcu h + 86238) 0 [] [some (.ref 273), none, none] h := by
  have M0 : MIz h h [] (fun _ => 0) := ⟨z, fun x _ => ⟨Kp.refl h x, rfl⟩, k8, f0, fun i e w => by rw [List.getElem?_nil] at w; cases w⟩
  refine m_nm1 (d + 1) (h := h) (by omega) R (fun H1 A1 k1 c1 u1 z1 => ?_) h (AA.nil h 273) k8 rfl rfl rfl
  have M1 : MIz h H1 ([] ++ lM1) _ := M0.aa A1 (by decide)
  have a0 := (A1.2.2.2.2 0 (2, 20, 7) rfl).2.2.2.1
  have a1 := (A1.2.2.2.2 1 (3, 20, 7422) rfl).2.2.2.1
  have a2 := (A1.2.2.2.2 2 (4, 20, 14844) rfl).2.2.2.1
  have a3 := (A1.2.2.2.2 3 (5, 22, 2) rfl).2.2.2.1
  rw [z] at a0 a1 a2 a3
  obtain ⟨M2, V2, q1, q2⟩ := M1.fi (up1 (fun _ => 0) 18 (-1))
  have f1 : hfi H1 273 = fun _ => 0 := M1.2.2.2.1
  refine m_pf1 (d + 1) R _ k1 ?_
  rw [f1]
  generalize sFI H1 273 (up1 (fun _ => 0) 18 (-1)) = H2 at *
  rw [show hcc h + 26 = hcc H2 + 17 by omega, show hcu h + 86238 = hcu H2 + 2316 by omega]
  have z2 : hsz H2 = 283 := M2.1
  refine m_nm2 (d + 1) (h := H2) (by omega) R (fun H3 A3 k3 c3 u3 z3 => ?_) H2 (AA.nil H2 273) M2.2.2.1 rfl rfl rfl
  have M3 : MIz h H3 (([] ++ lM1) ++ lM2) _ := M2.aa A3 (by decide)
  refine m_nw1 (d + 1) (h := H3) (by omega) k3 R _ (by show _ ≤ hcc H2 + 17; omega) (by show _ ≤ hcu H2 + 2316; omega) (fun H4 W4 A4 w4 => ?_)
  have M4 := M3.aj A4 (by decide)
  have s4 := A4.1
  have j4 := A4.2.2.2.2.2.2
  refine m_nw2 (d + 1) (h := H4) (by omega) M4.2.2.1 R _ (by show _ ≤ hcc H2 + 17; omega) (by show _ ≤ hcu H2 + 2316; omega) (fun H5 W5 A5 w5 => ?_)
  have M5 := M4.aj A5 (by decide)
  have s5 := A5.1
  have j5 := A5.2.2.2.2.2.2
  refine m_nw3 (d + 1) (h := H5) (by omega) M5.2.2.1 R _ (by show _ ≤ hcc H2 + 17; omega) (by show _ ≤ hcu H2 + 2316; omega) (fun H6 W6 A6 w6 => ?_)
  have M6 := M5.aj A6 (by decide)
  have s6 := A6.1
  have j6 := A6.2.2.2.2.2.2
  rw [show hsz H3 = 288 by omega] at j4
  rw [show hsz H4 = 289 by omega] at j5
  rw [show hsz H5 = 290 by omega] at j6
  rw [show hcc H2 + 17 = hcc H6 + 9 by omega, show hcu H2 + 2316 = hcu H6 + 605 by omega]
  have V56 := KV.aj A6
  have V46 := (KV.aj A5).trans V56
  have V16 := ((V2.trans (KV.aa A3)).trans (KV.aj A4)).trans V46
  refine m_mo2 (d + 1) M6 R (fun H7 M7 V7 w7 => ?_)
  have V17 := V16.trans V7
  have V47 := V46.trans V7
  have V57 := V56.trans V7
  have z75 : hia H7 275 = fun _ => 0 := by rw [(V17.2 275 (by omega)).1]; exact a1
  refine m_mo3 d M7 z75 R _ ?_
  obtain ⟨M8, t1, t2, t3⟩ := M7.ia ini
  generalize sIA H7 275 ini = H8 at *
  refine K H8 ⟨M8.1, M8.2.1, ⟨M8.sh, ⟨fun k hk => ?_, fun k hk => ?_⟩, ⟨?_, ?_⟩⟩, t2, ⟨?_, ?_, ?_⟩, M8.2.2.2.1⟩
  · rw [t1, (V47.2 288 (by omega)).2, j4]; exact w4 k hk
  · rw [t1, (V57.2 289 (by omega)).2, j5]; exact w5 k hk
  · rw [t1, (V7.2 290 (by omega)).2, j6]; exact w6
  · rw [t1]; exact w7
  · rw [t3 274 (by omega), (V17.2 274 (by omega)).1]; exact a0
  · rw [t3 276 (by omega), (V17.2 276 (by omega)).1]; exact a2
  · rw [t3 277 (by omega), (V17.2 277 (by omega)).1]; exact a3
def MoO (h F : MH) : Prop := (hcc F = hcc h + 26 ∧ hcu F = hcu h + 86238) ∧ MoP h F
theorem m_newMo (d : Nat) {h : MH} (k8 : hkd h 273 = 8) (z : hsz h = 274) (f0 : hfi h 273 = fun _ => 0) (Q : RT) (K : ∀ F, MoO h F → Q none F) : callD (d + 2) 129 [.ref 273] h Q := by
  rw [E_Mo_init]
  refine m_mo1 d k8 z f0 _ (fun g P => ?_)
  obtain ⟨p1, p2, ⟨p3, p4, p5⟩, p6, p7, p8⟩ := P
  have sc := sc_g g (hcc h + 26) (hcu h + 86238)
  show Q none (sCC g (hcc h + 26) (hcu h + 86238))
  generalize sCC g (hcc h + 26) (hcu h + 86238) = F at *
  obtain ⟨⟨sc1, sc2, sc3, sc4, sc5⟩, sc6, sc7⟩ := sc
  refine K F ⟨⟨sc6, sc7⟩, sc1.trans p1, fun x hx => ⟨(p2 x hx).1.trans ⟨by rw [sc2.1], by rw [sc2.2.1], by rw [sc3], by rw [sc4], by rw [sc5], by rw [sc2.2.2.2]⟩, by rw [sc2.2.2.1]; exact (p2 x hx).2⟩, ⟨sc2.M p3, WDM_a (fun a _ => by rw [sc5]) p4, HDM_a (fun a _ => by rw [sc5]) p5⟩, by rw [sc4]; exact p6, by rw [sc4]; exact p7, by rw [sc3]; exact p8⟩
