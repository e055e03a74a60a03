/-! ===== link, step, cut: the pairs ===== -/
theorem HK_1 {h h' : MH} {p : RW} {nx n kd : Nat} {P : Prop} (x : HK h h' p nx n kd (1 = 1 ∧ P)) : HK h h' p nx n kd P := ⟨fun z => x.1 ⟨rfl, z⟩, fun z => x.2 (fun y => z y.2)⟩
theorem op_link (one other costs : Int32) : PairOp 11 92 210 [.int one, .int other, .int costs] := fun d h g => by
  obtain ⟨Lo, lv, l, fo⟩ := WV_law g.2.2.2.1
  obtain ⟨V, iv, -, -, -, rn, -⟩ := g.2.2.2.1
  obtain ⟨nx, n, r⟩ := g.2.2.2.2.1
  have so := g.1.1
  unfold XSo at so
  have sw := WoS_25 g.1
  unfold WoS at sw
  simp only [Nat.reduceAdd] at sw
  have hS := g.1.2.2.2.2.2.1.1
  have ACT := fun Q kk => x_act (d + 3) 26 nx n 1 0 (by omega) (by omega) (Or.inl rfl) r.1 r.2.1 g.1 hS V iv l r.2.2.1 r.2.2.2.1 one other costs Q kk
  rw [E_Di_link]
  simp (disch := omega) only [U_Di_link (cm _), SA, SB, SC1, SC2, SG, SK, SV, so, sw, true_and]
  refine ACT _ (fun h1 ar V1 hk => ?_)
  clear ACT
  obtain ⟨v, h2, ev, AN, k82, mst, fin⟩ := act_run (Lo := Lo) (by omega) g rfl iv r ar V1 (HK_1 hk)
  have k71 : hkd h1 24 = 7 := (XS_e ar.1.2.2.2.1 g.1).1.1
  have AN' := fun Q => AN (d + 8) Q
  rw [ev]
  simp (disch := omega) only [U_Di_link (cm _), SA, SB, SC1, SC2, SG, SK, SV, k71, AN', true_and]
  refine ⟨_, rfl, ?_⟩
  clear AN AN'
  generalize hh : thH h2 = h3 at *
  unfold thH at hh
  have k83 := mst.1.1
  rw [E_Mo_link]
  simp (disch := omega) only [U_Mo_link (cm _), SA, SB, SC1, SC2, SG, SK, SV, hh, k82, k83, true_and]
  refine now_link (Lo := Lo) (d + 1) n mst iv fo rn one other costs _ (fun h4 m4 => ?_)
  obtain ⟨k84, h5, TL, ps⟩ := fin h4 m4
  have TL' := fun Q => TL (d + 9) Q
  rw [ev]
  simp (disch := omega) only [U_Mo_link (cm _), SA, SB, SC1, SC2, SG, SK, SV, k84, TL', true_and]
  exact ps
theorem op_step : PairOp 11 93 216 [] := fun d h g => by
  obtain ⟨Lo, lv, l, fo⟩ := WV_law g.2.2.2.1
  obtain ⟨V, iv, -, -, -, rn, -⟩ := g.2.2.2.1
  obtain ⟨nx, n, r⟩ := g.2.2.2.2.1
  have so := g.1.1
  unfold XSo at so
  have sw := WoS_25 g.1
  unfold WoS at sw
  simp only [Nat.reduceAdd] at sw
  have hS := g.1.2.2.2.2.2.1.1
  have ACT := fun Q kk => x_act (d + 3) 26 nx n 1 1 (by omega) (by omega) (Or.inl rfl) r.1 r.2.1 g.1 hS V iv l r.2.2.1 r.2.2.2.1 (nI 0) (nI 0) (nI 0) Q kk
  rw [E_Di_step]
  simp (disch := omega) only [U_Di_step (cm _), SA, SB, SC1, SC2, SG, SK, SV, so, sw, true_and]
  refine ACT _ (fun h1 ar V1 hk => ?_)
  clear ACT
  obtain ⟨v, h2, ev, AN, k82, mst, fin⟩ := act_run (Lo := Lo) (by omega) g rfl iv r ar V1 (HK_1 hk)
  have k71 : hkd h1 24 = 7 := (XS_e ar.1.2.2.2.1 g.1).1.1
  have AN' := fun Q => AN (d + 8) Q
  rw [ev]
  simp (disch := omega) only [U_Di_step (cm _), SA, SB, SC1, SC2, SG, SK, SV, k71, AN', true_and]
  refine ⟨_, rfl, ?_⟩
  clear AN AN'
  generalize hh : thH h2 = h3 at *
  unfold thH at hh
  have k83 := mst.1.1
  rw [E_Mo_step]
  simp (disch := omega) only [U_Mo_step (cm _), SA, SB, SC1, SC2, SG, SK, SV, hh, k82, k83, true_and]
  refine now_step (Lo := Lo) d n mst iv fo rn _ (fun h4 m4 => ?_)
  obtain ⟨k84, h5, TL, ps⟩ := fin h4 m4
  have TL' := fun Q => TL (d + 9) Q
  rw [ev]
  simp (disch := omega) only [U_Mo_step (cm _), SA, SB, SC1, SC2, SG, SK, SV, k84, TL', true_and]
  exact ps
theorem op_cut (one : Int32) : PairOp 11 94 218 [.int one] := fun d h g => by
  obtain ⟨Lo, lv, l, fo⟩ := WV_law g.2.2.2.1
  obtain ⟨V, iv, -, -, -, rn, -⟩ := g.2.2.2.1
  obtain ⟨nx, n, r⟩ := g.2.2.2.2.1
  have so := g.1.1
  unfold XSo at so
  have sw := WoS_25 g.1
  unfold WoS at sw
  simp only [Nat.reduceAdd] at sw
  have hS := g.1.2.2.2.2.2.1.1
  have ACT := fun Q kk => x_act (d + 3) 26 nx n 1 2 (by omega) (by omega) (Or.inl rfl) r.1 r.2.1 g.1 hS V iv l r.2.2.1 r.2.2.2.1 one (nI 0) (nI 0) Q kk
  rw [E_Di_cut]
  simp (disch := omega) only [U_Di_cut (cm _), SA, SB, SC1, SC2, SG, SK, SV, so, sw, true_and]
  refine ACT _ (fun h1 ar V1 hk => ?_)
  clear ACT
  obtain ⟨v, h2, ev, AN, k82, mst, fin⟩ := act_run (Lo := Lo) (by omega) g rfl iv r ar V1 (HK_1 hk)
  have k71 : hkd h1 24 = 7 := (XS_e ar.1.2.2.2.1 g.1).1.1
  have AN' := fun Q => AN (d + 8) Q
  rw [ev]
  simp (disch := omega) only [U_Di_cut (cm _), SA, SB, SC1, SC2, SG, SK, SV, k71, AN', true_and]
  refine ⟨_, rfl, ?_⟩
  clear AN AN'
  generalize hh : thH h2 = h3 at *
  unfold thH at hh
  have k83 := mst.1.1
  rw [E_Mo_cut]
  simp (disch := omega) only [U_Mo_cut (cm _), SA, SB, SC1, SC2, SG, SK, SV, hh, k82, k83, true_and]
  refine now_cut (Lo := Lo) (d + 1) n mst iv one _ (fun h4 m4 => ?_)
  obtain ⟨k84, h5, TL, ps⟩ := fin h4 m4
  have TL' := fun Q => TL (d + 9) Q
  rw [ev]
  simp (disch := omega) only [U_Mo_cut (cm _), SA, SB, SC1, SC2, SG, SK, SV, k84, TL', true_and]
  exact ps
