/-! ===== how it is when both are made ===== -/
theorem XS_y {h F : MH} (K : ∀ x, x < 273 → hkd F x = hkd h x ∧ hln F x = hln h x ∧ hfr F x = hfr h x) (r41 : hra F 41 = hra h 41) (r39 : hra F 39 = hra h 39) (s : XS h) : XS F := by
  have ek : ∀ x, x < 273 → hkd F x = hkd h x := fun x hx => (K x hx).1
  have el : ∀ x, x < 273 → hln F x = hln h x := fun x hx => (K x hx).2.1
  have ef : ∀ x, x < 273 → hfr F x = hfr h x := fun x hx => (K x hx).2.2
  obtain ⟨s1, s2, s3, s4, s5, s6, s7, s8⟩ := s
  have N : ∀ n, n + 9 < 273 → NeS h n → NeS F n := fun n hn s => by
    unfold NeS AF at *
    simp (disch := omega) only [ek, el, ef]
    exact s
  have Wo : ∀ n, n + 13 < 273 → WoS h n → WoS F n := fun n hn s => by
    unfold WoS at *
    simp (disch := omega) only [ek, el, ef]
    exact s
  refine ⟨?_, ?_, ?_, ?_, ⟨Wo _ (by omega) s5.1, Wo _ (by omega) s5.2.1, Wo _ (by omega) s5.2.2⟩, ⟨N _ (by omega) s6.1, N _ (by omega) s6.2.1, N _ (by omega) s6.2.2.1, N _ (by omega) s6.2.2.2.1, N _ (by omega) s6.2.2.2.2⟩, fun i hi => ⟨N _ (by omega) (s7 i hi).1, by rw [r41]; exact (s7 i hi).2⟩, by rw [r39]; exact s8⟩
  · unfold XSo at *; simp (disch := omega) only [ek, el, ef]; exact s1
  · unfold XSr at *; simp (disch := omega) only [ek, el, ef]; exact s2
  · unfold XSh at *; simp (disch := omega) only [ek, el, ef]; exact s3
  · unfold JS at *; simp (disch := omega) only [ek, el, ef]; exact s4
/-- how it is at the head of the law's loop, m calls to come at most -/
def Sta (L : Nat) (xs : Nat → Int32) (m : Nat) (h : MH) : Prop := GI h ∧ LA h ∧ I0 L xs h ∧ hcc h + 3 * m ≤ 600000 ∧ hcu h + 899 * m ≤ 7302250
theorem I0_of {L : Nat} {xs : Nat → Int32} {h : MH} (g : GI h) (e1 : hkd h 0 = 20) (e2 : hln h 0 = L) (e3 : hia h 0 = xs) : I0 L xs h := ⟨Nat.le_trans (by decide) g.2.2.1, e1, e2, e3, g.1.1.1, g.2.1.1.1⟩
theorem Sta_n {L m : Nat} {xs : Nat → Int32} {h h2 : MH} (s : Sta L xs (m + 1) h) (p : Pst h h2) : Sta L xs m h2 := by
  obtain ⟨g, la, ⟨i1, i2, i3, i4, i5, i6⟩, r1, r2⟩ := s
  obtain ⟨p1, ⟨p2, p3⟩, p4, p5, p6, p7⟩ := p
  exact ⟨p1, p7 la, I0_of p1 (p4.trans i2) (p5.trans i3) (p6.trans i4), by omega, by omega⟩
theorem st_wv {G F : MH} (kk : ∀ x, x < 273 → Kp F G x) (nv : NeV F 26 ini) (f25 : hfi F 25 = up1 (up1 (fun _ => 0) 5 (-1)) 7 (nI 1)) : WV G 25 ini := by
  have g25 : hfi G 25 = up1 (up1 (fun _ => 0) 5 (-1)) 7 (nI 1) := (kk 25 (by omega)).2.2.1.trans f25
  obtain ⟨n0, n1, n2, n3, n4, -, -⟩ := ini_0
  refine ⟨NeV_a (kk 26 (by omega)).2.2.1 (fun a a1 a2 => (kk a (by omega)).2.2.2.1) nv, ini_IV, ⟨?_, ?_, ?_, ?_, ?_⟩, ⟨0, by omega, n1, Or.inl n2, fun i hi => absurd hi (Nat.not_lt_zero _)⟩, ⟨0, by omega, n0, fun i hi => absurd hi (Nat.not_lt_zero _)⟩, ⟨0, by omega, n4⟩, ⟨1, by omega, n3⟩⟩
  · rw [g25, n1]; rfl
  · rw [g25, n2]; rfl
  · rw [g25, n0]; rfl
  · rw [g25, n3]; rfl
  · rw [g25, n4]; rfl
theorem st_gi {L : Nat} {xs : Nat → Int32} {g a F b G : MH} (z : hsz g = 24) (c : hcc g = 0) (u : hcu g = 0) (k0 : hkd g 0 = 20) (l0 : hln g 0 = L) (i0 : hia g 0 = xs) (k1 : hkd g 1 = 20) (l1 : hln g 1 = 3) (i1 : hia g 1 = mostF) (Fa : Frc g a 7 16) (D : DiO a F) (Fb : Frc F b 8 53) (M : MoO b G) : Sta L xs 512 G := by
  obtain ⟨⟨a1, a2, a3⟩, a4, -⟩ := Fa
  obtain ⟨⟨d1, d2, d3⟩, d4, d5, d6, d7, ⟨d8, d9, d10⟩, d11, d12, d13, d14, d15⟩ := D
  obtain ⟨⟨b1, b2, b3⟩, b4, -⟩ := Fb
  obtain ⟨⟨m1, m2⟩, m3, m4, ⟨m5, m6, m7⟩, m8, ⟨m9, m10, m11⟩, m12⟩ := M
  have kk : ∀ x, x < 273 → Kp F G x := fun x hx => (b4 x (by omega)).1.trans (m4 x hx).1
  have kr : ∀ x, x < 273 → hfr G x = hfr F x := fun x hx => (m4 x hx).2.trans (b4 x (by omega)).2
  have kg : ∀ x, x < 24 → Kp g G x := fun x hx => ((a4 x (by omega)).1.trans (d4 x hx).1).trans (kk x (by omega))
  have f24 : hfi G 24 = up1 (fun _ => 0) 15 (-1) := (kk 24 (by omega)).2.2.1.trans d11
  have f40 : hfi G 40 = fun _ => 0 := (kk 40 (by omega)).2.2.1.trans d12
  have f213 : hfi G 213 = up1 (fun _ => 0) 6 (-1) := (kk 213 (by omega)).2.2.1.trans d13
  have f214 : hfi G 214 = fun _ => 0 := (kk 214 (by omega)).2.2.1.trans d14
  have i244 : hia G 244 = fun _ => 0 := (kk 244 (by omega)).2.2.2.1.trans d15
  have g1 : GI G := by
    refine ⟨XS_y (fun x hx => ⟨(kk x hx).1, (kk x hx).2.1, kr x hx⟩) (kk 41 (by omega)).2.2.2.2.2 (kk 39 (by omega)).2.2.2.2.2 d5, ⟨m5, m6, m7⟩, by rw [m3]; exact Nat.le_refl _, ?_, ⟨0, 0, ?_⟩, ⟨0, 0, ?_⟩, ?_, ⟨((fun _ => 0), 0), ?_⟩, ⟨⟨?_, ?_, ?_⟩, 0, ?_⟩⟩
    · rw [m8]; exact st_wv kk d6 d7
    · exact ⟨by omega, by omega, by rw [f40]; rfl, by rw [f40]; rfl, by rw [m12]; rfl, fun j hj => absurd hj (Nat.not_lt_zero _)⟩
    · exact ⟨by omega, by omega, by rw [f24]; rfl, by rw [m11]; rfl, by rw [m11]; rfl, fun w => absurd w (by decide), fun w => absurd w (by decide)⟩
    · refine ⟨?_, ?_, ?_, ?_, ?_, ?_⟩
      · rw [i244, m9]; exact ⟨rfl, rfl, rfl, rfl, rfl⟩
      · rw [f24, m12]; rfl
      · rw [f24, m12]; rfl
      · rw [f24, m12]; rfl
      · rw [f213, m12]; rfl
      · rw [m12]; rfl
    · exact ⟨⟨Nat.zero_le _, fun i hi => absurd hi (Nat.not_lt_zero _)⟩, ⟨Nat.zero_le _, fun i hi => absurd hi (Nat.not_lt_zero _)⟩, by rw [f214]; rfl, by rw [m12]; rfl⟩
    · exact (kg 1 (by omega)).1.trans k1
    · exact (kg 1 (by omega)).2.1.trans l1
    · rw [(kg 1 (by omega)).2.2.2.1, i1]; exact ⟨rfl, rfl, rfl⟩
    · exact ⟨by omega, by rw [f24]; rfl, by rw [m12]; rfl, fun w => absurd w (by decide)⟩
  refine ⟨g1, fun W hW i hi => Or.inl ?_, I0_of g1 ((kg 0 (by omega)).1.trans k0) ((kg 0 (by omega)).2.1.trans l0) ((kg 0 (by omega)).2.2.2.1.trans i0), by rw [m1, b2, d2, a2, c]; decide, by rw [m2, b3, d3, a3, u]; decide⟩
  rcases hW with rfl | rfl | rfl
  · exact congrFun ((kk 36 (by omega)).2.2.2.2.2.trans d8) i
  · exact congrFun ((kk 256 (by omega)).2.2.2.2.2.trans d9) i
  · exact congrFun ((kk 270 (by omega)).2.2.2.2.2.trans d10) i
