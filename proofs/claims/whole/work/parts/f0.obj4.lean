/-! ===== the program's object: the whole ===== -/
theorem x_newDi (d : Nat) {h : MH} (k7 : hkd h 24 = 7) (z : hsz h = 25) (f0 : hfi h 24 = fun _ => 0) (Q : RT) (K : ∀ F, DiO h F → Q none F) : callD (d + 5) 78 [.ref 24] h Q := by
  rw [E_Di_init]
  refine x_nd1 d k7 z f0 _ (fun g D => ?_)
  obtain ⟨⟨⟨z1, c1, u1⟩, k1, f1, t1, t2⟩, fr, old, ⟨w1, w2, w3, w4, w5⟩, ⟨x1, x2, x3⟩, ⟨y1, y2, y3⟩, ⟨v1, v2, v3⟩, ar⟩ := D
  refine di_12 d _ _ k1 (fun g2 s2 i2 e2 o2 => ?_)
  have SH := s2.1.2.2.2
  have K2 : ∀ x, x ≠ 24 → Kp g g2 x := fun x hx => ⟨by rw [SH.1], by rw [SH.2.1], o2 x hx, by rw [i2], by rw [s2.2], by rw [SH.2.2.2]⟩
  refine di_w d 0 245 (by omega) (Or.inl rfl) _ _ (by rw [SH.1]; exact k1) (by rw [SH.2.2.1]; exact fr.2.1) (by rw [SH.1]; exact t1) (by rw [SH.2.1]; exact t2) (by rw [s2.1.1]; exact z1) (by show _ ≤ hcc h + 248; rw [s2.1.2.1]; omega) (by show _ ≤ hcu h + 13784; rw [s2.1.2.2.1]; omega) (fun g3 D3 => ?_)
  obtain ⟨⟨p1, p2, p3⟩, p4, p5, ⟨p6, p7, p8⟩, p9, p10, p11⟩ := D3
  have z3 : hsz g3 = 259 := by rw [p1, s2.1.1, z1]
  have q2 : hsz g2 = 245 := by rw [s2.1.1, z1]
  refine di_w d 1 259 (by omega) (Or.inr rfl) _ _ (by rw [(p4 24 (by omega) (by omega)).1, SH.1]; exact k1) (by rw [p5 24 (by omega), SH.2.2.1]; exact fr.2.1) (by rw [p6, SH.1]; exact t1) (by rw [p7, SH.2.1]; exact t2) z3 (by show _ ≤ hcc h + 248; rw [p2, s2.1.2.1]; omega) (by show _ ≤ hcu h + 13784; rw [p3, s2.1.2.2.1]; omega) (fun g4 D4 => ?_)
  obtain ⟨⟨q1, q3, q4⟩, q5, q6, ⟨q7, q8, q9⟩, q10, q11, q12⟩ := D4
  refine di_e d _ _ ?_
  have sc := sc_g g4 (hcc h + 248) (hcu h + 13784)
  generalize sCC g4 (hcc h + 248) (hcu h + 13784) = F at *
  obtain ⟨⟨sc1, sc2, sc3, sc4, sc5⟩, sc6, sc7⟩ := sc
  have KF : ∀ x, Kp g4 F x := fun x => ⟨by rw [sc2.1], by rw [sc2.2.1], by rw [sc3], by rw [sc4], by rw [sc5], by rw [sc2.2.2.2]⟩
  have K23 : ∀ x, x < 245 → x ≠ 39 → Kp g2 F x := fun x hx ne => ((p4 x (by omega) ne).trans (q5 x (by omega) ne)).trans (KF x)
  have KG : ∀ x, x < 245 → x ≠ 24 → x ≠ 39 → Kp g F x := fun x hx n1 n2 => (K2 x n1).trans (K23 x hx n2)
  have FR : ∀ x, x < 245 → hfr F x = hfr g x := fun x hx => by rw [sc2.2.2.1, q6 x (by omega), p5 x (by omega), SH.2.2.1]
  have h39 : hra F 39 = up1 (up1 (hra g2 39) 0 (some 245)) 1 (some 259) := by rw [sc2.2.2.2, q9, p8]
  have kd39 : hkd F 39 = 25 := by rw [(KF 39).1, q7, p6, SH.1]; exact t1
  have ln39 : hln F 39 = 2 := by rw [(KF 39).2.1, q8, p7, SH.2.1]; exact t2
  have N : ∀ q, q + 9 < 245 → 24 < q → (q + 9 < 39 ∨ 39 < q) → NeS g q → NeS F q := fun q h1 h2 h3 s => NeS_k (fun x a b => ⟨(KG x (by omega) (by omega) (by omega)).1, (KG x (by omega) (by omega) (by omega)).2.1⟩) (FR q (by omega)) s
  have kd24 : hkd F 24 = 7 := by rw [(K23 24 (by omega) (by omega)).1, SH.1]; exact k1
  have W3 : WoS F 245 := WoS_k (fun x a b => ⟨by rw [(KF x).1, (q5 x (by omega) (by omega)).1], by rw [(KF x).2.1, (q5 x (by omega) (by omega)).2.1]⟩) (by rw [sc2.2.2.1, q6 245 (by omega)]) p9
  have W4 : WoS F 259 := WoS_k (fun x a b => ⟨(KF x).1, (KF x).2.1⟩) (by rw [sc2.2.2.1]) q10
  have N3 : NeS F 246 := NeS_k (fun x a b => ⟨by rw [(KF x).1, (q5 x (by omega) (by omega)).1], by rw [(KF x).2.1, (q5 x (by omega) (by omega)).2.1]⟩) (by rw [sc2.2.2.1, q6 246 (by omega)]) p10
  have N4 : NeS F 260 := NeS_k (fun x a b => ⟨(KF x).1, (KF x).2.1⟩) (by rw [sc2.2.2.1]) q11
  have W1 : WoS F 25 := WoS_k (fun x a b => ⟨(KG x (by omega) (by omega) (by omega)).1, (KG x (by omega) (by omega) (by omega)).2.1⟩) (FR 25 (by omega)) w1
  have xo : XSo F := by
    unfold XSo
    rw [FR 24 (by omega), kd24, kd39, ln39, (KG 241 (by omega) (by omega) (by omega)).1, (KG 241 (by omega) (by omega) (by omega)).2.1, (KG 242 (by omega) (by omega) (by omega)).1, (KG 242 (by omega) (by omega) (by omega)).2.1, (KG 243 (by omega) (by omega) (by omega)).1, (KG 243 (by omega) (by omega) (by omega)).2.1, (KG 244 (by omega) (by omega) (by omega)).1, (KG 244 (by omega) (by omega) (by omega)).2.1]
    obtain ⟨r1, r2, r3, r4, r5, r6, r7, r8, r9, r10, r11⟩ := fr
    obtain ⟨s1, s2, s3, s4, s5, s6, s7, s8, -⟩ := ar
    exact ⟨rfl, r1, r2, r3, r4, r5, r6, r7, r8, r9, r10, r11, s1, s2, s3, s4, s5, s6, s7, s8, rfl, rfl⟩
  have xr : XSr F := by
    unfold XSr at *
    rw [(KG 213 (by omega) (by omega) (by omega)).1, FR 213 (by omega), (KG 214 (by omega) (by omega) (by omega)).1, FR 214 (by omega), (KG 215 (by omega) (by omega) (by omega)).1, (KG 215 (by omega) (by omega) (by omega)).2.1, (KG 216 (by omega) (by omega) (by omega)).1, (KG 216 (by omega) (by omega) (by omega)).2.1, (KG 217 (by omega) (by omega) (by omega)).1, (KG 217 (by omega) (by omega) (by omega)).2.1]
    exact y1
  have xh : XSh F := by
    unfold XSh at *
    rw [(KG 40 (by omega) (by omega) (by omega)).1, FR 40 (by omega), (KG 41 (by omega) (by omega) (by omega)).1, (KG 41 (by omega) (by omega) (by omega)).2.1, (KG 42 (by omega) (by omega) (by omega)).1, (KG 42 (by omega) (by omega) (by omega)).2.1]
    exact x1
  have xj : JS F 218 219 220 := by
    unfold JS at *
    rw [(KG 218 (by omega) (by omega) (by omega)).1, FR 218 (by omega), (KG 219 (by omega) (by omega) (by omega)).1, (KG 219 (by omega) (by omega) (by omega)).2.1, (KG 220 (by omega) (by omega) (by omega)).1, (KG 220 (by omega) (by omega) (by omega)).2.1]
    exact v1
  refine K F ⟨⟨by rw [sc1, q1, z3], sc6, sc7⟩, fun x hx => ⟨(old x hx).1.trans (KG x (by omega) (by omega) (by omega)), (FR x (by omega)).trans (old x hx).2⟩, ⟨xo, xr, xh, xj, ⟨W1, W3, W4⟩, ⟨N 26 (by omega) (by omega) (by omega) w2, N 221 (by omega) (by omega) (by omega) v2, N 231 (by omega) (by omega) (by omega) v3, N3, N4⟩, fun i hi => ⟨N _ (by omega) (by omega) (by omega) (x2 i hi).1, by rw [(KG 41 (by omega) (by omega) (by omega)).2.2.2.2.2]; exact (x2 i hi).2⟩, by rw [h39, up1_n _ _ (by omega), up1_s], by rw [h39, up1_s]⟩, NeV_a (KG 26 (by omega) (by omega) (by omega)).2.2.1 (fun a a1 a2 => (KG a (by omega) (by omega) (by omega)).2.2.2.1) w3, (KG 25 (by omega) (by omega) (by omega)).2.2.1.trans w4, ⟨(KG 36 (by omega) (by omega) (by omega)).2.2.2.2.2.trans w5, ?_, ?_⟩, ?_, (KG 40 (by omega) (by omega) (by omega)).2.2.1.trans x3, (KG 213 (by omega) (by omega) (by omega)).2.2.1.trans y2, (KG 214 (by omega) (by omega) (by omega)).2.2.1.trans y3, (KG 244 (by omega) (by omega) (by omega)).2.2.2.1.trans ar.2.2.2.2.2.2.2.2⟩
  · rw [(KF 256).2.2.2.2.2, (q5 256 (by omega) (by omega)).2.2.2.2.2]; exact p11
  · rw [(KF 270).2.2.2.2.2]; exact q12
  · rw [(K23 24 (by omega) (by omega)).2.2.1, e2, f1]
