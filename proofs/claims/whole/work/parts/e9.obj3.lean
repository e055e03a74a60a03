/-! ===== the program's object whole ===== -/
def DiO (h F : MH) : Prop := (hsz F = 273 ∧ hcc F = hcc h + 248 ∧ hcu F = hcu h + 13784) ∧ (∀ x, x < 24 → Kp h F x ∧ hfr F x = hfr h x) ∧ XS F ∧ NeV F 26 ini ∧ hfi F 25 = up1 (up1 (fun _ => 0) 5 (-1)) 7 (nI 1) ∧ (hra F 36 = (fun _ => none) ∧ hra F 256 = (fun _ => none) ∧ hra F 270 = fun _ => none) ∧ hfi F 24 = up1 (fun _ => 0) 15 (-1) ∧ hfi F 40 = (fun _ => 0) ∧ hfi F 213 = up1 (fun _ => 0) 6 (-1) ∧ hfi F 214 = (fun _ => 0) ∧ hia F 244 = fun _ => 0
theorem WoS_k {h H : MH} {W : Nat} (k : ∀ x, W ≤ x → x ≤ W + 13 → hkd H x = hkd h x ∧ hln H x = hln h x) (f : hfr H W = hfr h W) (s : WoS h W) : WoS H W := by
  have k0 := k W (by omega) (by omega)
  have k1 := k (W + 11) (by omega) (by omega)
  have k2 := k (W + 12) (by omega) (by omega)
  have k3 := k (W + 13) (by omega) (by omega)
  unfold WoS at *
  rw [f, k0.1, k1.1, k1.2, k2.1, k2.2, k3.1, k3.2]
  exact s
theorem Ifr.N {a b : MH} (x : Ifr a b) {q : Nat} (h1 : 40 ≤ q) (h2 : q + 9 < hsz a) (s : NeS a q) : NeS b q := NeS_k (fun y y1 y2 => ⟨(x.2 y (by omega) (by omega) (by omega)).1.1, (x.2 y (by omega) (by omega) (by omega)).1.2.1⟩) (x.2 q (by omega) (by omega) (by omega)).2 s
def D11 (h g : MH) : Prop := ((hsz g = 245 ∧ hcc g = hcc h + 220 ∧ hcu g = hcu h + 12584) ∧ hkd g 24 = 7 ∧ hfi g 24 = (fun _ => 0) ∧ hkd g 39 = 25 ∧ hln g 39 = 2) ∧ (hfr g 24 0 = some 25 ∧ hfr g 24 1 = some 39 ∧ hfr g 24 3 = some 40 ∧ hfr g 24 4 = some 213 ∧ hfr g 24 5 = some 218 ∧ hfr g 24 6 = some 221 ∧ hfr g 24 7 = some 231 ∧ hfr g 24 9 = some 241 ∧ hfr g 24 10 = some 242 ∧ hfr g 24 11 = some 243 ∧ hfr g 24 12 = some 244) ∧ (∀ x, x < 24 → Kp h g x ∧ hfr g x = hfr h x) ∧ (WoS g 25 ∧ NeS g 26 ∧ NeV g 26 ini ∧ hfi g 25 = up1 (up1 (fun _ => 0) 5 (-1)) 7 (nI 1) ∧ hra g 36 = fun _ => none) ∧ (XSh g ∧ (∀ i, i < 17 → NeS g (43 + 10 * i) ∧ hra g 41 i = some (43 + 10 * i)) ∧ hfi g 40 = fun _ => 0) ∧ (XSr g ∧ hfi g 213 = up1 (fun _ => 0) 6 (-1) ∧ hfi g 214 = fun _ => 0) ∧ (JS g 218 219 220 ∧ NeS g 221 ∧ NeS g 231) ∧ (hkd g 241 = 20 ∧ hln g 241 = 7 ∧ hkd g 242 = 21 ∧ hln g 242 = 20 ∧ hkd g 243 = 20 ∧ hln g 243 = 3 ∧ hkd g 244 = 20 ∧ hln g 244 = 5 ∧ hia g 244 = fun _ => 0)
set_option maxRecDepth 40000 in
theorem x_nd1 (d : Nat) {h : MH} (k7 : hkd h 24 = 7) (z : hsz h = 25) (f0 : hfi h 24 = fun _ => 0) (R : RT) (K : ∀ g, D11 h g → WP cd_Di_init (callD (d + 4)) R (hcc h + 248, hcu h + 13784) 108 [] [some (.ref 24), none] g) : WP cd_Di_init (callD (d + 4)) R (hcc h + 248, hcu h + 13784) 0 [] [some (.ref 24), none] h := by
  refine di_1 d _ _ k7 z (by show _ ≤ hcc h + 248; omega) (by show _ ≤ hcu h + 13784; omega) (fun g1 F1 I1 r1 a1 a2 a3 a4 a5 => ?_)
  have kk1 : hkd g1 24 = 7 := by rw [(I1.2.1 24 (by omega)).1]; exact k7
  have zz1 : hsz g1 = 39 := by have := I1.1.1; omega
  have cc1 : hcc g1 = hcc h + 14 := by have := I1.1.2.1; omega
  have uu1 : hcu g1 = hcu h + 600 := by have := I1.1.2.2; omega
  refine di_2 d _ _ kk1 zz1 (by show _ ≤ hcc h + 248; omega) (by show _ ≤ hcu h + 13784; omega) (fun g2 I2 b1 b2 b3 => ?_)
  have kk2 : hkd g2 24 = 7 := by rw [(I2.2.1 24 (by omega)).1]; exact kk1
  have zz2 : hsz g2 = 40 := by have := I2.1.1; omega
  have cc2 : hcc g2 = hcc h + 15 := by have := I2.1.2.1; omega
  have uu2 : hcu g2 = hcu h + 602 := by have := I2.1.2.2; omega
  refine di_3 d _ _ kk2 zz2 (by show _ ≤ hcc h + 248; omega) (by show _ ≤ hcu h + 13784; omega) (fun g3 F3 I3 r3 c1 c2 c3 => ?_)
  have kk3 : hkd g3 24 = 7 := by rw [(I3.2.1 24 (by omega)).1]; exact kk2
  have zz3 : hsz g3 = 213 := by have := I3.1.1; omega
  have cc3 : hcc g3 = hcc h + 188 := by have := I3.1.2.1; omega
  have uu3 : hcu g3 = hcu h + 10381 := by have := I3.1.2.2; omega
  refine di_4 d _ _ kk3 zz3 (by show _ ≤ hcc h + 248; omega) (by show _ ≤ hcu h + 13784; omega) (fun g4 F4 I4 r4 d1 d2 d3 => ?_)
  have kk4 : hkd g4 24 = 7 := by rw [(I4.2.1 24 (by omega)).1]; exact kk3
  have zz4 : hsz g4 = 218 := by have := I4.1.1; omega
  have cc4 : hcc g4 = hcc h + 193 := by have := I4.1.2.1; omega
  have uu4 : hcu g4 = hcu h + 11314 := by have := I4.1.2.2; omega
  refine di_5 d _ _ kk4 zz4 (by show _ ≤ hcc h + 248; omega) (by show _ ≤ hcu h + 13784; omega) (fun g5 F5 I5 r5 e1 => ?_)
  have kk5 : hkd g5 24 = 7 := by rw [(I5.2.1 24 (by omega)).1]; exact kk4
  have zz5 : hsz g5 = 221 := by have := I5.1.1; omega
  have cc5 : hcc g5 = hcc h + 196 := by have := I5.1.2.1; omega
  have uu5 : hcu g5 = hcu h + 11403 := by have := I5.1.2.2; omega
  refine di_6 d _ _ kk5 zz5 (by show _ ≤ hcc h + 248; omega) (by show _ ≤ hcu h + 13784; omega) (fun g6 F6 I6 r6 e2 => ?_)
  have kk6 : hkd g6 24 = 7 := by rw [(I6.2.1 24 (by omega)).1]; exact kk5
  have zz6 : hsz g6 = 231 := by have := I6.1.1; omega
  have cc6 : hcc g6 = hcc h + 206 := by have := I6.1.2.1; omega
  have uu6 : hcu g6 = hcu h + 11976 := by have := I6.1.2.2; omega
  refine di_7 d _ _ kk6 zz6 (by show _ ≤ hcc h + 248; omega) (by show _ ≤ hcu h + 13784; omega) (fun g7 F7 I7 r7 e3 => ?_)
  have kk7 : hkd g7 24 = 7 := by rw [(I7.2.1 24 (by omega)).1]; exact kk6
  have zz7 : hsz g7 = 241 := by have := I7.1.1; omega
  have cc7 : hcc g7 = hcc h + 216 := by have := I7.1.2.1; omega
  have uu7 : hcu g7 = hcu h + 12549 := by have := I7.1.2.2; omega
  refine di_8 d _ _ kk7 zz7 (by show _ ≤ hcc h + 248; omega) (by show _ ≤ hcu h + 13784; omega) (fun g8 I8 h1 h2 h3 => ?_)
  have kk8 : hkd g8 24 = 7 := by rw [(I8.2.1 24 (by omega)).1]; exact kk7
  have zz8 : hsz g8 = 242 := by have := I8.1.1; omega
  have cc8 : hcc g8 = hcc h + 217 := by have := I8.1.2.1; omega
  have uu8 : hcu g8 = hcu h + 12556 := by have := I8.1.2.2; omega
  refine di_9 d _ _ kk8 zz8 (by show _ ≤ hcc h + 248; omega) (by show _ ≤ hcu h + 13784; omega) (fun g9 I9 i1 i2 i3 => ?_)
  have kk9 : hkd g9 24 = 7 := by rw [(I9.2.1 24 (by omega)).1]; exact kk8
  have zz9 : hsz g9 = 243 := by have := I9.1.1; omega
  have cc9 : hcc g9 = hcc h + 218 := by have := I9.1.2.1; omega
  have uu9 : hcu g9 = hcu h + 12576 := by have := I9.1.2.2; omega
  refine di_10 d _ _ kk9 zz9 (by show _ ≤ hcc h + 248; omega) (by show _ ≤ hcu h + 13784; omega) (fun g10 I10 j1 j2 j3 => ?_)
  have kk10 : hkd g10 24 = 7 := by rw [(I10.2.1 24 (by omega)).1]; exact kk9
  have zz10 : hsz g10 = 244 := by have := I10.1.1; omega
  have cc10 : hcc g10 = hcc h + 219 := by have := I10.1.2.1; omega
  have uu10 : hcu g10 = hcu h + 12579 := by have := I10.1.2.2; omega
  refine di_11 d _ _ kk10 zz10 (by show _ ≤ hcc h + 248; omega) (by show _ ≤ hcu h + 13784; omega) (fun g11 I11 l1 l2 l3 => ?_)
  have kk11 : hkd g11 24 = 7 := by rw [(I11.2.1 24 (by omega)).1]; exact kk10
  have zz11 : hsz g11 = 245 := by have := I11.1.1; omega
  have cc11 : hcc g11 = hcc h + 220 := by have := I11.1.2.1; omega
  have uu11 : hcu g11 = hcu h + 12584 := by have := I11.1.2.2; omega
  have fi11 : hfi g11 24 = fun _ => 0 := by
    rw [(I11.2.1 24 (by omega)).2.2.1, (I10.2.1 24 (by omega)).2.2.1, (I9.2.1 24 (by omega)).2.2.1, (I8.2.1 24 (by omega)).2.2.1, (I7.2.1 24 (by omega)).2.2.1, (I6.2.1 24 (by omega)).2.2.1, (I5.2.1 24 (by omega)).2.2.1, (I4.2.1 24 (by omega)).2.2.1, (I3.2.1 24 (by omega)).2.2.1, (I2.2.1 24 (by omega)).2.2.1, (I1.2.1 24 (by omega)).2.2.1]
    exact f0
  have b11 : Kp g2 g11 39 := ((((((((I3.2.1 39 (by omega)).trans (I4.2.1 39 (by omega))).trans (I5.2.1 39 (by omega))).trans (I6.2.1 39 (by omega))).trans (I7.2.1 39 (by omega))).trans (I8.2.1 39 (by omega))).trans (I9.2.1 39 (by omega))).trans (I10.2.1 39 (by omega))).trans (I11.2.1 39 (by omega))
  have fr : hfr g11 24 0 = some 25 ∧ hfr g11 24 1 = some 39 ∧ hfr g11 24 3 = some 40 ∧ hfr g11 24 4 = some 213 ∧ hfr g11 24 5 = some 218 ∧ hfr g11 24 6 = some 221 ∧ hfr g11 24 7 = some 231 ∧ hfr g11 24 9 = some 241 ∧ hfr g11 24 10 = some 242 ∧ hfr g11 24 11 = some 243 ∧ hfr g11 24 12 = some 244 := by
    rw [I11.2.2.2, I10.2.2.2, I9.2.2.2, I8.2.2.2, I7.2.2.2, I6.2.2.2, I5.2.2.2, I4.2.2.2, I3.2.2.2, I2.2.2.2, I1.2.2.2, z, zz1, zz2, zz3, zz4, zz5, zz6, zz7, zz8, zz9, zz10]
    simp (disch := omega) only [up1_s, up1_n, true_and, and_true, and_self]
  have J10 : Ifr g10 g11 := I11.F
  have J9 : Ifr g9 g11 := I10.F.trans J10
  have J8 : Ifr g8 g11 := I9.F.trans J9
  have J7 : Ifr g7 g11 := I8.F.trans J8
  have J6 : Ifr g6 g11 := I7.F.trans J7
  have J5 : Ifr g5 g11 := I6.F.trans J6
  have J4 : Ifr g4 g11 := I5.F.trans J5
  have J3 : Ifr g3 g11 := I4.F.trans J4
  have J1 : Ifr g1 g11 := I2.F.trans (I3.F.trans J3)
  have J0 : Ifr h g11 := I1.F.trans J1
  have L7 := r7.F.trans J7
  have L6 := r6.F.trans J6
  have L5 := r5.F.trans J5
  have L4 := r4.F.trans J4
  have L3 := r3.F.trans J3
  have L1 := r1.F.trans J1
  have s1 := r1.1.1
  have s3 := r3.1.1
  have s4 := r4.1.1
  have s5 := r5.1.1
  have s6 := r6.1.1
  have s7 := r7.1.1
  have M1 : ∀ x, 25 ≤ x → x ≤ 38 → Kp F1 g11 x ∧ hfr g11 x = hfr F1 x := fun x x1 x2 => L1.2 x (by omega) (by omega) (by omega)
  have M3 : ∀ x, 40 ≤ x → x ≤ 42 → Kp F3 g11 x ∧ hfr g11 x = hfr F3 x := fun x x1 x2 => L3.2 x (by omega) (by omega) (by omega)
  have M4 : ∀ x, 213 ≤ x → x ≤ 217 → Kp F4 g11 x ∧ hfr g11 x = hfr F4 x := fun x x1 x2 => L4.2 x (by omega) (by omega) (by omega)
  have M5 : ∀ x, 218 ≤ x → x ≤ 220 → Kp F5 g11 x ∧ hfr g11 x = hfr F5 x := fun x x1 x2 => L5.2 x (by omega) (by omega) (by omega)
  refine K g11 ⟨⟨⟨zz11, cc11, uu11⟩, kk11, fi11, by rw [b11.1]; exact b1, by rw [b11.2.1]; exact b2⟩, fr, fun x hx => J0.2 x (by omega) (by omega) (by omega), ⟨WoS_k (fun x x1 x2 => ⟨(M1 x (by omega) (by omega)).1.1, (M1 x (by omega) (by omega)).1.2.1⟩) (M1 25 (by omega) (by omega)).2 a1, NeS_k (fun x x1 x2 => ⟨(M1 x (by omega) (by omega)).1.1, (M1 x (by omega) (by omega)).1.2.1⟩) (M1 26 (by omega) (by omega)).2 a2, NeV_a (M1 26 (by omega) (by omega)).1.2.2.1 (fun x x1 x2 => (M1 x (by omega) (by omega)).1.2.2.2.1) a3, (M1 25 (by omega) (by omega)).1.2.2.1.trans a4, (M1 36 (by omega) (by omega)).1.2.2.2.2.2.trans a5⟩, ⟨?_, fun i hi => ⟨L3.N (by omega) (by omega) (c2 i hi).1, by rw [(M3 41 (by omega) (by omega)).1.2.2.2.2.2]; exact (c2 i hi).2⟩, (M3 40 (by omega) (by omega)).1.2.2.1.trans c3⟩, ⟨?_, (M4 213 (by omega) (by omega)).1.2.2.1.trans d2, (M4 214 (by omega) (by omega)).1.2.2.1.trans d3⟩, ⟨?_, L6.N (by omega) (by omega) e2, L7.N (by omega) (by omega) e3⟩, ⟨(J8.2 241 (by omega) (by omega) (by omega)).1.1.trans h1, (J8.2 241 (by omega) (by omega) (by omega)).1.2.1.trans h2, (J9.2 242 (by omega) (by omega) (by omega)).1.1.trans i1, (J9.2 242 (by omega) (by omega) (by omega)).1.2.1.trans i2, (J10.2 243 (by omega) (by omega) (by omega)).1.1.trans j1, (J10.2 243 (by omega) (by omega) (by omega)).1.2.1.trans j2, l1, l2, l3⟩⟩
  · unfold XSh at *
    rw [(M3 40 (by omega) (by omega)).1.1, (M3 40 (by omega) (by omega)).2, (M3 41 (by omega) (by omega)).1.1, (M3 41 (by omega) (by omega)).1.2.1, (M3 42 (by omega) (by omega)).1.1, (M3 42 (by omega) (by omega)).1.2.1]
    exact c1
  · unfold XSr at *
    rw [(M4 213 (by omega) (by omega)).1.1, (M4 213 (by omega) (by omega)).2, (M4 214 (by omega) (by omega)).1.1, (M4 214 (by omega) (by omega)).2, (M4 215 (by omega) (by omega)).1.1, (M4 215 (by omega) (by omega)).1.2.1, (M4 216 (by omega) (by omega)).1.1, (M4 216 (by omega) (by omega)).1.2.1, (M4 217 (by omega) (by omega)).1.1, (M4 217 (by omega) (by omega)).1.2.1]
    exact d1
  · unfold JS at *
    rw [(M5 218 (by omega) (by omega)).1.1, (M5 218 (by omega) (by omega)).2, (M5 219 (by omega) (by omega)).1.1, (M5 219 (by omega) (by omega)).1.2.1, (M5 220 (by omega) (by omega)).1.1, (M5 220 (by omega) (by omega)).1.2.1]
    exact e1
