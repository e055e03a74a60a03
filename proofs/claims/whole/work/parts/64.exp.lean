/-! ===== expressions: what a text's code tells, on an abstract machine of its own ===== -/
abbrev EV : Type := Nat → Int
abbrev VAL : Type := EV → Option Int
abbrev INS : Type := Nat → Nat × Nat
def EOK (e : EV) : Prop := ∀ k, -1 ≤ e k ∧ e k ≤ 10000
def bd (x : Int) : Prop := -1000000000 ≤ x ∧ x ≤ 1000000000
def cl (x : Int) : Option Int := if -1000000000 ≤ x ∧ x ≤ 1000000000 then some x else none
def aOp (op : Nat) (x y : Int) : Option Int :=
  if op = 6 then cl (x + y) else if op = 7 then cl (x - y) else if op = 8 then cl (x * y)
  else if op = 9 then (if y = 0 then none else cl (x.tdiv y)) else if op = 10 then (if y = 0 then none else cl (x.tmod y))
  else if op = 11 then some (if x < y then 1 else 0) else if op = 12 then some (if y < x then 1 else 0) else some (if x = y then 1 else 0)
theorem cl_bd {x y : Int} (h : cl x = some y) : bd y := by
  unfold cl at h
  split at h
  · next c => cases h; exact c
  · cases h
theorem aOp_bd {op : Nat} {x y z : Int} (h : aOp op x y = some z) : bd z := by
  unfold aOp at h
  by_cases c1 : op = 6
  · rw [if_pos c1] at h; exact cl_bd h
  rw [if_neg c1] at h
  by_cases c2 : op = 7
  · rw [if_pos c2] at h; exact cl_bd h
  rw [if_neg c2] at h
  by_cases c3 : op = 8
  · rw [if_pos c3] at h; exact cl_bd h
  rw [if_neg c3] at h
  by_cases c4 : op = 9
  · rw [if_pos c4] at h
    split at h
    · cases h
    · exact cl_bd h
  rw [if_neg c4] at h
  by_cases c5 : op = 10
  · rw [if_pos c5] at h
    split at h
    · cases h
    · exact cl_bd h
  rw [if_neg c5] at h
  have : ∀ (c : Prop) [Decidable c], some (if c then (1 : Int) else 0) = some z → bd z := fun c _ q => by
    have q := Option.some.inj q
    split at q <;> subst q <;> constructor <;> omega
  by_cases c6 : op = 11
  · rw [if_pos c6] at h; exact this _ h
  rw [if_neg c6] at h
  by_cases c7 : op = 12
  · rw [if_pos c7] at h; exact this _ h
  rw [if_neg c7] at h
  exact this _ h
def aStep (ins : INS) (e : EV) (i : Nat) (s : List Int) : Option (Nat × List Int) :=
  if (ins i).1 = 1 then some (i + 1, ((ins i).2 : Int) :: s) else if (ins i).1 = 2 then some (i + 1, e (ins i).2 :: s)
  else match s with
  | [] => none
  | x :: r => if (ins i).1 = 3 then some (i + 1, (1 - x) :: r) else if (ins i).1 = 4 then (if x = 1 then some ((ins i).2, x :: r) else some (i + 1, r))
    else if (ins i).1 = 5 then (if x = 0 then some ((ins i).2, x :: r) else some (i + 1, r))
    else match r with
    | [] => none
    | y :: t => (aOp (ins i).1 y x).map (fun z => (i + 1, z :: t))
/-- what stands before a step: where it is, how high the pile is, what lies there -/
def aPre (ins : INS) (i j L k : Nat) (s : List Int) : Prop := (i ≤ k ∧ k < j) ∧ s.length ≤ L ∧ (∀ x, x ∈ s → bd x) ∧ 1 ≤ (ins k).1 ∧ (ins k).1 ≤ 13 ∧ ((ins k).1 = 4 ∨ (ins k).1 = 5 → k < (ins k).2 ∧ (ins k).2 ≤ j) ∧ (3 ≤ (ins k).1 → 1 ≤ s.length) ∧ (6 ≤ (ins k).1 → 2 ≤ s.length)
def Go (ins : INS) (e : EV) (i j L : Nat) : Nat → Nat → List Int → Option (Nat × List Int) → Prop
  | 0, k, s, r => r = some (k, s)
  | n + 1, k, s, r => aPre ins i j L k s ∧ match aStep ins e k s with
    | none => r = none
    | some (k', s') => Go ins e i j L n k' s' r
theorem Go_s {ins : INS} {e : EV} {i j L n k : Nat} {s : List Int} {r : Option (Nat × List Int)} {k' : Nat} {s' : List Int} (p : aPre ins i j L k s) (h : aStep ins e k s = some (k', s')) (g : Go ins e i j L n k' s' r) : Go ins e i j L (n + 1) k s r := by
  unfold Go
  refine ⟨p, ?_⟩
  rw [h]
  exact g
theorem Go_n {ins : INS} {e : EV} {i j L k : Nat} {s : List Int} (p : aPre ins i j L k s) (h : aStep ins e k s = none) : Go ins e i j L 1 k s none := by
  unfold Go
  refine ⟨p, ?_⟩
  rw [h]
theorem aPre.wide {ins : INS} {i j L i' j' L' k : Nat} {s : List Int} (p : aPre ins i j L k s) (h1 : i' ≤ i) (h2 : j ≤ j') (h3 : L ≤ L') : aPre ins i' j' L' k s := by
  obtain ⟨⟨a, b⟩, c, d, e1, e2, f, g⟩ := p
  exact ⟨⟨by omega, by omega⟩, by omega, d, e1, e2, fun z => ⟨(f z).1, by have := (f z).2; omega⟩, g⟩
theorem Go_wide {ins : INS} {e : EV} {i j L i' j' L' : Nat} (h1 : i' ≤ i) (h2 : j ≤ j') (h3 : L ≤ L') : ∀ (n k : Nat) (s : List Int) (r : Option (Nat × List Int)), Go ins e i j L n k s r → Go ins e i' j' L' n k s r
  | 0, _, _, _, g => g
  | n + 1, k, s, r, g => by
    unfold Go at g ⊢
    obtain ⟨p, g⟩ := g
    refine ⟨p.wide h1 h2 h3, ?_⟩
    split at g
    · exact g
    · exact Go_wide h1 h2 h3 n _ _ _ g
theorem Go_trans {ins : INS} {e : EV} {i j L : Nat} {k' : Nat} {s' : List Int} {r : Option (Nat × List Int)} {m : Nat} (g2 : Go ins e i j L m k' s' r) : ∀ (n k : Nat) (s : List Int), Go ins e i j L n k s (some (k', s')) → Go ins e i j L (n + m) k s r
  | 0, k, s, g => by
    unfold Go at g
    cases g
    rw [Nat.zero_add]
    exact g2
  | n + 1, k, s, g => by
    rw [show n + 1 + m = (n + m) + 1 by omega]
    unfold Go at g ⊢
    obtain ⟨p, g⟩ := g
    refine ⟨p, ?_⟩
    split at g
    · cases g
    · next h => exact Go_trans g2 n _ _ g
def agree (l ins : INS) (i j : Nat) : Prop := ∀ k, i ≤ k → k < j → ins k = l k
/-- the code from i to j tells v, on a pile that grows by D at most before its last step -/
def Seg (l : INS) (i j D : Nat) (v : VAL) : Prop := i < j ∧ (∀ e x, EOK e → v e = some x → bd x) ∧ ∀ ins, agree l ins i j → ∀ e s, EOK e → (∀ x, x ∈ s → bd x) → ∃ n, Go ins e i j (s.length + D) n i s ((v e).map (fun x => (j, x :: s)))
def TestV (v : VAL) : Prop := ∀ e x, EOK e → v e = some x → x = 0 ∨ x = 1
theorem Seg.mono {l : INS} {i j D D' : Nat} {v : VAL} (s : Seg l i j D v) (h : D ≤ D') : Seg l i j D' v := ⟨s.1, s.2.1, fun ins a e t he hb => by
  obtain ⟨n, g⟩ := s.2.2 ins a e t he hb
  exact ⟨n, Go_wide (Nat.le_refl _) (Nat.le_refl _) (by omega) _ _ _ _ g⟩⟩
theorem Seg.of {l l' : INS} {i j D : Nat} {v : VAL} (s : Seg l i j D v) (h : agree l l' i j) : Seg l' i j D v := ⟨s.1, s.2.1, fun ins a e t he hb => s.2.2 ins (fun k h1 h2 => (a k h1 h2).trans (h k h1 h2)) e t he hb⟩
def vNum (n : Nat) : VAL := fun _ => some (n : Int)
def vWord (k : Nat) : VAL := fun e => some (e k)
def vBin (op : Nat) (a b : VAL) : VAL := fun e => (a e).bind fun x => (b e).bind fun y => aOp op x y
def vNot (a : VAL) : VAL := fun e => (a e).map fun x => 1 - x
def vOr (a b : VAL) : VAL := fun e => (a e).bind fun x => if x = 1 then some 1 else b e
def vAnd (a b : VAL) : VAL := fun e => (a e).bind fun x => if x = 0 then some 0 else b e
theorem seg_num {l : INS} {i a : Nat} (h : l i = (1, a)) (ha : a ≤ 1000) : Seg l i (i + 1) 0 (vNum a) := by
  refine ⟨by omega, fun e x _ q => ?_, fun ins ag e s he hb => ⟨1, ?_⟩⟩
  · cases q; constructor <;> omega
  · have e1 := (ag i (by omega) (by omega)).trans h
    refine Go_s (k' := i + 1) (s' := (a : Int) :: s) ⟨⟨by omega, by omega⟩, by omega, hb, by rw [e1]; omega, by rw [e1]; omega, ?_, ?_, ?_⟩ ?_ rfl
    · rw [e1]; intro z; rcases z with z | z <;> cases z
    · rw [e1]; intro z; exact absurd z (by simp)
    · rw [e1]; intro z; exact absurd z (by simp)
    · unfold aStep; rw [e1]; rfl
theorem seg_word {l : INS} {i a : Nat} (h : l i = (2, a)) : Seg l i (i + 1) 0 (vWord a) := by
  refine ⟨by omega, fun e x he q => ?_, fun ins ag e s he hb => ⟨1, ?_⟩⟩
  · cases q; have := he a; constructor <;> omega
  · have e1 := (ag i (by omega) (by omega)).trans h
    refine Go_s (k' := i + 1) (s' := e a :: s) ⟨⟨by omega, by omega⟩, by omega, hb, by rw [e1]; omega, by rw [e1]; omega, ?_, ?_, ?_⟩ ?_ rfl
    · rw [e1]; intro z; rcases z with z | z <;> cases z
    · rw [e1]; intro z; exact absurd z (by simp)
    · rw [e1]; intro z; exact absurd z (by simp)
    · unfold aStep; rw [e1]; rfl
theorem agree.sub {l ins : INS} {i j i' j' : Nat} (a : agree l ins i j) (h1 : i ≤ i') (h2 : j' ≤ j) : agree l ins i' j' := fun k q1 q2 => a k (by omega) (by omega)
theorem seg_bin {l : INS} {i j k op x D1 D2 : Nat} {a b : VAL} (s1 : Seg l i j D1 a) (s2 : Seg l j k D2 b) (h : l k = (op, x)) (h6 : 6 ≤ op) (h13 : op ≤ 13) {D : Nat} (d1 : D1 ≤ D) (d2 : D2 + 1 ≤ D) (d3 : 2 ≤ D) : Seg l i (k + 1) D (vBin op a b) := by
  have l1 := s1.1
  have l2 := s2.1
  refine ⟨by omega, fun e x he q => ?_, fun ins ag e s he hb => ?_⟩
  · unfold vBin at q
    cases h1 : a e with
    | none => rw [h1] at q; cases q
    | some u =>
      rw [h1] at q
      cases h2 : b e with
      | none => rw [h2] at q; cases q
      | some w => rw [h2] at q; exact aOp_bd q
  · obtain ⟨n1, g1⟩ := s1.2.2 ins (ag.sub (by omega) (by omega)) e s he hb
    have g1 := Go_wide (i' := i) (j' := k + 1) (L' := s.length + D) (by omega) (by omega) (by omega) _ _ _ _ g1
    unfold vBin
    cases h1 : a e with
    | none => rw [h1] at g1; exact ⟨n1, g1⟩
    | some u =>
      rw [h1] at g1
      have hu := s1.2.1 e u he h1
      have hb1 : ∀ x, x ∈ u :: s → bd x := fun x hx => by
        rcases List.mem_cons.mp hx with rfl | hx
        · exact hu
        · exact hb x hx
      obtain ⟨n2, g2⟩ := s2.2.2 ins (ag.sub (by omega) (by omega)) e (u :: s) he hb1
      have g2 := Go_wide (i' := i) (j' := k + 1) (L' := s.length + D) (by omega) (by omega) (by rw [List.length_cons]; omega) _ _ _ _ g2
      cases h2 : b e with
      | none =>
        rw [h2] at g2
        refine ⟨n1 + n2, Go_trans g2 _ _ _ g1⟩
      | some w =>
        rw [h2] at g2
        have hw := s2.2.1 e w he h2
        have e1 := (ag k (by omega) (by omega)).trans h
        have pre : aPre ins i (k + 1) (s.length + D) k (w :: u :: s) := ⟨⟨by omega, by omega⟩, by simp only [List.length_cons]; omega, fun x hx => by
          rcases List.mem_cons.mp hx with rfl | hx
          · exact hw
          · exact hb1 x hx, by rw [e1]; show 1 ≤ op; omega, by rw [e1]; exact h13, by rw [e1]; intro z; exact absurd z (by show ¬ (op = 4 ∨ op = 5); omega), fun _ => by simp only [List.length_cons]; omega, fun _ => by simp only [List.length_cons]; omega⟩
        have st : aStep ins e k (w :: u :: s) = (aOp op u w).map (fun z => (k + 1, z :: s)) := by
          unfold aStep
          rw [e1]
          simp only
          rw [if_neg (by omega), if_neg (by omega), if_neg (by omega), if_neg (by omega), if_neg (by omega)]
        refine ⟨n1 + (n2 + 1), Go_trans (Go_trans ?_ _ _ _ g2) _ _ _ g1⟩
        show Go ins e i (k + 1) (s.length + D) 1 k (w :: u :: s) ((aOp op u w).map fun x => (k + 1, x :: s))
        cases h3 : aOp op u w with
        | none => rw [h3] at st; exact Go_n pre st
        | some z => rw [h3] at st; exact Go_s pre st rfl
theorem seg_not {l : INS} {i j x D1 : Nat} {a : VAL} (s1 : Seg l i j D1 a) (ta : TestV a) (h : l j = (3, x)) {D : Nat} (d1 : D1 ≤ D) (d3 : 1 ≤ D) : Seg l i (j + 1) D (vNot a) := by
  have l1 := s1.1
  refine ⟨by omega, fun e x he q => ?_, fun ins ag e s he hb => ?_⟩
  · unfold vNot at q
    cases h1 : a e with
    | none => rw [h1] at q; cases q
    | some u =>
      rw [h1] at q
      cases q
      rcases ta e u he h1 with rfl | rfl <;> constructor <;> (dsimp only; omega)
  · obtain ⟨n1, g1⟩ := s1.2.2 ins (ag.sub (by omega) (by omega)) e s he hb
    have g1 := Go_wide (i' := i) (j' := j + 1) (L' := s.length + D) (by omega) (by omega) (by omega) _ _ _ _ g1
    unfold vNot
    cases h1 : a e with
    | none => rw [h1] at g1; exact ⟨n1, g1⟩
    | some u =>
      rw [h1] at g1
      have hu := s1.2.1 e u he h1
      have e1 := (ag j (by omega) (by omega)).trans h
      have pre : aPre ins i (j + 1) (s.length + D) j (u :: s) := ⟨⟨by omega, by omega⟩, by simp only [List.length_cons]; omega, fun x hx => by
        rcases List.mem_cons.mp hx with rfl | hx
        · exact hu
        · exact hb x hx, by rw [e1]; simp, by rw [e1]; simp, by rw [e1]; intro z; exact absurd z (by simp), fun _ => by simp only [List.length_cons]; omega, by rw [e1]; intro z; exact absurd z (by simp)⟩
      have st : aStep ins e j (u :: s) = some (j + 1, (1 - u) :: s) := by
        unfold aStep
        rw [e1]
        rfl
      exact ⟨n1 + 1, Go_trans (Go_s (n := 0) (r := some (j + 1, (1 - u) :: s)) pre st rfl) _ _ _ g1⟩
/-- "or" (op 4, settled by 1) and "and" (op 5, settled by 0) -/
def vJn (op : Nat) (a b : VAL) : VAL := if op = 4 then vOr a b else vAnd a b
theorem seg_jn {l : INS} {op i j k D1 D2 : Nat} {a b : VAL} (hop : op = 4 ∨ op = 5) (s1 : Seg l i j D1 a) (h : l j = (op, k)) (s2 : Seg l (j + 1) k D2 b) {D : Nat} (d1 : D1 ≤ D) (d2 : D2 ≤ D) (d3 : 1 ≤ D) : Seg l i k D (vJn op a b) := by
  have l1 := s1.1
  have l2 := s2.1
  refine ⟨by omega, fun e x he q => ?_, fun ins ag e s he hb => ?_⟩
  · have h01 : bd 0 ∧ bd 1 := by constructor <;> constructor <;> omega
    unfold vJn at q
    rcases hop with rfl | rfl
    · rw [if_pos rfl] at q
      unfold vOr at q
      cases h1 : a e with
      | none => rw [h1] at q; cases q
      | some u =>
        rw [h1] at q
        simp only [Option.bind_some] at q
        split at q
        · cases q; exact h01.2
        · exact s2.2.1 e x he q
    · rw [if_neg (by omega)] at q
      unfold vAnd at q
      cases h1 : a e with
      | none => rw [h1] at q; cases q
      | some u =>
        rw [h1] at q
        simp only [Option.bind_some] at q
        split at q
        · cases q; exact h01.1
        · exact s2.2.1 e x he q
  · obtain ⟨n1, g1⟩ := s1.2.2 ins (ag.sub (by omega) (by omega)) e s he hb
    have g1 := Go_wide (i' := i) (j' := k) (L' := s.length + D) (by omega) (by omega) (by omega) _ _ _ _ g1
    obtain ⟨n2, g2⟩ := s2.2.2 ins (ag.sub (by omega) (by omega)) e s he hb
    have g2 := Go_wide (i' := i) (j' := k) (L' := s.length + D) (by omega) (by omega) (by omega) _ _ _ _ g2
    have hv : vJn op a b e = (a e).bind fun x => if x = (if op = 4 then 1 else 0) then some (if op = 4 then 1 else 0) else b e := by
      unfold vJn
      rcases hop with rfl | rfl
      · rfl
      · rfl
    rw [hv]
    cases h1 : a e with
    | none => rw [h1] at g1; exact ⟨n1, g1⟩
    | some u =>
      rw [h1] at g1
      have hu := s1.2.1 e u he h1
      have e1 := (ag j (by omega) (by omega)).trans h
      have pre : aPre ins i k (s.length + D) j (u :: s) := ⟨⟨by omega, by omega⟩, by simp only [List.length_cons]; omega, fun x hx => by
        rcases List.mem_cons.mp hx with rfl | hx
        · exact hu
        · exact hb x hx, by rw [e1]; show 1 ≤ op; omega, by rw [e1]; show op ≤ 13; omega, by rw [e1]; intro _; show j < k ∧ k ≤ k; omega, fun _ => by simp only [List.length_cons]; omega, by rw [e1]; intro z; exact absurd z (by show ¬ 6 ≤ op; omega)⟩
      simp only [Option.bind_some]
      by_cases cu : u = (if op = 4 then 1 else 0)
      · rw [if_pos cu]
        have st : aStep ins e j (u :: s) = some (k, u :: s) := by
          unfold aStep
          rw [e1]
          rcases hop with rfl | rfl
          · rw [if_pos rfl] at cu; subst cu; rfl
          · rw [if_neg (by omega)] at cu; subst cu; rfl
        refine ⟨n1 + 1, Go_trans (Go_s pre st ?_) _ _ _ g1⟩
        show some (k, _ :: s) = some (k, u :: s)
        rw [← cu]
      · rw [if_neg cu]
        have st : aStep ins e j (u :: s) = some (j + 1, s) := by
          unfold aStep
          rw [e1]
          rcases hop with rfl | rfl
          · rw [if_pos rfl] at cu
            show (if u = 1 then _ else _) = _
            rw [if_neg cu]
          · rw [if_neg (by omega)] at cu
            show (if u = 0 then _ else _) = _
            rw [if_neg cu]
        exact ⟨n1 + (n2 + 1), Go_trans (Go_s (n := n2) pre st g2) _ _ _ g1⟩
theorem test_cmp {op : Nat} (h : 11 ≤ op) (a b : VAL) : TestV (vBin op a b) := fun e x _ q => by
  unfold vBin at q
  cases h1 : a e with
  | none => rw [h1] at q; cases q
  | some u =>
    rw [h1] at q
    cases h2 : b e with
    | none => rw [h2] at q; cases q
    | some w =>
      rw [h2] at q
      simp only [Option.bind_some] at q
      unfold aOp at q
      rw [if_neg (by omega), if_neg (by omega), if_neg (by omega), if_neg (by omega), if_neg (by omega)] at q
      split at q
      · cases q; split <;> omega
      · split at q
        · cases q; split <;> omega
        · cases q; split <;> omega
theorem test_not {a : VAL} (ta : TestV a) : TestV (vNot a) := fun e x he q => by
  unfold vNot at q
  cases h1 : a e with
  | none => rw [h1] at q; cases q
  | some u =>
    rw [h1] at q
    cases q
    rcases ta e u he h1 with rfl | rfl <;> (dsimp only; omega)
theorem test_jn {op : Nat} {a b : VAL} (tb : TestV b) : TestV (vJn op a b) := fun e x he q => by
  unfold vJn at q
  split at q
  · unfold vOr at q
    cases h1 : a e with
    | none => rw [h1] at q; cases q
    | some u =>
      rw [h1] at q
      simp only [Option.bind_some] at q
      split at q
      · cases q; exact Or.inr rfl
      · exact tb e x he q
  · unfold vAnd at q
    cases h1 : a e with
    | none => rw [h1] at q; cases q
    | some u =>
      rw [h1] at q
      simp only [Option.bind_some] at q
      split at q
      · cases q; exact Or.inl rfl
      · exact tb e x he q
theorem vNot2 (a : VAL) : vNot (vNot a) = a := by
  funext e
  unfold vNot
  cases a e with
  | none => rfl
  | some u => simp only [Option.map_some]; congr 1; omega
