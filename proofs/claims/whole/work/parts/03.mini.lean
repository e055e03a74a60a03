/-! ===== A SMALL MACHINE OF OUR OWN, pure: heaps as functions, rows of resolved instructions, a least predicate WP of runs that come to their end; its soundness over the real machine stands in later parts ===== -/
abbrev MH : Type := Nat × Nat × Nat × (Nat → Nat) × (Nat → Nat) × (Nat → Nat → Int32) × (Nat → Nat → Int64) × (Nat → Nat → Option Nat) × (Nat → Nat → Int32) × (Nat → Nat → Int64) × (Nat → Nat → Option Nat)
def hsz (h : MH) : Nat := h.1
def hcc (h : MH) : Nat := h.2.1
def hcu (h : MH) : Nat := h.2.2.1
def hkd (h : MH) : Nat → Nat := h.2.2.2.1
def hln (h : MH) : Nat → Nat := h.2.2.2.2.1
def hfi (h : MH) : Nat → Nat → Int32 := h.2.2.2.2.2.1
def hfj (h : MH) : Nat → Nat → Int64 := h.2.2.2.2.2.2.1
def hfr (h : MH) : Nat → Nat → Option Nat := h.2.2.2.2.2.2.2.1
def hia (h : MH) : Nat → Nat → Int32 := h.2.2.2.2.2.2.2.2.1
def hja (h : MH) : Nat → Nat → Int64 := h.2.2.2.2.2.2.2.2.2.1
def hra (h : MH) : Nat → Nat → Option Nat := h.2.2.2.2.2.2.2.2.2.2
def up1 {α : Type} (f : Nat → α) (k : Nat) (x : α) : Nat → α := fun j => if j = k then x else f j
/-- a whole cell's contents anew -/
def sFI (h : MH) (a : Nat) (f : Nat → Int32) : MH := (hsz h, hcc h, hcu h, hkd h, hln h, up1 (hfi h) a f, hfj h, hfr h, hia h, hja h, hra h)
def sFJ (h : MH) (a : Nat) (f : Nat → Int64) : MH := (hsz h, hcc h, hcu h, hkd h, hln h, hfi h, up1 (hfj h) a f, hfr h, hia h, hja h, hra h)
def sFR (h : MH) (a : Nat) (f : Nat → Option Nat) : MH := (hsz h, hcc h, hcu h, hkd h, hln h, hfi h, hfj h, up1 (hfr h) a f, hia h, hja h, hra h)
def sIA (h : MH) (a : Nat) (f : Nat → Int32) : MH := (hsz h, hcc h, hcu h, hkd h, hln h, hfi h, hfj h, hfr h, up1 (hia h) a f, hja h, hra h)
def sJA (h : MH) (a : Nat) (f : Nat → Int64) : MH := (hsz h, hcc h, hcu h, hkd h, hln h, hfi h, hfj h, hfr h, hia h, up1 (hja h) a f, hra h)
def sRA (h : MH) (a : Nat) (f : Nat → Option Nat) : MH := (hsz h, hcc h, hcu h, hkd h, hln h, hfi h, hfj h, hfr h, hia h, hja h, up1 (hra h) a f)
/-- the charged cells and slots -/
def sCC (h : MH) (c u : Nat) : MH := (hsz h, c, u, hkd h, hln h, hfi h, hfj h, hfr h, hia h, hja h, hra h)
/-- a new cell of a kind, of n places, all of it 0 -/
def hnew (h : MH) (kd n : Nat) : MH := (hsz h + 1, hcc h + 1, hcu h + n, up1 (hkd h) (hsz h) kd, up1 (hln h) (hsz h) n, up1 (hfi h) (hsz h) (fun _ => 0), up1 (hfj h) (hsz h) (fun _ => 0), up1 (hfr h) (hsz h) (fun _ => none), up1 (hia h) (hsz h) (fun _ => 0), up1 (hja h) (hsz h) (fun _ => 0), up1 (hra h) (hsz h) (fun _ => none))
abbrev PI : Type := Nat × Nat × Nat × Nat × Int32 × Int64 × List Nat
abbrev LT : Type := List (Option Value)
abbrev KT : Type := Nat → List Value → LT → MH → Prop
abbrev RT : Type := Option Value → MH → Prop
abbrev GT : Type := Nat → List Value → MH → RT → Prop
def kont (X : KT) (nx : Nat) (st : List Value) (ls : LT) : RT := fun r h => X nx (r.toList ++ st) ls h
def lget : LT → Nat → Option Value
  | [], _ => none
  | x :: _, 0 => x
  | _ :: l, n + 1 => lget l n
def lkil (x : Option Value) : Option Value := match x with
  | some (.long _) => none
  | some (.double _) => none
  | y => y
def lst1 : LT → Nat → Value → LT
  | [], _, _ => []
  | _ :: l, 0, v => some v :: l
  | [x], _ + 1, _ => [x]
  | x :: _ :: l, 1, v => lkil x :: some v :: l
  | x :: y :: l, n + 2, v => x :: lst1 (y :: l) (n + 1) v
def lst2 : LT → Nat → Int64 → LT
  | [], _, _ => []
  | [_], 0, v => [some (.long v)]
  | _ :: _ :: l, 0, v => some (.long v) :: none :: l
  | [x], _ + 1, _ => [x]
  | [x, _], 1, v => [lkil x, some (.long v)]
  | x :: _ :: _ :: l, 1, v => lkil x :: some (.long v) :: none :: l
  | x :: y :: l, n + 2, v => x :: lst2 (y :: l) (n + 1) v
def rfv (r : Option Nat) : Value := match r with
  | none => .null
  | some a => .ref a
section SS
variable (X : KT) (nx : Nat)
def s_ldi (a : Nat) (st : List Value) (ls : LT) (h : MH) : Prop := match lget ls a with
  | some (.int x) => X nx (.int x :: st) ls h
  | _ => False
def s_lda (a : Nat) (st : List Value) (ls : LT) (h : MH) : Prop := match lget ls a with
  | some (.ref x) => X nx (.ref x :: st) ls h
  | some .null => X nx (.null :: st) ls h
  | _ => False
def s_ldj (a : Nat) (st : List Value) (ls : LT) (h : MH) : Prop := match lget ls a with
  | some (.long x) => X nx (.long x :: st) ls h
  | _ => False
def s_sti (a : Nat) (st : List Value) (ls : LT) (h : MH) : Prop := match st with
  | .int x :: r => X nx r (lst1 ls a (.int x)) h
  | _ => False
def s_sta (a : Nat) (st : List Value) (ls : LT) (h : MH) : Prop := match st with
  | .ref x :: r => X nx r (lst1 ls a (.ref x)) h
  | .null :: r => X nx r (lst1 ls a .null) h
  | _ => False
def s_stj (a : Nat) (st : List Value) (ls : LT) (h : MH) : Prop := match st with
  | .long x :: r => X nx r (lst2 ls a x) h
  | _ => False
def s_iinc (a : Nat) (i : Int32) (st : List Value) (ls : LT) (h : MH) : Prop := match lget ls a with
  | some (.int x) => X nx st (lst1 ls a (.int (x + i))) h
  | _ => False
def s_bi (f : Int32 → Int32 → Int32) (st : List Value) (ls : LT) (h : MH) : Prop := match st with
  | .int y :: .int x :: r => X nx (.int (f x y) :: r) ls h
  | _ => False
def s_bj (f : Int64 → Int64 → Int64) (st : List Value) (ls : LT) (h : MH) : Prop := match st with
  | .long y :: .long x :: r => X nx (.long (f x y) :: r) ls h
  | _ => False
def s_di (f : Int32 → Int32 → Int32) (st : List Value) (ls : LT) (h : MH) : Prop := match st with
  | .int y :: .int x :: r => ¬ y = 0 ∧ X nx (.int (f x y) :: r) ls h
  | _ => False
def s_dj (f : Int64 → Int64 → Int64) (st : List Value) (ls : LT) (h : MH) : Prop := match st with
  | .long y :: .long x :: r => ¬ y = 0 ∧ X nx (.long (f x y) :: r) ls h
  | _ => False
def s_ui (f : Int32 → Int32) (st : List Value) (ls : LT) (h : MH) : Prop := match st with
  | .int x :: r => X nx (.int (f x) :: r) ls h
  | _ => False
def s_ij (f : Int32 → Int64) (st : List Value) (ls : LT) (h : MH) : Prop := match st with
  | .int x :: r => X nx (.long (f x) :: r) ls h
  | _ => False
def s_ji (f : Int64 → Int32) (st : List Value) (ls : LT) (h : MH) : Prop := match st with
  | .long x :: r => X nx (.int (f x) :: r) ls h
  | _ => False
def s_sj (f : Int64 → Int32 → Int64) (st : List Value) (ls : LT) (h : MH) : Prop := match st with
  | .int y :: .long x :: r => X nx (.long (f x y) :: r) ls h
  | _ => False
def s_lcmp (st : List Value) (ls : LT) (h : MH) : Prop := match st with
  | .long y :: .long x :: r => X nx (.int (if x < y then -1 else if x = y then 0 else 1) :: r) ls h
  | _ => False
def s_dup (st : List Value) (ls : LT) (h : MH) : Prop := match st with
  | .int x :: r => X nx (.int x :: .int x :: r) ls h
  | .ref x :: r => X nx (.ref x :: .ref x :: r) ls h
  | _ => False
def s_dup2 (st : List Value) (ls : LT) (h : MH) : Prop := match st with
  | .long x :: r => X nx (.long x :: .long x :: r) ls h
  | .int y :: .ref x :: r => X nx (.int y :: .ref x :: .int y :: .ref x :: r) ls h
  | _ => False
def s_pop (st : List Value) (ls : LT) (h : MH) : Prop := match st with
  | .int _ :: r => X nx r ls h
  | _ => False
def s_ci (t : Nat) (c : Int32 → Int32 → Prop) (st : List Value) (ls : LT) (h : MH) : Prop := match st with
  | .int y :: .int x :: r => (c x y → X t r ls h) ∧ (¬ c x y → X nx r ls h)
  | _ => False
def s_cz (t : Nat) (c : Int32 → Prop) (st : List Value) (ls : LT) (h : MH) : Prop := match st with
  | .int x :: r => (c x → X t r ls h) ∧ (¬ c x → X nx r ls h)
  | _ => False
def s_nn (t : Nat) (st : List Value) (ls : LT) (h : MH) : Prop := match st with
  | .ref _ :: r => X t r ls h
  | .null :: r => X nx r ls h
  | _ => False
def s_nl (t : Nat) (st : List Value) (ls : LT) (h : MH) : Prop := match st with
  | .ref _ :: r => X nx r ls h
  | .null :: r => X t r ls h
  | _ => False
def s_tsw (lo : Int32) (t : List Nat) (st : List Value) (ls : LT) (h : MH) : Prop := match st with
  | .int x :: r => (x.toInt < lo.toInt ∨ lo.toInt + t.length ≤ x.toInt → X nx r ls h) ∧ ∀ k : Nat, k < t.length → x.toInt = lo.toInt + k → X (t.getD k 0) r ls h
  | _ => False
def s_gfi (ci k : Nat) (st : List Value) (ls : LT) (h : MH) : Prop := match st with
  | .ref a :: r => hkd h a = ci ∧ X nx (.int (hfi h a k) :: r) ls h
  | _ => False
def s_gfj (ci k : Nat) (st : List Value) (ls : LT) (h : MH) : Prop := match st with
  | .ref a :: r => hkd h a = ci ∧ X nx (.long (hfj h a k) :: r) ls h
  | _ => False
def s_gfr (ci k : Nat) (st : List Value) (ls : LT) (h : MH) : Prop := match st with
  | .ref a :: r => hkd h a = ci ∧ X nx (rfv (hfr h a k) :: r) ls h
  | _ => False
def s_pfi (ci k : Nat) (st : List Value) (ls : LT) (h : MH) : Prop := match st with
  | .int x :: .ref a :: r => hkd h a = ci ∧ X nx r ls (sFI h a (up1 (hfi h a) k x))
  | _ => False
def s_pfz (ci k : Nat) (st : List Value) (ls : LT) (h : MH) : Prop := match st with
  | .int x :: .ref a :: r => (hkd h a = ci ∧ (x = 0 ∨ x = 1)) ∧ X nx r ls (sFI h a (up1 (hfi h a) k x))
  | _ => False
def s_pfj (ci k : Nat) (st : List Value) (ls : LT) (h : MH) : Prop := match st with
  | .long x :: .ref a :: r => hkd h a = ci ∧ X nx r ls (sFJ h a (up1 (hfj h a) k x))
  | _ => False
def s_pfr (ci k : Nat) (st : List Value) (ls : LT) (h : MH) : Prop := match st with
  | .ref x :: .ref a :: r => hkd h a = ci ∧ X nx r ls (sFR h a (up1 (hfr h a) k (some x)))
  | _ => False
def s_iald (kd : Nat) (st : List Value) (ls : LT) (h : MH) : Prop := match st with
  | .int i :: .ref a :: r => (hkd h a = kd ∧ vp_in i (hln h a)) ∧ X nx (.int (hia h a i.toNatClampNeg) :: r) ls h
  | _ => False
def s_jald (st : List Value) (ls : LT) (h : MH) : Prop := match st with
  | .int i :: .ref a :: r => (hkd h a = 21 ∧ vp_in i (hln h a)) ∧ X nx (.long (hja h a i.toNatClampNeg) :: r) ls h
  | _ => False
def s_aald (st : List Value) (ls : LT) (h : MH) : Prop := match st with
  | .int i :: .ref a :: r => ((23 ≤ hkd h a ∧ hkd h a ≤ 25) ∧ vp_in i (hln h a)) ∧ X nx (rfv (hra h a i.toNatClampNeg) :: r) ls h
  | _ => False
def s_iast (st : List Value) (ls : LT) (h : MH) : Prop := match st with
  | .int x :: .int i :: .ref a :: r => (24 ≤ a ∧ hkd h a = 20 ∧ vp_in i (hln h a)) ∧ X nx r ls (sIA h a (up1 (hia h a) i.toNatClampNeg x))
  | _ => False
def s_zast (st : List Value) (ls : LT) (h : MH) : Prop := match st with
  | .int x :: .int i :: .ref a :: r => (24 ≤ a ∧ hkd h a = 22 ∧ vp_in i (hln h a) ∧ (x = 0 ∨ x = 1)) ∧ X nx r ls (sIA h a (up1 (hia h a) i.toNatClampNeg x))
  | _ => False
def s_jast (st : List Value) (ls : LT) (h : MH) : Prop := match st with
  | .long x :: .int i :: .ref a :: r => (24 ≤ a ∧ hkd h a = 21 ∧ vp_in i (hln h a)) ∧ X nx r ls (sJA h a (up1 (hja h a) i.toNatClampNeg x))
  | _ => False
/-- what an array of references of that kind may hold -/
def rkd (kd : Nat) : Nat := if kd = 23 then 2 else if kd = 24 then 3 else 6
def s_aast (st : List Value) (ls : LT) (h : MH) : Prop := match st with
  | .ref x :: .int i :: .ref a :: r => (24 ≤ a ∧ (23 ≤ hkd h a ∧ hkd h a ≤ 25) ∧ hkd h x = rkd (hkd h a) ∧ vp_in i (hln h a)) ∧ X nx r ls (sRA h a (up1 (hra h a) i.toNatClampNeg (some x)))
  | .null :: .int i :: .ref a :: r => (24 ≤ a ∧ (23 ≤ hkd h a ∧ hkd h a ≤ 25) ∧ vp_in i (hln h a)) ∧ X nx r ls (sRA h a (up1 (hra h a) i.toNatClampNeg none))
  | _ => False
def s_alen (st : List Value) (ls : LT) (h : MH) : Prop := match st with
  | .ref a :: r => (20 ≤ hkd h a ∧ hkd h a ≤ 25) ∧ X nx (.int (nI (hln h a)) :: r) ls h
  | _ => False
def s_newa (lm : Nat × Nat) (kd : Nat) (st : List Value) (ls : LT) (h : MH) : Prop := match st with
  | .int n :: r => (¬ n < 0 ∧ n.toNatClampNeg ≤ 40000 ∧ hcc h + 1 ≤ lm.1 ∧ hcu h + n.toNatClampNeg ≤ lm.2) ∧ X nx (.ref (hsz h) :: r) ls (hnew h kd n.toNatClampNeg)
  | _ => False
def s_new (lm : Nat × Nat) (ci n : Nat) (st : List Value) (ls : LT) (h : MH) : Prop := (hcc h + 1 ≤ lm.1 ∧ hcu h + n ≤ lm.2) ∧ X nx (.ref (hsz h) :: st) ls (hnew h ci n)
def s_inv (G : GT) (y n : Nat) (st : List Value) (ls : LT) (h : MH) : Prop := (n ≤ st.length ∧ st.length ≤ n + 4) ∧ G y (st.take n).reverse h (kont X nx (st.drop n) ls)
def s_inr (G : GT) (y n ci : Nat) (st : List Value) (ls : LT) (h : MH) : Prop := ((n < st.length ∧ st.length ≤ n + 5) ∧ ∃ q, st[n]? = some (.ref q) ∧ hkd h q = ci) ∧ G y (st.take (n + 1)).reverse h (kont X nx (st.drop (n + 1)) ls)
def s_oin (st : List Value) (ls : LT) (h : MH) : Prop := match st with
  | [.ref _] => X nx [] ls h
  | _ => False
def s_acp (st : List Value) (ls : LT) (h : MH) : Prop := match st with
  | [.int n, .int dp, .ref d, .int sp, .ref s] => (24 ≤ s ∧ 24 ≤ d ∧ hkd h s = 20 ∧ hkd h d = 20 ∧ ¬ sp < 0 ∧ ¬ dp < 0 ∧ ¬ n < 0 ∧ sp.toNatClampNeg + n.toNatClampNeg ≤ hln h s ∧ dp.toNatClampNeg + n.toNatClampNeg ≤ hln h d) ∧ X nx [] ls (sIA h d (va_cpy (hia h s) (hia h d) sp.toNatClampNeg dp.toNatClampNeg n.toNatClampNeg))
  | _ => False
def s_cln (lm : Nat × Nat) (st : List Value) (ls : LT) (h : MH) : Prop := match st with
  | [.ref a] => (24 ≤ a ∧ hkd h a = 20 ∧ hcc h + 1 ≤ lm.1 ∧ hcu h + hln h a ≤ lm.2) ∧ X nx [.ref (hsz h)] ls (sIA (hnew h 20 (hln h a)) (hsz h) (hia h a))
  | _ => False
/-- the texts of the constants, sign by sign -/
def sbt : Nat → List Int32 := fun k => ([[108, 105, 110, 107], [115, 116, 101, 112], [99, 117, 116], [114, 97, 110, 107, 115], [98, 97, 114, 115], [116, 111], [97, 115], [110, 111, 116], [116, 105, 109, 101], [119, 97, 105, 116, 115], [100, 111, 110, 101], [108, 97, 116, 101, 115, 116], [100, 105, 115, 116, 97, 110, 99, 101], [97, 99, 116, 105, 118, 101], [107, 105, 110, 100], [102, 114, 111, 109], [102, 97, 114], [109, 111, 111, 100], [111, 114], [97, 110, 100], [116, 105, 109, 101, 115], [105, 102]] : List (List Int32)).getD k []
def s_sln (st : List Value) (ls : LT) (h : MH) : Prop := match st with
  | .ref a :: r => (2 ≤ a ∧ a < 24 ∧ r.length ≤ 4) ∧ X nx (.int (nI (sbt (a - 2)).length) :: r) ls h
  | _ => False
def s_sch (st : List Value) (ls : LT) (h : MH) : Prop := match st with
  | .int i :: .ref a :: r => ((2 ≤ a ∧ a < 24 ∧ r.length ≤ 4) ∧ vp_in i (sbt (a - 2)).length) ∧ X nx (.int ((sbt (a - 2)).getD i.toNatClampNeg 0) :: r) ls h
  | _ => False
def s_iva (lm : Nat × Nat) (mc ms : Nat) (G : GT) (y n : Nat) (st : List Value) (ls : LT) (h : MH) : Prop := (hcc h + mc ≤ lm.1 ∧ hcu h + ms ≤ lm.2) ∧ s_inv X nx G y n st ls h
def s_ira (lm : Nat × Nat) (mc ms : Nat) (G : GT) (y n ci : Nat) (st : List Value) (ls : LT) (h : MH) : Prop := (hcc h + mc ≤ lm.1 ∧ hcu h + ms ≤ lm.2) ∧ s_inr X nx G y n ci st ls h
def s_chk (st : List Value) (ls : LT) (h : MH) : Prop := match st with
  | .ref a :: r => (24 ≤ a ∧ hkd h a = 20) ∧ X nx (.ref a :: r) ls h
  | _ => False
end SS
def s_ret (R : RT) (z : Nat) (st : List Value) (h : MH) : Prop := match st with
  | [.int x] => (z = 1 → x = 0 ∨ x = 1) ∧ R (some (.int x)) h
  | _ => False
def s_jret (R : RT) (st : List Value) (h : MH) : Prop := match st with
  | [.long x] => R (some (.long x)) h
  | _ => False
def s_aret (R : RT) (st : List Value) (h : MH) : Prop := match st with
  | [.ref x] => R (some (.ref x)) h
  | [.null] => R (some .null) h
  | _ => False
def s_vret (R : RT) (st : List Value) (h : MH) : Prop := match st with
  | [] => R none h
  | _ => False
/-- one row -/
def stp (G : GT) (R : RT) (lm : Nat × Nat) (r : PI) (X : KT) (st : List Value) (ls : LT) (h : MH) : Prop := match r with
  | (op, nx, a, b, i, j, t) => match op with
    | 1 => s_ldi X nx a st ls h
    | 2 => s_lda X nx a st ls h
    | 3 => s_ldj X nx a st ls h
    | 4 => s_sti X nx a st ls h
    | 5 => s_sta X nx a st ls h
    | 6 => s_stj X nx a st ls h
    | 7 => X nx (.int i :: st) ls h
    | 8 => X nx (.long j :: st) ls h
    | 9 => X nx (.null :: st) ls h
    | 10 => X nx (.ref a :: st) ls h
    | 11 => s_iinc X nx a i st ls h
    | 12 => s_bi X nx (fun x y => x + y) st ls h
    | 13 => s_bi X nx (fun x y => x - y) st ls h
    | 14 => s_bi X nx (fun x y => x * y) st ls h
    | 15 => s_di X nx (fun x y => x / y) st ls h
    | 16 => s_di X nx (fun x y => x - x / y * y) st ls h
    | 17 => s_ui X nx (fun x => -x) st ls h
    | 18 => s_bi X nx (fun x y => x <<< (y &&& 31)) st ls h
    | 19 => s_bi X nx (fun x y => x >>> (y &&& 31)) st ls h
    | 20 => s_bi X nx (fun x y => (x.toUInt32 >>> (y.toUInt32 &&& Int32.toUInt32 31)).toInt32) st ls h
    | 21 => s_bi X nx (fun x y => x &&& y) st ls h
    | 22 => s_bi X nx (fun x y => x ||| y) st ls h
    | 23 => s_bi X nx (fun x y => x ^^^ y) st ls h
    | 24 => s_bj X nx (fun x y => x + y) st ls h
    | 25 => s_bj X nx (fun x y => x - y) st ls h
    | 26 => s_bj X nx (fun x y => x * y) st ls h
    | 27 => s_dj X nx (fun x y => x / y) st ls h
    | 28 => s_dj X nx (fun x y => x - x / y * y) st ls h
    | 29 => s_sj X nx (fun x y => x <<< (y.toInt64 &&& 63)) st ls h
    | 30 => s_sj X nx (fun x y => x >>> (y.toInt64 &&& 63)) st ls h
    | 31 => s_bj X nx (fun x y => x &&& y) st ls h
    | 32 => s_bj X nx (fun x y => x ||| y) st ls h
    | 33 => s_ij X nx (fun x => x.toInt64) st ls h
    | 34 => s_ji X nx (fun x => x.toInt32) st ls h
    | 35 => s_lcmp X nx st ls h
    | 37 => s_dup X nx st ls h
    | 38 => s_dup2 X nx st ls h
    | 39 => s_pop X nx st ls h
    | 40 => X nx st ls h
    | 41 => s_ci X nx a (fun x y => x = y) st ls h
    | 42 => s_ci X nx a (fun x y => ¬ x = y) st ls h
    | 43 => s_ci X nx a (fun x y => x < y) st ls h
    | 44 => s_ci X nx a (fun x y => y ≤ x) st ls h
    | 45 => s_ci X nx a (fun x y => y < x) st ls h
    | 46 => s_ci X nx a (fun x y => x ≤ y) st ls h
    | 47 => s_cz X nx a (fun x => x = 0) st ls h
    | 48 => s_cz X nx a (fun x => ¬ x = 0) st ls h
    | 49 => s_cz X nx a (fun x => x < 0) st ls h
    | 50 => s_cz X nx a (fun x => 0 ≤ x) st ls h
    | 51 => s_cz X nx a (fun x => 0 < x) st ls h
    | 52 => s_cz X nx a (fun x => x ≤ 0) st ls h
    | 53 => s_nn X nx a st ls h
    | 54 => s_nl X nx a st ls h
    | 55 => s_tsw X nx i t st ls h
    | 56 => s_gfi X nx a b st ls h
    | 57 => s_gfj X nx a b st ls h
    | 58 => s_gfr X nx a b st ls h
    | 59 => s_pfi X nx a b st ls h
    | 60 => s_pfj X nx a b st ls h
    | 61 => s_pfr X nx a b st ls h
    | 62 => s_iald X nx 20 st ls h
    | 63 => s_iald X nx 22 st ls h
    | 64 => s_jald X nx st ls h
    | 65 => s_aald X nx st ls h
    | 66 => s_iast X nx st ls h
    | 67 => s_zast X nx st ls h
    | 68 => s_jast X nx st ls h
    | 69 => s_aast X nx st ls h
    | 70 => s_alen X nx st ls h
    | 71 => s_newa X nx lm 20 st ls h
    | 72 => s_newa X nx lm 21 st ls h
    | 73 => s_newa X nx lm 22 st ls h
    | 74 => s_newa X nx lm a st ls h
    | 75 => s_new X nx lm a b st ls h
    | 76 => s_inv X nx G a b st ls h
    | 77 => s_oin X nx st ls h
    | 78 => s_acp X nx st ls h
    | 79 => s_sln X nx st ls h
    | 80 => s_sch X nx st ls h
    | 81 => s_ret R a st h
    | 82 => s_jret R st h
    | 83 => s_aret R st h
    | 84 => s_vret R st h
    | 85 => s_pfz X nx a b st ls h
    | 86 => s_inr X nx G a b (t.getD 0 0) st ls h
    | 87 => s_cln X nx lm st ls h
    | 88 => s_chk X nx st ls h
    | 89 => s_iva X nx lm (t.getD 0 0) (t.getD 1 0) G a b st ls h
    | 90 => s_ira X nx lm (t.getD 1 0) (t.getD 2 0) G a b (t.getD 0 0) st ls h
    | _ => False
/-- the least predicate that holds where a row's predicate does: runs that come to their end with R -/
def WP (cd : Nat → Option PI) (G : GT) (R : RT) (lm : Nat × Nat) : KT := fun pc st ls h => ∀ X : KT, (∀ pc st ls h, (∃ r, cd pc = some r ∧ stp G R lm r X st ls h) → X pc st ls h) → X pc st ls h
def Gmono (G : GT) : Prop := ∀ y a h (P Q : RT), (∀ r h', P r h' → Q r h') → G y a h P → G y a h Q
def rws (l : List (Nat × PI)) (pc : Nat) : Option PI := match l with
  | [] => none
  | q :: l => if pc = q.1 then some q.2 else rws l pc
section Mono
variable {X Y : KT} {R R2 : RT} {G : GT} (hX : ∀ pc st ls h, X pc st ls h → Y pc st ls h)
theorem s_ldi_m {X Y : KT} (hX : ∀ pc st ls h, X pc st ls h → Y pc st ls h) (nx a : Nat) {st : List Value} {ls : LT} {h : MH} (q : s_ldi X nx a st ls h) : s_ldi Y nx a st ls h := by
  revert q; unfold s_ldi; split <;> intro q <;> first | exact hX _ _ _ _ q | exact ⟨q.1, hX _ _ _ _ q.2⟩ | exact q
theorem s_lda_m {X Y : KT} (hX : ∀ pc st ls h, X pc st ls h → Y pc st ls h) (nx a : Nat) {st : List Value} {ls : LT} {h : MH} (q : s_lda X nx a st ls h) : s_lda Y nx a st ls h := by
  revert q; unfold s_lda; split <;> intro q <;> first | exact hX _ _ _ _ q | exact ⟨q.1, hX _ _ _ _ q.2⟩ | exact q
theorem s_ldj_m {X Y : KT} (hX : ∀ pc st ls h, X pc st ls h → Y pc st ls h) (nx a : Nat) {st : List Value} {ls : LT} {h : MH} (q : s_ldj X nx a st ls h) : s_ldj Y nx a st ls h := by
  revert q; unfold s_ldj; split <;> intro q <;> first | exact hX _ _ _ _ q | exact ⟨q.1, hX _ _ _ _ q.2⟩ | exact q
theorem s_sti_m {X Y : KT} (hX : ∀ pc st ls h, X pc st ls h → Y pc st ls h) (nx a : Nat) {st : List Value} {ls : LT} {h : MH} (q : s_sti X nx a st ls h) : s_sti Y nx a st ls h := by
  revert q; unfold s_sti; split <;> intro q <;> first | exact hX _ _ _ _ q | exact ⟨q.1, hX _ _ _ _ q.2⟩ | exact q
theorem s_sta_m {X Y : KT} (hX : ∀ pc st ls h, X pc st ls h → Y pc st ls h) (nx a : Nat) {st : List Value} {ls : LT} {h : MH} (q : s_sta X nx a st ls h) : s_sta Y nx a st ls h := by
  revert q; unfold s_sta; split <;> intro q <;> first | exact hX _ _ _ _ q | exact ⟨q.1, hX _ _ _ _ q.2⟩ | exact q
theorem s_stj_m {X Y : KT} (hX : ∀ pc st ls h, X pc st ls h → Y pc st ls h) (nx a : Nat) {st : List Value} {ls : LT} {h : MH} (q : s_stj X nx a st ls h) : s_stj Y nx a st ls h := by
  revert q; unfold s_stj; split <;> intro q <;> first | exact hX _ _ _ _ q | exact ⟨q.1, hX _ _ _ _ q.2⟩ | exact q
theorem s_iinc_m {X Y : KT} (hX : ∀ pc st ls h, X pc st ls h → Y pc st ls h) (nx a : Nat) (i : Int32) {st : List Value} {ls : LT} {h : MH} (q : s_iinc X nx a i st ls h) : s_iinc Y nx a i st ls h := by
  revert q; unfold s_iinc; split <;> intro q <;> first | exact hX _ _ _ _ q | exact ⟨q.1, hX _ _ _ _ q.2⟩ | exact q
theorem s_bi_m {X Y : KT} (hX : ∀ pc st ls h, X pc st ls h → Y pc st ls h) (nx : Nat) (f : Int32 → Int32 → Int32) {st : List Value} {ls : LT} {h : MH} (q : s_bi X nx f st ls h) : s_bi Y nx f st ls h := by
  revert q; unfold s_bi; split <;> intro q <;> first | exact hX _ _ _ _ q | exact ⟨q.1, hX _ _ _ _ q.2⟩ | exact q
theorem s_bj_m {X Y : KT} (hX : ∀ pc st ls h, X pc st ls h → Y pc st ls h) (nx : Nat) (f : Int64 → Int64 → Int64) {st : List Value} {ls : LT} {h : MH} (q : s_bj X nx f st ls h) : s_bj Y nx f st ls h := by
  revert q; unfold s_bj; split <;> intro q <;> first | exact hX _ _ _ _ q | exact ⟨q.1, hX _ _ _ _ q.2⟩ | exact q
theorem s_di_m {X Y : KT} (hX : ∀ pc st ls h, X pc st ls h → Y pc st ls h) (nx : Nat) (f : Int32 → Int32 → Int32) {st : List Value} {ls : LT} {h : MH} (q : s_di X nx f st ls h) : s_di Y nx f st ls h := by
  revert q; unfold s_di; split <;> intro q <;> first | exact hX _ _ _ _ q | exact ⟨q.1, hX _ _ _ _ q.2⟩ | exact q
theorem s_dj_m {X Y : KT} (hX : ∀ pc st ls h, X pc st ls h → Y pc st ls h) (nx : Nat) (f : Int64 → Int64 → Int64) {st : List Value} {ls : LT} {h : MH} (q : s_dj X nx f st ls h) : s_dj Y nx f st ls h := by
  revert q; unfold s_dj; split <;> intro q <;> first | exact hX _ _ _ _ q | exact ⟨q.1, hX _ _ _ _ q.2⟩ | exact q
theorem s_ui_m {X Y : KT} (hX : ∀ pc st ls h, X pc st ls h → Y pc st ls h) (nx : Nat) (f : Int32 → Int32) {st : List Value} {ls : LT} {h : MH} (q : s_ui X nx f st ls h) : s_ui Y nx f st ls h := by
  revert q; unfold s_ui; split <;> intro q <;> first | exact hX _ _ _ _ q | exact ⟨q.1, hX _ _ _ _ q.2⟩ | exact q
theorem s_ij_m {X Y : KT} (hX : ∀ pc st ls h, X pc st ls h → Y pc st ls h) (nx : Nat) (f : Int32 → Int64) {st : List Value} {ls : LT} {h : MH} (q : s_ij X nx f st ls h) : s_ij Y nx f st ls h := by
  revert q; unfold s_ij; split <;> intro q <;> first | exact hX _ _ _ _ q | exact ⟨q.1, hX _ _ _ _ q.2⟩ | exact q
theorem s_ji_m {X Y : KT} (hX : ∀ pc st ls h, X pc st ls h → Y pc st ls h) (nx : Nat) (f : Int64 → Int32) {st : List Value} {ls : LT} {h : MH} (q : s_ji X nx f st ls h) : s_ji Y nx f st ls h := by
  revert q; unfold s_ji; split <;> intro q <;> first | exact hX _ _ _ _ q | exact ⟨q.1, hX _ _ _ _ q.2⟩ | exact q
theorem s_sj_m {X Y : KT} (hX : ∀ pc st ls h, X pc st ls h → Y pc st ls h) (nx : Nat) (f : Int64 → Int32 → Int64) {st : List Value} {ls : LT} {h : MH} (q : s_sj X nx f st ls h) : s_sj Y nx f st ls h := by
  revert q; unfold s_sj; split <;> intro q <;> first | exact hX _ _ _ _ q | exact ⟨q.1, hX _ _ _ _ q.2⟩ | exact q
theorem s_lcmp_m {X Y : KT} (hX : ∀ pc st ls h, X pc st ls h → Y pc st ls h) (nx : Nat) {st : List Value} {ls : LT} {h : MH} (q : s_lcmp X nx st ls h) : s_lcmp Y nx st ls h := by
  revert q; unfold s_lcmp; split <;> intro q <;> first | exact hX _ _ _ _ q | exact ⟨q.1, hX _ _ _ _ q.2⟩ | exact q
theorem s_dup_m {X Y : KT} (hX : ∀ pc st ls h, X pc st ls h → Y pc st ls h) (nx : Nat) {st : List Value} {ls : LT} {h : MH} (q : s_dup X nx st ls h) : s_dup Y nx st ls h := by
  revert q; unfold s_dup; split <;> intro q <;> first | exact hX _ _ _ _ q | exact ⟨q.1, hX _ _ _ _ q.2⟩ | exact q
theorem s_dup2_m {X Y : KT} (hX : ∀ pc st ls h, X pc st ls h → Y pc st ls h) (nx : Nat) {st : List Value} {ls : LT} {h : MH} (q : s_dup2 X nx st ls h) : s_dup2 Y nx st ls h := by
  revert q; unfold s_dup2; split <;> intro q <;> first | exact hX _ _ _ _ q | exact ⟨q.1, hX _ _ _ _ q.2⟩ | exact q
theorem s_pop_m {X Y : KT} (hX : ∀ pc st ls h, X pc st ls h → Y pc st ls h) (nx : Nat) {st : List Value} {ls : LT} {h : MH} (q : s_pop X nx st ls h) : s_pop Y nx st ls h := by
  revert q; unfold s_pop; split <;> intro q <;> first | exact hX _ _ _ _ q | exact ⟨q.1, hX _ _ _ _ q.2⟩ | exact q
theorem s_ci_m {X Y : KT} (hX : ∀ pc st ls h, X pc st ls h → Y pc st ls h) (nx t : Nat) (c : Int32 → Int32 → Prop) {st : List Value} {ls : LT} {h : MH} (q : s_ci X nx t c st ls h) : s_ci Y nx t c st ls h := by
  revert q; unfold s_ci; split <;> intro q <;> first | exact ⟨fun c => hX _ _ _ _ (q.1 c), fun c => hX _ _ _ _ (q.2 c)⟩ | exact q
theorem s_cz_m {X Y : KT} (hX : ∀ pc st ls h, X pc st ls h → Y pc st ls h) (nx t : Nat) (c : Int32 → Prop) {st : List Value} {ls : LT} {h : MH} (q : s_cz X nx t c st ls h) : s_cz Y nx t c st ls h := by
  revert q; unfold s_cz; split <;> intro q <;> first | exact ⟨fun c => hX _ _ _ _ (q.1 c), fun c => hX _ _ _ _ (q.2 c)⟩ | exact q
theorem s_nn_m {X Y : KT} (hX : ∀ pc st ls h, X pc st ls h → Y pc st ls h) (nx t : Nat) {st : List Value} {ls : LT} {h : MH} (q : s_nn X nx t st ls h) : s_nn Y nx t st ls h := by
  revert q; unfold s_nn; split <;> intro q <;> first | exact hX _ _ _ _ q | exact ⟨q.1, hX _ _ _ _ q.2⟩ | exact q
theorem s_nl_m {X Y : KT} (hX : ∀ pc st ls h, X pc st ls h → Y pc st ls h) (nx t : Nat) {st : List Value} {ls : LT} {h : MH} (q : s_nl X nx t st ls h) : s_nl Y nx t st ls h := by
  revert q; unfold s_nl; split <;> intro q <;> first | exact hX _ _ _ _ q | exact ⟨q.1, hX _ _ _ _ q.2⟩ | exact q
theorem s_tsw_m {X Y : KT} (hX : ∀ pc st ls h, X pc st ls h → Y pc st ls h) (nx : Nat) (lo : Int32) (t : List Nat) {st : List Value} {ls : LT} {h : MH} (q : s_tsw X nx lo t st ls h) : s_tsw Y nx lo t st ls h := by
  revert q; unfold s_tsw; split <;> intro q <;> first | exact ⟨fun c => hX _ _ _ _ (q.1 c), fun k c e => hX _ _ _ _ (q.2 k c e)⟩ | exact q
theorem s_gfi_m {X Y : KT} (hX : ∀ pc st ls h, X pc st ls h → Y pc st ls h) (nx ci k : Nat) {st : List Value} {ls : LT} {h : MH} (q : s_gfi X nx ci k st ls h) : s_gfi Y nx ci k st ls h := by
  revert q; unfold s_gfi; split <;> intro q <;> first | exact hX _ _ _ _ q | exact ⟨q.1, hX _ _ _ _ q.2⟩ | exact q
theorem s_gfj_m {X Y : KT} (hX : ∀ pc st ls h, X pc st ls h → Y pc st ls h) (nx ci k : Nat) {st : List Value} {ls : LT} {h : MH} (q : s_gfj X nx ci k st ls h) : s_gfj Y nx ci k st ls h := by
  revert q; unfold s_gfj; split <;> intro q <;> first | exact hX _ _ _ _ q | exact ⟨q.1, hX _ _ _ _ q.2⟩ | exact q
theorem s_gfr_m {X Y : KT} (hX : ∀ pc st ls h, X pc st ls h → Y pc st ls h) (nx ci k : Nat) {st : List Value} {ls : LT} {h : MH} (q : s_gfr X nx ci k st ls h) : s_gfr Y nx ci k st ls h := by
  revert q; unfold s_gfr; split <;> intro q <;> first | exact hX _ _ _ _ q | exact ⟨q.1, hX _ _ _ _ q.2⟩ | exact q
theorem s_pfi_m {X Y : KT} (hX : ∀ pc st ls h, X pc st ls h → Y pc st ls h) (nx ci k : Nat) {st : List Value} {ls : LT} {h : MH} (q : s_pfi X nx ci k st ls h) : s_pfi Y nx ci k st ls h := by
  revert q; unfold s_pfi; split <;> intro q <;> first | exact hX _ _ _ _ q | exact ⟨q.1, hX _ _ _ _ q.2⟩ | exact q
theorem s_pfz_m {X Y : KT} (hX : ∀ pc st ls h, X pc st ls h → Y pc st ls h) (nx ci k : Nat) {st : List Value} {ls : LT} {h : MH} (q : s_pfz X nx ci k st ls h) : s_pfz Y nx ci k st ls h := by
  revert q; unfold s_pfz; split <;> intro q <;> first | exact hX _ _ _ _ q | exact ⟨q.1, hX _ _ _ _ q.2⟩ | exact q
theorem s_pfj_m {X Y : KT} (hX : ∀ pc st ls h, X pc st ls h → Y pc st ls h) (nx ci k : Nat) {st : List Value} {ls : LT} {h : MH} (q : s_pfj X nx ci k st ls h) : s_pfj Y nx ci k st ls h := by
  revert q; unfold s_pfj; split <;> intro q <;> first | exact hX _ _ _ _ q | exact ⟨q.1, hX _ _ _ _ q.2⟩ | exact q
theorem s_pfr_m {X Y : KT} (hX : ∀ pc st ls h, X pc st ls h → Y pc st ls h) (nx ci k : Nat) {st : List Value} {ls : LT} {h : MH} (q : s_pfr X nx ci k st ls h) : s_pfr Y nx ci k st ls h := by
  revert q; unfold s_pfr; split <;> intro q <;> first | exact hX _ _ _ _ q | exact ⟨q.1, hX _ _ _ _ q.2⟩ | exact q
theorem s_iald_m {X Y : KT} (hX : ∀ pc st ls h, X pc st ls h → Y pc st ls h) (nx kd : Nat) {st : List Value} {ls : LT} {h : MH} (q : s_iald X nx kd st ls h) : s_iald Y nx kd st ls h := by
  revert q; unfold s_iald; split <;> intro q <;> first | exact hX _ _ _ _ q | exact ⟨q.1, hX _ _ _ _ q.2⟩ | exact q
theorem s_jald_m {X Y : KT} (hX : ∀ pc st ls h, X pc st ls h → Y pc st ls h) (nx : Nat) {st : List Value} {ls : LT} {h : MH} (q : s_jald X nx st ls h) : s_jald Y nx st ls h := by
  revert q; unfold s_jald; split <;> intro q <;> first | exact hX _ _ _ _ q | exact ⟨q.1, hX _ _ _ _ q.2⟩ | exact q
theorem s_aald_m {X Y : KT} (hX : ∀ pc st ls h, X pc st ls h → Y pc st ls h) (nx : Nat) {st : List Value} {ls : LT} {h : MH} (q : s_aald X nx st ls h) : s_aald Y nx st ls h := by
  revert q; unfold s_aald; split <;> intro q <;> first | exact hX _ _ _ _ q | exact ⟨q.1, hX _ _ _ _ q.2⟩ | exact q
theorem s_iast_m {X Y : KT} (hX : ∀ pc st ls h, X pc st ls h → Y pc st ls h) (nx : Nat) {st : List Value} {ls : LT} {h : MH} (q : s_iast X nx st ls h) : s_iast Y nx st ls h := by
  revert q; unfold s_iast; split <;> intro q <;> first | exact hX _ _ _ _ q | exact ⟨q.1, hX _ _ _ _ q.2⟩ | exact q
theorem s_zast_m {X Y : KT} (hX : ∀ pc st ls h, X pc st ls h → Y pc st ls h) (nx : Nat) {st : List Value} {ls : LT} {h : MH} (q : s_zast X nx st ls h) : s_zast Y nx st ls h := by
  revert q; unfold s_zast; split <;> intro q <;> first | exact hX _ _ _ _ q | exact ⟨q.1, hX _ _ _ _ q.2⟩ | exact q
theorem s_jast_m {X Y : KT} (hX : ∀ pc st ls h, X pc st ls h → Y pc st ls h) (nx : Nat) {st : List Value} {ls : LT} {h : MH} (q : s_jast X nx st ls h) : s_jast Y nx st ls h := by
  revert q; unfold s_jast; split <;> intro q <;> first | exact hX _ _ _ _ q | exact ⟨q.1, hX _ _ _ _ q.2⟩ | exact q
theorem s_aast_m {X Y : KT} (hX : ∀ pc st ls h, X pc st ls h → Y pc st ls h) (nx : Nat) {st : List Value} {ls : LT} {h : MH} (q : s_aast X nx st ls h) : s_aast Y nx st ls h := by
  revert q; unfold s_aast; split <;> intro q <;> first | exact hX _ _ _ _ q | exact ⟨q.1, hX _ _ _ _ q.2⟩ | exact q
theorem s_alen_m {X Y : KT} (hX : ∀ pc st ls h, X pc st ls h → Y pc st ls h) (nx : Nat) {st : List Value} {ls : LT} {h : MH} (q : s_alen X nx st ls h) : s_alen Y nx st ls h := by
  revert q; unfold s_alen; split <;> intro q <;> first | exact hX _ _ _ _ q | exact ⟨q.1, hX _ _ _ _ q.2⟩ | exact q
theorem s_oin_m {X Y : KT} (hX : ∀ pc st ls h, X pc st ls h → Y pc st ls h) (nx : Nat) {st : List Value} {ls : LT} {h : MH} (q : s_oin X nx st ls h) : s_oin Y nx st ls h := by
  revert q; unfold s_oin; split <;> intro q <;> first | exact hX _ _ _ _ q | exact ⟨q.1, hX _ _ _ _ q.2⟩ | exact q
theorem s_acp_m {X Y : KT} (hX : ∀ pc st ls h, X pc st ls h → Y pc st ls h) (nx : Nat) {st : List Value} {ls : LT} {h : MH} (q : s_acp X nx st ls h) : s_acp Y nx st ls h := by
  revert q; unfold s_acp; split <;> intro q <;> first | exact hX _ _ _ _ q | exact ⟨q.1, hX _ _ _ _ q.2⟩ | exact q
theorem s_sln_m {X Y : KT} (hX : ∀ pc st ls h, X pc st ls h → Y pc st ls h) (nx : Nat) {st : List Value} {ls : LT} {h : MH} (q : s_sln X nx st ls h) : s_sln Y nx st ls h := by
  revert q; unfold s_sln; split <;> intro q <;> first | exact hX _ _ _ _ q | exact ⟨q.1, hX _ _ _ _ q.2⟩ | exact q
theorem s_sch_m {X Y : KT} (hX : ∀ pc st ls h, X pc st ls h → Y pc st ls h) (nx : Nat) {st : List Value} {ls : LT} {h : MH} (q : s_sch X nx st ls h) : s_sch Y nx st ls h := by
  revert q; unfold s_sch; split <;> intro q <;> first | exact hX _ _ _ _ q | exact ⟨q.1, hX _ _ _ _ q.2⟩ | exact q
theorem s_chk_m {X Y : KT} (hX : ∀ pc st ls h, X pc st ls h → Y pc st ls h) (nx : Nat) {st : List Value} {ls : LT} {h : MH} (q : s_chk X nx st ls h) : s_chk Y nx st ls h := by
  revert q; unfold s_chk; split <;> intro q <;> first | exact hX _ _ _ _ q | exact ⟨q.1, hX _ _ _ _ q.2⟩ | exact q
theorem s_newa_m {X Y : KT} (hX : ∀ pc st ls h, X pc st ls h → Y pc st ls h) (nx : Nat) (lm : Nat × Nat) (kd : Nat) {st : List Value} {ls : LT} {h : MH} (q : s_newa X nx lm kd st ls h) : s_newa Y nx lm kd st ls h := by
  revert q; unfold s_newa; split <;> intro q <;> first | exact hX _ _ _ _ q | exact ⟨q.1, hX _ _ _ _ q.2⟩ | exact q
theorem s_new_m {X Y : KT} (hX : ∀ pc st ls h, X pc st ls h → Y pc st ls h) (nx : Nat) (lm : Nat × Nat) (ci n : Nat) {st : List Value} {ls : LT} {h : MH} (q : s_new X nx lm ci n st ls h) : s_new Y nx lm ci n st ls h := by
  exact ⟨q.1, hX _ _ _ _ q.2⟩
theorem s_cln_m {X Y : KT} (hX : ∀ pc st ls h, X pc st ls h → Y pc st ls h) (nx : Nat) (lm : Nat × Nat) {st : List Value} {ls : LT} {h : MH} (q : s_cln X nx lm st ls h) : s_cln Y nx lm st ls h := by
  revert q; unfold s_cln; split <;> intro q <;> first | exact hX _ _ _ _ q | exact ⟨q.1, hX _ _ _ _ q.2⟩ | exact q
theorem s_inv_m {X Y : KT} {G : GT} (hX : ∀ pc st ls h, X pc st ls h → Y pc st ls h) (hG : Gmono G) (nx y n : Nat) {st : List Value} {ls : LT} {h : MH} (q : s_inv X nx G y n st ls h) : s_inv Y nx G y n st ls h := ⟨q.1, hG _ _ _ _ _ (fun _ _ z => hX _ _ _ _ z) q.2⟩
theorem s_inr_m {X Y : KT} {G : GT} (hX : ∀ pc st ls h, X pc st ls h → Y pc st ls h) (hG : Gmono G) (nx y n ci : Nat) {st : List Value} {ls : LT} {h : MH} (q : s_inr X nx G y n ci st ls h) : s_inr Y nx G y n ci st ls h := ⟨q.1, hG _ _ _ _ _ (fun _ _ z => hX _ _ _ _ z) q.2⟩
theorem s_ret_m {R R2 : RT} (hR : ∀ r h, R r h → R2 r h) (z : Nat) {st : List Value} {h : MH} (q : s_ret R z st h) : s_ret R2 z st h := by
  revert q; unfold s_ret; split <;> intro q <;> first | exact ⟨q.1, hR _ _ q.2⟩ | exact q
theorem s_jret_m {R R2 : RT} (hR : ∀ r h, R r h → R2 r h) {st : List Value} {h : MH} (q : s_jret R st h) : s_jret R2 st h := by
  revert q; unfold s_jret; split <;> intro q <;> first | exact hR _ _ q | exact q
theorem s_aret_m {R R2 : RT} (hR : ∀ r h, R r h → R2 r h) {st : List Value} {h : MH} (q : s_aret R st h) : s_aret R2 st h := by
  revert q; unfold s_aret; split <;> intro q <;> first | exact hR _ _ q | exact q
theorem s_vret_m {R R2 : RT} (hR : ∀ r h, R r h → R2 r h) {st : List Value} {h : MH} (q : s_vret R st h) : s_vret R2 st h := by
  revert q; unfold s_vret; split <;> intro q <;> first | exact hR _ _ q | exact q
end Mono
theorem stp_m {X Y : KT} {R R2 : RT} {G : GT} {lm : Nat × Nat} (hX : ∀ pc st ls h, X pc st ls h → Y pc st ls h) (hG : Gmono G) (hR : ∀ r h, R r h → R2 r h) {r : PI} {st : List Value} {ls : LT} {h : MH} (q : stp G R lm r X st ls h) : stp G R2 lm r Y st ls h := by
  obtain ⟨op, nx, a, b, i, j, t⟩ := r
  unfold stp at *
  dsimp only at q ⊢
  split at q
  · exact s_ldi_m hX _ _ q
  · exact s_lda_m hX _ _ q
  · exact s_ldj_m hX _ _ q
  · exact s_sti_m hX _ _ q
  · exact s_sta_m hX _ _ q
  · exact s_stj_m hX _ _ q
  · exact hX _ _ _ _ q
  · exact hX _ _ _ _ q
  · exact hX _ _ _ _ q
  · exact hX _ _ _ _ q
  · exact s_iinc_m hX _ _ _ q
  · exact s_bi_m hX _ _ q
  · exact s_bi_m hX _ _ q
  · exact s_bi_m hX _ _ q
  · exact s_di_m hX _ _ q
  · exact s_di_m hX _ _ q
  · exact s_ui_m hX _ _ q
  · exact s_bi_m hX _ _ q
  · exact s_bi_m hX _ _ q
  · exact s_bi_m hX _ _ q
  · exact s_bi_m hX _ _ q
  · exact s_bi_m hX _ _ q
  · exact s_bi_m hX _ _ q
  · exact s_bj_m hX _ _ q
  · exact s_bj_m hX _ _ q
  · exact s_bj_m hX _ _ q
  · exact s_dj_m hX _ _ q
  · exact s_dj_m hX _ _ q
  · exact s_sj_m hX _ _ q
  · exact s_sj_m hX _ _ q
  · exact s_bj_m hX _ _ q
  · exact s_bj_m hX _ _ q
  · exact s_ij_m hX _ _ q
  · exact s_ji_m hX _ _ q
  · exact s_lcmp_m hX _ q
  · exact s_dup_m hX _ q
  · exact s_dup2_m hX _ q
  · exact s_pop_m hX _ q
  · exact hX _ _ _ _ q
  · exact s_ci_m hX _ _ _ q
  · exact s_ci_m hX _ _ _ q
  · exact s_ci_m hX _ _ _ q
  · exact s_ci_m hX _ _ _ q
  · exact s_ci_m hX _ _ _ q
  · exact s_ci_m hX _ _ _ q
  · exact s_cz_m hX _ _ _ q
  · exact s_cz_m hX _ _ _ q
  · exact s_cz_m hX _ _ _ q
  · exact s_cz_m hX _ _ _ q
  · exact s_cz_m hX _ _ _ q
  · exact s_cz_m hX _ _ _ q
  · exact s_nn_m hX _ _ q
  · exact s_nl_m hX _ _ q
  · exact s_tsw_m hX _ _ _ q
  · exact s_gfi_m hX _ _ _ q
  · exact s_gfj_m hX _ _ _ q
  · exact s_gfr_m hX _ _ _ q
  · exact s_pfi_m hX _ _ _ q
  · exact s_pfj_m hX _ _ _ q
  · exact s_pfr_m hX _ _ _ q
  · exact s_iald_m hX _ _ q
  · exact s_iald_m hX _ _ q
  · exact s_jald_m hX _ q
  · exact s_aald_m hX _ q
  · exact s_iast_m hX _ q
  · exact s_zast_m hX _ q
  · exact s_jast_m hX _ q
  · exact s_aast_m hX _ q
  · exact s_alen_m hX _ q
  · exact s_newa_m hX _ _ _ q
  · exact s_newa_m hX _ _ _ q
  · exact s_newa_m hX _ _ _ q
  · exact s_newa_m hX _ _ _ q
  · exact s_new_m hX _ _ _ _ q
  · exact s_inv_m hX hG _ _ _ q
  · exact s_oin_m hX _ q
  · exact s_acp_m hX _ q
  · exact s_sln_m hX _ q
  · exact s_sch_m hX _ q
  · exact s_ret_m hR _ q
  · exact s_jret_m hR q
  · exact s_aret_m hR q
  · exact s_vret_m hR q
  · exact s_pfz_m hX _ _ _ q
  · exact s_inr_m hX hG _ _ _ _ q
  · exact s_cln_m hX _ _ q
  · exact s_chk_m hX _ q
  · exact ⟨q.1, s_inv_m hX hG _ _ _ q.2⟩
  · exact ⟨q.1, s_inr_m hX hG _ _ _ _ q.2⟩
  · exact q
theorem WP_in {cd : Nat → Option PI} {G : GT} {R : RT} {lm : Nat × Nat} (hG : Gmono G) {pc : Nat} {st : List Value} {ls : LT} {h : MH} {r : PI} (hr : cd pc = some r) (q : stp G R lm r (WP cd G R lm) st ls h) : WP cd G R lm pc st ls h := by
  intro X hX
  exact hX _ _ _ _ ⟨r, hr, stp_m (fun pc st ls h z => z X hX) hG (fun _ _ z => z) q⟩
theorem WP_out {cd : Nat → Option PI} {G : GT} {R : RT} {lm : Nat × Nat} (hG : Gmono G) {pc : Nat} {st : List Value} {ls : LT} {h : MH} {r : PI} (hr : cd pc = some r) (q : WP cd G R lm pc st ls h) : stp G R lm r (WP cd G R lm) st ls h := by
  have := q (fun pc st ls h => ∃ r, cd pc = some r ∧ stp G R lm r (WP cd G R lm) st ls h) (fun pc st ls h ⟨r, e, z⟩ => ⟨r, e, stp_m (fun pc st ls h ⟨r, e, z⟩ => WP_in hG e z) hG (fun _ _ z => z) z⟩)
  obtain ⟨r2, e, z⟩ := this
  cases hr.symm.trans e
  exact z
theorem WP_eq {cd : Nat → Option PI} {G : GT} (hG : Gmono G) {R : RT} {lm : Nat × Nat} {pc : Nat} {r : PI} (hr : cd pc = some r) : WP cd G R lm pc = stp G R lm r (WP cd G R lm) := by
  funext st ls h
  exact propext ⟨WP_out hG hr, WP_in hG hr⟩
theorem WP_m {cd : Nat → Option PI} {G : GT} (hG : Gmono G) {R R2 : RT} {lm : Nat × Nat} (hR : ∀ r h, R r h → R2 r h) {pc : Nat} {st : List Value} {ls : LT} {h : MH} (q : WP cd G R lm pc st ls h) : WP cd G R2 lm pc st ls h := by
  intro X hX
  exact q X (fun pc st ls h ⟨r, e, z⟩ => hX _ _ _ _ ⟨r, e, stp_m (fun _ _ _ _ z => z) hG hR z⟩)
