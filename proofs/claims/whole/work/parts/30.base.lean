/-! ===== PURE: shapes, folds, numbers ===== -/
/-- an array of an object: the field's place, the array's address, its kind, its length -/
def AF (h : MH) (q k a kd n : Nat) : Prop := hfr h q k = some a ∧ hkd h a = kd ∧ hln h a = n
/-- the reference's cells -/
def MoS (h : MH) : Prop := hkd h 273 = 8 ∧ AF h 273 2 274 20 7 ∧ AF h 273 3 275 20 7422 ∧ AF h 273 4 276 20 14844 ∧ AF h 273 5 277 22 2 ∧ AF h 273 6 278 20 33231 ∧ AF h 273 7 279 20 16 ∧ AF h 273 9 280 20 27984 ∧ AF h 273 10 281 20 16 ∧ AF h 273 12 282 20 400 ∧
  AF h 273 22 283 20 96 ∧ AF h 273 24 284 20 400 ∧ AF h 273 25 285 20 400 ∧ AF h 273 27 286 20 400 ∧ AF h 273 28 287 20 400 ∧ AF h 273 31 288 21 7 ∧ AF h 273 32 289 21 6 ∧ AF h 273 33 290 21 2 ∧ AF h 273 35 291 21 13 ∧ AF h 273 36 292 21 13 ∧ AF h 273 37 293 21 400 ∧ AF h 273 41 294 20 7 ∧ AF h 273 42 295 20 7 ∧ AF h 273 43 296 21 21 ∧ AF h 273 44 297 21 3 ∧ AF h 273 45 298 20 120 ∧ AF h 273 51 299 20 21
/-- a counted fold -/
def itr {α : Type} (g : α → Nat → α) : Nat → Nat → α → α
  | _, 0, x => x
  | k, m + 1, x => itr g (k + 1) m (g x k)
theorem itr_0 {α : Type} (g : α → Nat → α) (k : Nat) (x : α) : itr g k 0 x = x := rfl
theorem itr_s {α : Type} (g : α → Nat → α) (k m : Nat) (x : α) : itr g k (m + 1) x = itr g (k + 1) m (g x k) := rfl
/-- a fold from above downwards: places m - 1, .., 0 -/
def itd {α : Type} (g : α → Nat → α) : Nat → α → α
  | 0, x => x
  | m + 1, x => itd g m (g x m)
theorem itd_0 {α : Type} (g : α → Nat → α) (x : α) : itd g 0 x = x := rfl
theorem itd_s {α : Type} (g : α → Nat → α) (m : Nat) (x : α) : itd g (m + 1) x = itd g m (g x m) := rfl
/-- the counter of such a loop -/
def dn : Nat → Int32
  | 0 => -1
  | m + 1 => nI m
theorem dn_s (m : Nat) : nI m + (-1) = dn m := by
  cases m with
  | zero => decide
  | succ m => exact pk_m1 m
theorem dn_0 : dn 0 = -1 := rfl
theorem dn_1 (m : Nat) : dn (m + 1) = nI m := rfl
theorem nI_m1 {n : Nat} (h : n < 2 ^ 31) : (nI n = -1) = False := eq_false (fun e => by
  have := congrArg Int32.toInt e
  rw [nI_toInt h] at this
  have h2 : (-1 : Int32).toInt = -1 := by decide
  omega)
theorem m1_nI {n : Nat} (h : n < 2 ^ 31) : ((-1 : Int32) = nI n) = False := eq_false (fun e => (nI_m1 h).mp e.symm)
theorem eqI {a b : Nat} (ha : a < 2 ^ 31) (hb : b < 2 ^ 31) : (nI a = nI b) = (a = b) := propext (nI_eq ha hb)
theorem leI {a b : Nat} (ha : a < 2 ^ 31) (hb : b < 2 ^ 31) : (nI a ≤ nI b) = (a ≤ b) := propext (nI_leI ha hb)
theorem ltI {a b : Nat} (ha : a < 2 ^ 31) (hb : b < 2 ^ 31) : (nI a < nI b) = (a < b) := propext (nI_ltI ha hb)
theorem m1_lt0 : ((-1 : Int32) < nI 0) = True := by simp [nI]
theorem m1_le {n : Nat} (h : n < 2 ^ 31) : ((-1 : Int32) ≤ nI n) = True := eq_true (by
  rw [Int32.le_iff_toInt_le, nI_toInt h]
  have h2 : (-1 : Int32).toInt = -1 := by decide
  omega)
theorem m1_lt {n : Nat} (h : n < 2 ^ 31) : ((-1 : Int32) < nI n) = True := eq_true (by
  rw [Int32.lt_iff_toInt_lt, nI_toInt h]
  have h2 : (-1 : Int32).toInt = -1 := by decide
  omega)
theorem in_eq {n N : Nat} (h : n < N) (hN : N < 2 ^ 31) : vp_in (nI n) N = True := eq_true (vp_in_nI h hN)
/-- two ways that meet -/
theorem iteP {α : Type} {c : Prop} [Decidable c] (P : α → Prop) (a b : α) : ((c → P a) ∧ (¬ c → P b)) = P (if c then a else b) := by
  by_cases h : c
  · rw [if_pos h]; exact propext ⟨fun q => q.1 h, fun q => ⟨fun _ => q, fun n => absurd h n⟩⟩
  · rw [if_neg h]; exact propext ⟨fun q => q.2 h, fun q => ⟨fun n => absurd n h, fun _ => q⟩⟩
theorem MoS.row {h : MH} (hM : MoS h) : hkd h 273 = 8 ∧ hfr h 273 3 = some 275 ∧ hkd h 275 = 20 ∧ hln h 275 = 7422 := ⟨hM.1, hM.2.2.1⟩
/-! ===== the row, by names ===== -/
abbrev RW : Type := Nat → Int32
def gC (p : RW) (r o : Nat) : Int32 := p (7 + 7 * r + o)
def gT (p : RW) (r o : Nat) : Int32 := p (56 + 7 * r + o)
def gR (p : RW) (r j : Nat) : Int32 := p (105 + 7 * r + j)
def mBy (p : RW) (r o : Nat) : Int32 := if gC p r o = nI 0 ∨ nI 9999 < gT p r o + gC p r o then nI 9999 else gT p r o + gC p r o
abbrev mFeas (p : RW) (r o : Nat) : Prop := nI 0 < gC p r o ∧ gT p r o < gR p r 1
def b01 (c : Prop) [Decidable c] : Int32 := if c then nI 1 else nI 0
def sh1 (o : Nat) : Int32 := nI 1 <<< (nI o &&& 31)
def bt (x : Int32) (k : Nat) : Int32 := (x >>> (nI k &&& 31)) &&& nI 1
def mNb (p : RW) (r : Nat) : Int32 := itr (fun x o => x ||| (if nI 0 < gC p r o then sh1 o else nI 0)) 0 7 (nI 0)
def mLeast (p : RW) (r : Nat) : Int32 := itr (fun x o => if mBy p r o < x then mBy p r o else x) 0 7 (nI 9999)
def mBest (p : RW) (r : Nat) : Int32 := itd (fun x o => if mLeast p r < nI 9999 ∧ mBy p r o = mLeast p r ∧ mFeas p r o then nI o else x) 7 (-1)
def mLow (p : RW) (r : Nat) (v : Int32) : Int32 := itd (fun x o => if v < nI 9999 ∧ mBy p r o = v then nI o else x) 7 (-1)
def ql (p : RW) : Nat := (p 6).toNatClampNeg
def mSend (p : RW) (k f t : Int32) (r : Nat) : RW := up1 (up1 (up1 (up1 (up1 p (154 + 4 * ql p) k) (154 + 4 * ql p + 1) f) (154 + 4 * ql p + 2) t) (154 + 4 * ql p + 3) (gR p r 0)) 6 (nI (ql p + 1))
def mMany (x : Int32) : Int32 := itr (fun n k => n + bt x k) 0 7 (nI 0)
