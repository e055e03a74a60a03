def us (x : Int32) (k : Nat) : Int32 := (x.toUInt32 >>> ((nI k).toUInt32 &&& Int32.toUInt32 31)).toInt32
def bc1 (x : Int32) : Int32 := x - (us x 1 &&& nI 1431655765)
def bc2 (x : Int32) : Int32 := (x &&& nI 858993459) + (us x 2 &&& nI 858993459)
def bc3 (x : Int32) : Int32 := (x + us x 4) &&& nI 252645135
def bc4 (x : Int32) : Int32 := x + us x 8
def bc5 (x : Int32) : Int32 := (x + us x 16) &&& nI 63
set_option maxRecDepth 100000 in
theorem bc_eq : ∀ m, m < 128 → bc5 (bc4 (bc3 (bc2 (bc1 (nI m))))) = mMany (nI m) := by decide +kernel
theorem e_bits (d : Nat) {x : Int32} (hx : M7 x) (h : MH) (Q : RT) : callD (d + 1) 253 [.int x] h Q = Q (some (.int (mMany x))) h := by
  obtain ⟨m, hm, rfl⟩ := hx
  rw [E_J_bits, ← bc_eq m hm]
  simp only [U_J_bits (cm _), SA, SB, SG, SV, bc5, bc4, bc3, bc2, bc1, us]
theorem y_cuts (d n r : Nat) (hr : r < 7) {h0 h : MH} {p : RW} (X : XN h0 n h p) (hQ : QL p 413) (hC : CN p) (hs : SU (gR p r 2)) (hw : M7 (gR p r 5)) (ho : M7 (gR p r 4)) (h0w : mNb p r = nI 0 → gR p r 5 = nI 0) (Q : RT) (kk : ∀ h', XN h0 n h' (mCut p r) → Q (some (.int (mMany (gR p r 4)))) h') : callD (d + 5) 35 [.ref n, .int (nI r)] h Q := by
  obtain ⟨sh, h24⟩ := X.2.1.all
  have e7 := X.2.2.2.2.2.2.2.2.1 r hr
  rw [E_Ne_cuts]
  simp (disch := omega) only [U_Ne_cuts (cm _), SA, SB, SG, SV, sh, e7, nI_clamp, in_eq, true_and]
  refine y_l_cuts (d + 3) n r hr (gR p r 4) Q _ 7 0 h p X rfl (fun h1 X1 => ?_)
  have lo : ∀ j, j < 56 ∨ 105 ≤ j → itr (fun p o => if bt (gR p r 4) o = nI 1 then up1 p (56 + 7 * r + o) (nI 9999) else p) 0 0 p j = p j := fun j _ => rfl
  have lo2 : ∀ j, j < 56 ∨ 105 ≤ j → mCutT p r (gR p r 4) j = p j := fun j hj => cutT_n r (gR p r 4) hr hj 7 0 p (by omega)
  have X1 : XN h0 n h1 (mCutT p r (gR p r 4)) := X1
  obtain ⟨sh, h24⟩ := X1.2.1.all
  have n7 : 24 ≤ n + 7 := by omega
  have X2 := (X1.out hr (nI 0)).wor0 hr
  have g5 : gR (up1 (up1 (mCutT p r (gR p r 4)) (105 + 7 * r + 4) (nI 0)) (105 + 7 * r + 6) (nI 0)) r 5 = gR p r 5 := by rw [gR_up (by omega), gR_up (by omega)]; exact lo2 _ (by omega)
  have g2 : gR (up1 (up1 (mCutT p r (gR p r 4)) (105 + 7 * r + 4) (nI 0)) (105 + 7 * r + 6) (nI 0)) r 2 = gR p r 2 := by rw [gR_up (by omega), gR_up (by omega)]; exact lo2 _ (by omega)
  have gc : ∀ a b, a < 7 → b < 7 → gC (up1 (up1 (mCutT p r (gR p r 4)) (105 + 7 * r + 4) (nI 0)) (105 + 7 * r + 6) (nI 0)) a b = gC p a b := fun a b h1 h2 => by rw [gC_up (by omega), gC_up (by omega)]; exact lo2 _ (by omega)
  have Y := y_ends d n r hr X2 (by rw [QL_up (by omega), QL_up (by omega), QL_eq (lo2 6 (by omega))]; exact hQ) (fun a b h1 h2 => by rw [gc a b h1 h2]; exact hC a b h1 h2) (by rw [g2]; exact hs) (by rw [g5]; exact hw) (fun z => by rw [g5]; exact h0w ((mNb_c (fun o ho => (gc r o hr ho).symm)).trans z))
  unfold sh1 at Y
  simp (disch := omega) only [SG, SK, SM, sIA_c, up1_s, up1_n, up1_up1] at Y
  simp (disch := omega) only [U_Ne_cuts (cm _), SA, SB, SC1, SC2, SG, SV, SK, SM, sIA_c, sh, n7, nI_clamp, in_eq, up1_s, up1_n, up1_up1, true_and]
  refine Y _ (fun h' X3 => ?_)
  simp only [SV, U_Ne_cuts (cm _), SA, SB, SC1, SC2, e_bits (d + 3) ho]
  exact kk _ X3
