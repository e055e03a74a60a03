/-! ===== the start: what the Statement gives, for the small machine ===== -/
def fl1 : List Cond := flatC (Jvm.Cond.and given_1 narrow_1)
def inF {α : Type} (l : List α) (ps : List Nat) (w : α → Cond) : Bool := (l.zip ps).all (fun q => decide (fl1[q.2]? = some (w q.1))) && decide (l.length = ps.length)
theorem inF_mem {α : Type} {l : List α} {ps : List Nat} {w : α → Cond} (h : inF l ps w = true) {e : α} (he : e ∈ l) : w e ∈ fl1 := by
  unfold inF at h
  rw [Bool.and_eq_true, decide_eq_true_eq] at h
  obtain ⟨h1, h2⟩ := h
  obtain ⟨i, hi⟩ := List.getElem?_of_mem he
  have hlt : i < l.length := (List.getElem?_eq_some_iff.mp hi).1
  have hz : (l.zip ps)[i]? = some (e, ps[i]'(by omega)) := by
    rw [List.getElem?_zip_eq_some]
    exact ⟨hi, List.getElem?_eq_getElem (by omega)⟩
  have h3 := List.all_eq_true.mp h1 _ (List.mem_of_getElem? hz)
  rw [decide_eq_true_eq] at h3
  exact List.mem_of_getElem? h3
def ixS : List Nat := [95, 97, 99, 101, 103, 105, 107, 143, 157, 159, 161, 163, 165, 167, 169, 171, 173, 175, 139, 141, 119, 127]
def tmS (i : Nat) : Term := .string "DiffusingRoutes$Reader" (ixS.getD i 0)
def vfS (i : Nat) : Term := .field (tmS i) "java/lang/String" "value" "[B"
def lnS : List Nat := (List.range 22).map fun i => (sbt i).length
def byS : List (List Int32) := (List.range 22).map sbt
set_option maxRecDepth 100000 in
theorem nw_ex : inF (List.range 22) [42, 50, 59, 68, 80, 92, 103, 115, 129, 145, 163, 181, 202, 226, 249, 271, 294, 317, 342, 366, 392, 421] (fun i => .exactly (tmS i) "java/lang/String") = true := by decide +kernel
set_option maxRecDepth 100000 in
theorem nw_co : inF (List.range 22) [43, 51, 60, 69, 81, 93, 104, 116, 130, 146, 164, 182, 203, 227, 250, 272, 295, 318, 343, 367, 393, 422] (fun i => .eq (.field (tmS i) "java/lang/String" "coder" "B") (.int 0)) = true := by decide +kernel
set_option maxRecDepth 100000 in
theorem nw_ar : inF (List.range 22) [44, 52, 61, 70, 82, 94, 105, 117, 131, 147, 165, 183, 204, 228, 251, 273, 296, 319, 344, 368, 394, 423] (fun i => .arrayOf (vfS i) .byte) = true := by decide +kernel
set_option maxRecDepth 100000 in
theorem nw_le : inF (List.range 22) [45, 53, 62, 71, 83, 95, 106, 118, 132, 148, 166, 184, 205, 229, 252, 274, 297, 320, 345, 369, 395, 424] (fun i => .eq (.length (vfS i)) (.int (Int32.ofNat (lnS.getD i 0)))) = true := by decide +kernel
def elP : List (Nat × Nat) := (List.range 22).flatMap fun i => (List.range (lnS.getD i 0)).map fun j => (i, j)
set_option maxRecDepth 100000 in
theorem nw_el : inF elP [46, 47, 48, 49, 54, 55, 56, 57, 63, 64, 65, 72, 73, 74, 75, 76, 84, 85, 86, 87, 96, 97, 107, 108, 119, 120, 121, 133, 134, 135, 136, 149, 150, 151, 152, 153, 167, 168, 169, 170, 185, 186, 187, 188, 189, 190, 206, 207, 208, 209, 210, 211, 212, 213, 230, 231, 232, 233, 234, 235, 253, 254, 255, 256, 275, 276, 277, 278, 298, 299, 300, 321, 322, 323, 324, 346, 347, 370, 371, 372, 396, 397, 398, 399, 400, 425, 426] (fun q => .eq (.elem (vfS q.1) (.int (Int32.ofNat q.2))) (.int ((byS.getD q.1 []).getD q.2 0))) = true := by decide +kernel
def neP : List (Nat × Nat) := [(0, 1), (0, 2), (0, 3), (0, 4), (0, 5), (0, 6), (0, 7), (0, 8), (0, 9), (0, 10), (0, 11), (0, 12), (0, 13), (0, 14), (0, 15), (0, 16), (0, 17), (0, 18), (0, 19), (0, 20), (0, 21), (1, 2), (1, 3), (1, 4), (1, 5), (1, 6), (1, 7), (1, 8), (1, 9), (1, 10), (1, 11), (1, 12), (1, 13), (1, 14), (1, 15), (1, 16), (1, 17), (1, 18), (1, 19), (1, 20), (1, 21), (2, 3), (2, 4), (2, 5), (2, 6), (2, 7), (2, 8), (2, 9), (2, 10), (2, 11), (2, 12), (2, 13), (2, 14), (2, 15), (2, 16), (2, 17), (2, 18), (2, 19), (2, 20), (2, 21), (3, 4), (3, 5), (3, 6), (3, 7), (3, 8), (3, 9), (3, 10), (3, 11), (3, 12), (3, 13), (3, 14), (3, 15), (3, 16), (3, 17), (3, 18), (3, 19), (3, 20), (3, 21), (4, 5), (4, 6), (4, 7), (4, 8), (4, 9), (4, 10), (4, 11), (4, 12), (4, 13), (4, 14), (4, 15), (4, 16), (4, 17), (4, 18), (4, 19), (4, 20), (4, 21), (5, 6), (5, 7), (5, 8), (5, 9), (5, 10), (5, 11), (5, 12), (5, 13), (5, 14), (5, 15), (5, 16), (5, 17), (5, 18), (5, 19), (5, 20), (5, 21), (6, 7), (6, 8), (6, 9), (6, 10), (6, 11), (6, 12), (6, 13), (6, 14), (6, 15), (6, 16), (6, 17), (6, 18), (6, 19), (6, 20), (6, 21), (7, 8), (7, 9), (7, 10), (7, 11), (7, 12), (7, 13), (7, 14), (7, 15), (7, 16), (7, 17), (7, 18), (7, 19), (7, 20), (7, 21), (8, 9), (8, 10), (8, 11), (8, 12), (8, 13), (8, 14), (8, 15), (8, 16), (8, 17), (8, 18), (8, 19), (8, 20), (8, 21), (9, 10), (9, 11), (9, 12), (9, 13), (9, 14), (9, 15), (9, 16), (9, 17), (9, 18), (9, 19), (9, 20), (9, 21), (10, 11), (10, 12), (10, 13), (10, 14), (10, 15), (10, 16), (10, 17), (10, 18), (10, 19), (10, 20), (10, 21), (11, 12), (11, 13), (11, 14), (11, 15), (11, 16), (11, 17), (11, 18), (11, 19), (11, 20), (11, 21), (12, 13), (12, 14), (12, 15), (12, 16), (12, 17), (12, 18), (12, 19), (12, 20), (12, 21), (13, 14), (13, 15), (13, 16), (13, 17), (13, 18), (13, 19), (13, 20), (13, 21), (14, 15), (14, 16), (14, 17), (14, 18), (14, 19), (14, 20), (14, 21), (15, 16), (15, 17), (15, 18), (15, 19), (15, 20), (15, 21), (16, 17), (16, 18), (16, 19), (16, 20), (16, 21), (17, 18), (17, 19), (17, 20), (17, 21), (18, 19), (18, 20), (18, 21), (19, 20), (19, 21), (20, 21)]
set_option maxRecDepth 100000 in
theorem nw_ne : inF neP [58, 66, 77, 88, 98, 109, 122, 137, 154, 171, 191, 214, 236, 257, 279, 301, 325, 348, 373, 401, 427, 67, 78, 89, 99, 110, 123, 138, 155, 172, 192, 215, 237, 258, 280, 302, 326, 349, 374, 402, 428, 79, 90, 100, 111, 124, 139, 156, 173, 193, 216, 238, 259, 281, 303, 327, 350, 375, 403, 429, 91, 101, 112, 125, 140, 157, 174, 194, 217, 239, 260, 282, 304, 328, 351, 376, 404, 430, 102, 113, 126, 141, 158, 175, 195, 218, 240, 261, 283, 305, 329, 352, 377, 405, 431, 114, 127, 142, 159, 176, 196, 219, 241, 262, 284, 306, 330, 353, 378, 406, 432, 128, 143, 160, 177, 197, 220, 242, 263, 285, 307, 331, 354, 379, 407, 433, 144, 161, 178, 198, 221, 243, 264, 286, 308, 332, 355, 380, 408, 434, 162, 179, 199, 222, 244, 265, 287, 309, 333, 356, 381, 409, 435, 180, 200, 223, 245, 266, 288, 310, 334, 357, 382, 410, 436, 201, 224, 246, 267, 289, 311, 335, 358, 383, 411, 437, 225, 247, 268, 290, 312, 336, 359, 384, 412, 438, 248, 269, 291, 313, 337, 360, 385, 413, 439, 270, 292, 314, 338, 361, 386, 414, 440, 293, 315, 339, 362, 387, 415, 441, 316, 340, 363, 388, 416, 442, 341, 364, 389, 417, 443, 365, 390, 418, 444, 391, 419, 445, 420, 446, 447] (fun q => .not (.eq (tmS q.1) (tmS q.2))) = true := by decide +kernel
set_option maxRecDepth 100000 in
theorem neP_ck : ((List.range 22).all fun i => (List.range 22).all fun j => i == j || neP.contains (i, j) || neP.contains (j, i)) = true := by decide +kernel
theorem neP_all (i : Nat) (hi : i < 22) (j : Nat) (hj : j < 22) (hne : i ≠ j) : (i, j) ∈ neP ∨ (j, i) ∈ neP := by
  have h := List.all_eq_true.mp (List.all_eq_true.mp neP_ck i (List.mem_range.mpr hi)) j (List.mem_range.mpr hj)
  rw [Bool.or_eq_true, Bool.or_eq_true, beq_iff_eq] at h
  rcases h with (h | h) | h
  · exact absurd h hne
  · exact Or.inl (List.contains_iff_mem.mp h)
  · exact Or.inr (List.contains_iff_mem.mp h)
theorem elP_in : ∀ i, i < 22 → ∀ j, j < lnS.getD i 0 → (i, j) ∈ elP := fun i hi j hj => List.mem_flatMap.mpr ⟨i, List.mem_range.mpr hi, List.mem_map.mpr ⟨j, List.mem_range.mpr hj, rfl⟩⟩
theorem lnS_lt : ∀ i, i < 22 → lnS.getD i 0 < 2 ^ 31 := by decide +kernel
def moT : Term := .static "DiffusingRoutes" "MOST_OF_TERM" "[I"
def mwT (k : Nat) : Cond := match k with | 0 => .arrayOf moT .int | 1 => .eq (.length moT) (.int 3) | 2 => .eq (.elem moT (.int 0)) (.int 999) | 3 => .eq (.elem moT (.int 1)) (.int 10) | 4 => .eq (.elem moT (.int 2)) (.int 9) | 5 => .eq (.static "java/lang/String" "COMPACT_STRINGS" "Z") (.int 1) | _ => .isRef (.static "jdk/internal/util/Preconditions" "SIOOBE_FORMATTER" "Ljava/util/function/BiFunction;")
set_option maxRecDepth 100000 in
theorem nw_mo : inF (List.range 7) [5, 6, 7, 8, 9, 10, 11] mwT = true := by decide +kernel
theorem mostF_int : ∀ j, j < 3 → (Int32.ofNat j = 0 ∧ mostF j = 999) ∨ (Int32.ofNat j = 1 ∧ mostF j = 10) ∨ (Int32.ofNat j = 2 ∧ mostF j = 9) := by decide
theorem srW : ∀ q ∈ qT, Cond.stringRef (onm q.1) q.2.1 (qTx (q.2.2 - 2)) ∈ lw_tbl := List.forall_mem_cons.mpr ⟨tin3 (List.mem_of_getElem? (i := 88) rfl), List.forall_mem_cons.mpr ⟨tin3 (List.mem_of_getElem? (i := 141) rfl), List.forall_mem_cons.mpr ⟨tin3 (List.mem_of_getElem? (i := 142) rfl), List.forall_mem_cons.mpr ⟨tin3 (List.mem_of_getElem? (i := 143) rfl), List.forall_mem_cons.mpr ⟨tin3 (List.mem_of_getElem? (i := 144) rfl), List.forall_mem_cons.mpr ⟨tin3 (List.mem_of_getElem? (i := 154) rfl), List.forall_mem_cons.mpr ⟨tin3 (List.mem_of_getElem? (i := 155) rfl), List.forall_mem_cons.mpr ⟨tin3 (List.mem_of_getElem? (i := 172) rfl), List.forall_mem_cons.mpr ⟨tin3 (List.mem_of_getElem? (i := 201) rfl), List.forall_mem_cons.mpr ⟨tin3 (List.mem_of_getElem? (i := 202) rfl), List.forall_mem_cons.mpr ⟨tin3 (List.mem_of_getElem? (i := 203) rfl), List.forall_mem_cons.mpr ⟨tin3 (List.mem_of_getElem? (i := 204) rfl), List.forall_mem_cons.mpr ⟨tin3 (List.mem_of_getElem? (i := 205) rfl), List.forall_mem_cons.mpr ⟨tin3 (List.mem_of_getElem? (i := 206) rfl), List.forall_mem_cons.mpr ⟨tin3 (List.mem_of_getElem? (i := 207) rfl), List.forall_mem_cons.mpr ⟨tin3 (List.mem_of_getElem? (i := 208) rfl), List.forall_mem_cons.mpr ⟨tin3 (List.mem_of_getElem? (i := 209) rfl), List.forall_mem_cons.mpr ⟨tin3 (List.mem_of_getElem? (i := 210) rfl), List.forall_mem_cons.mpr ⟨tin3 (List.mem_of_getElem? (i := 215) rfl), List.forall_mem_cons.mpr ⟨tin3 (List.mem_of_getElem? (i := 216) rfl), List.forall_mem_cons.mpr ⟨tin3 (List.mem_of_getElem? (i := 221) rfl), List.forall_mem_cons.mpr ⟨tin3 (List.mem_of_getElem? (i := 226) rfl), fun _ h => absurd h List.not_mem_nil⟩⟩⟩⟩⟩⟩⟩⟩⟩⟩⟩⟩⟩⟩⟩⟩⟩⟩⟩⟩⟩⟩
theorem qT_ix : ∀ q ∈ qT, q.1 = 4 ∧ 2 ≤ q.2.2 ∧ q.2.2 < 24 ∧ ixS.getD (q.2.2 - 2) 0 = q.2.1 := by decide
def kdA : Nat → FieldType := fun k => if k = 20 then .int else if k = 21 then .long else if k = 22 then .boolean else if k = 23 then .object "DiffusingRoutes$Net" else if k = 24 then .object "DiffusingRoutes$Program" else .object "DiffusingRoutes$World"
theorem arC {s : State} {a : Array Value} {t : FieldType} (h : (Cond.arrayClass t).before a s = true) : ∃ cA, ArrOfT s cA t ∧ s.vm.findClass ("[" ++ t.toString) = some cA := by
  obtain ⟨c, k, comp, h1, h2, h3⟩ := Cond.arrayClass_spec h
  exact ⟨c, fun n z => ⟨fun k h => (by cases h), k, h2, comp, h3⟩, h1⟩
theorem arO {s : State} {a : Array Value} {n : String} (h : (Cond.arrayOver (.object n)).before a s = true) : ∃ cA, ArrOfT s cA (.object n) ∧ va_RA s cA (.object n) := by
  obtain ⟨comp, c, k, h1, -, h2, h3, h4⟩ := Cond.arrayOver_spec h
  exact ⟨c, fun n z => ⟨fun k h => (by cases h), k, h2, comp, h3⟩, k, comp, h2, h3, h1, h4⟩
theorem c2L {α : Type} {P : Nat → α → Prop} [Inhabited α] {N : Nat} (h : ∀ i, i < N → ∃ a, P i a) : ∃ f : Nat → α, ∀ i, i < N → P i (f i) := by
  have h2 : ∀ i, ∃ a, i < N → P i a := fun i => by
    by_cases hi : i < N
    · obtain ⟨a, ha⟩ := h i hi; exact ⟨a, fun _ => ha⟩
    · exact ⟨default, fun x => absurd x hi⟩
  obtain ⟨f, hf⟩ := Classical.axiomOfChoice h2
  exact ⟨f, hf⟩
theorem arr6 {s : State} {a : Array Value} (hts : ∀ w ∈ lw_tbl, w.before a s = true) : ∃ cA : Nat → ClassId, ∀ (k : Nat) (q : ClassId × FieldType), (aTy cA)[k]? = some q → ArrOfT s q.1 q.2 ∧ va_RA s q.1 q.2 := by
  obtain ⟨c1, a1, b1⟩ := arC (hts _ (tin1 (List.mem_of_getElem? (i := 99) rfl)))
  obtain ⟨c2, a2, b2⟩ := arC (hts _ (tin2 (List.mem_of_getElem? (i := 47) rfl)))
  obtain ⟨c3, a3, b3⟩ := arC (hts _ (tin5 (List.mem_of_getElem? (i := 148) rfl)))
  obtain ⟨c4, a4, b4⟩ := arO (hts _ (tin1 (List.mem_of_getElem? (i := 147) rfl)))
  obtain ⟨c5, a5, b5⟩ := arO (hts _ (tin1 (List.mem_of_getElem? (i := 101) rfl)))
  obtain ⟨c6, a6, b6⟩ := arO (hts _ (tin1 (List.mem_of_getElem? (i := 139) rfl)))
  refine ⟨fun k => if k = 20 then c1 else if k = 21 then c2 else if k = 22 then c3 else if k = 23 then c4 else if k = 24 then c5 else c6, fun k q hq => ?_⟩
  match k, hq with
  | 0, hq => cases hq; exact ⟨a1, b1⟩
  | 1, hq => cases hq; exact ⟨a2, b2⟩
  | 2, hq => cases hq; exact ⟨a3, b3⟩
  | 3, hq => cases hq; exact ⟨a4, b4⟩
  | 4, hq => cases hq; exact ⟨a5, b5⟩
  | 5, hq => cases hq; exact ⟨a6, b6⟩
  | k + 6, hq => cases hq
theorem kn9 {s : State} {a : Array Value} (hts : ∀ w ∈ lw_tbl, w.before a s = true) : ∃ D : va_G, ∀ (c : Nat) (q : vw_C), vwCl[c]? = some q → u_Kn s q.1 q.2.1 q.2.2 (D.1 c) (D.2 c) := by
  have h : ∀ c, c < 9 → ∃ d : ClassId × (Nat → Nat), ∀ q : vw_C, vwCl[c]? = some q → u_Kn s q.1 q.2.1 q.2.2 d.1 d.2 := by
    intro c hc
    obtain ⟨q, hq, q1, q2, q3⟩ := vwN_q c hc
    have hins := inT_mem zT_ok (e := c) (by
      rcases (show c = 0 ∨ c = 1 ∨ c = 2 ∨ c = 3 ∨ c = 4 ∨ c = 5 ∨ c = 6 ∨ c = 7 ∨ c = 8 by omega) with e | e | e | e | e | e | e | e | e <;> subst e <;> decide)
    obtain ⟨cC, iS, hK⟩ := u_known hts (fun w hw => (lay_in c hc w hw).1) (hts _ hins.1)
    refine ⟨(cC, iS), fun q' hq' => ?_⟩
    cases hq.symm.trans hq'
    rw [q1, q2, q3]
    exact hK
  obtain ⟨f, hf⟩ := c2L (α := ClassId × (Nat → Nat)) (P := fun c d => ∀ q : vw_C, vwCl[c]? = some q → u_Kn s q.1 q.2.1 q.2.2 d.1 d.2) h
  refine ⟨(fun c => (f c).1, fun c => (f c).2), fun c q hq => hf c ?_ q hq⟩
  have := (List.getElem?_eq_some_iff.mp hq).1
  exact this
theorem st_start {s : State} {b L : Nat} {xs : Nat → Int32} (hts : ∀ w ∈ lw_tbl, w.before #[Value.ref b] s = true) (hX : va_X b L xs s s.heap) (hbl : b < s.heap.size) (hgv : (Jvm.Cond.and given_1 narrow_1).before #[Value.ref b] s = true) : ∃ (ao : Nat → Nat) (D : va_G) (cA : Nat → ClassId), ao 0 = b ∧ ST ao s.heap D cA L xs s := by
  have hfl : ∀ w ∈ fl1, w.before #[Value.ref b] s = true := flat_of_before _ hgv
  have hA : ∀ a : Nat, a < s.heap.size → ¬ (s.heap.size ≤ a) := fun a h => by omega
  obtain ⟨cA, hcA⟩ := arr6 hts
  obtain ⟨D, hD⟩ := kn9 hts
  have hmo : ∀ k, k < 7 → (mwT k).before #[Value.ref b] s = true := fun k hk => hfl _ (inF_mem nw_mo (List.mem_range.mpr hk))
  obtain ⟨tM, eM, hM⟩ := va_Tof (tm := moT) (f := fun j => .int (mostF j)) (A := fun q => s.heap.size ≤ q) (N := 3) (by decide) (hmo 0 (by omega)) (va_eqt (hmo 1 (by omega))) (fun j hj => by
    rcases mostF_int j hj with ⟨h1, h2⟩ | ⟨h1, h2⟩ | ⟨h1, h2⟩ <;> rw [h1, h2]
    · exact va_eqt (hmo 2 (by omega))
    · exact va_eqt (hmo 3 (by omega))
    · exact va_eqt (hmo 4 (by omega))) hA
  have hMs := va_Zof (A := fun q => s.heap.size ≤ q) (hts _ (tin2 (List.mem_of_getElem? (i := 151) rfl))) (hts _ (tin1 (List.mem_of_getElem? (i := 1) rfl))) eM hA
  have hCs := va_Zof (A := fun q => s.heap.size ≤ q) (hts _ (tin3 (List.mem_of_getElem? (i := 102) rfl))) (hts _ (tin1 (List.mem_of_getElem? (i := 13) rfl))) (va_eqi (hmo 5 (by omega))) hA
  have hSf := va_Zqof (A := fun q => s.heap.size ≤ q) (hts _ (tin3 (List.mem_of_getElem? (i := 118) rfl))) (hts _ (tin1 (List.mem_of_getElem? (i := 15) rfl))) (hmo 6 (by omega)) hA
  obtain ⟨adK, adV, hS, hR⟩ := vk_Sof (N := 22) (tm := tmS) (len := lnS) (byt := byS) (A := fun q => s.heap.size ≤ q) lnS_lt
    (fun i hi => hfl _ (inF_mem nw_ex (List.mem_range.mpr hi))) (fun i hi => hfl _ (inF_mem nw_co (List.mem_range.mpr hi))) (fun i hi => hfl _ (inF_mem nw_ar (List.mem_range.mpr hi))) (fun i hi => hfl _ (inF_mem nw_le (List.mem_range.mpr hi)))
    (fun i hi j hj => hfl _ (inF_mem nw_el (elP_in i hi j hj)))
    (fun i j hi hj hne => (neP_all i hi j hj hne).imp (fun h => hfl _ (inF_mem nw_ne h)) (fun h => hfl _ (inF_mem nw_ne h))) hA
  refine ⟨fun k => if k = 0 then b else if k = 1 then tM else if k < 100 then adK (k - 2) else adV (k - 100), D, cA, rfl, ⟨hD, hcA⟩, fun w hw hs a => stw_warm (State.WarmedH.refl s) hs (hts w hw) a, ⟨hX, hbl⟩, hM, hMs, ?_, ?_, hCs, hSf⟩
  · refine ⟨fun i hi => ?_, fun i j hi hj e => ?_⟩
    · have h1 : (if i + 2 = 0 then b else if i + 2 = 1 then tM else if i + 2 < 100 then adK (i + 2 - 2) else adV (i + 2 - 100)) = adK i := by
        rw [if_neg (by omega), if_neg (by omega), if_pos (by omega), Nat.add_sub_cancel]
      have h2 : (if i + 100 = 0 then b else if i + 100 = 1 then tM else if i + 100 < 100 then adK (i + 100 - 2) else adV (i + 100 - 100)) = adV i := by
        rw [if_neg (by omega), if_neg (by omega), if_neg (by omega), Nat.add_sub_cancel]
      show va_O _ (if i + 2 = 0 then b else if i + 2 = 1 then tM else if i + 2 < 100 then adK (i + 2 - 2) else adV (i + 2 - 100)) _ _ _ ∧ va_OF _ _ _ _ (if i + 2 = 0 then b else if i + 2 = 1 then tM else if i + 2 < 100 then adK (i + 2 - 2) else adV (i + 2 - 100)) _ _ _ ∧ va_OF _ _ _ (.ref (if i + 100 = 0 then b else if i + 100 = 1 then tM else if i + 100 < 100 then adK (i + 100 - 2) else adV (i + 100 - 100))) (if i + 2 = 0 then b else if i + 2 = 1 then tM else if i + 2 < 100 then adK (i + 2 - 2) else adV (i + 2 - 100)) _ _ _ ∧ va_T _ (if i + 100 = 0 then b else if i + 100 = 1 then tM else if i + 100 < 100 then adK (i + 100 - 2) else adV (i + 100 - 100)) _ _ _ _ _
      rw [h1, h2]
      exact hS.1 i hi
    · refine hS.2 i j hi hj ?_
      have e : (if i + 2 = 0 then b else if i + 2 = 1 then tM else if i + 2 < 100 then adK (i + 2 - 2) else adV (i + 2 - 100)) = (if j + 2 = 0 then b else if j + 2 = 1 then tM else if j + 2 < 100 then adK (j + 2 - 2) else adV (j + 2 - 100)) := e
      rw [if_neg (by omega), if_neg (by omega), if_pos (by omega), Nat.add_sub_cancel, if_neg (by omega), if_neg (by omega), if_pos (by omega), Nat.add_sub_cancel] at e
      exact e
  · intro q hq
    obtain ⟨q1, q2, q3, q4⟩ := qT_ix q hq
    have hd : (if q.2.2 = 0 then b else if q.2.2 = 1 then tM else if q.2.2 < 100 then adK (q.2.2 - 2) else adV (q.2.2 - 100)) = adK (q.2.2 - 2) := by
      rw [if_neg (by omega), if_neg (by omega), if_pos (by omega)]
    have hr := hR (q.2.2 - 2) (by omega)
    unfold tmS at hr
    rw [q4] at hr
    show vk_R _ _ _ (if q.2.2 = 0 then b else if q.2.2 = 1 then tM else if q.2.2 < 100 then adK (q.2.2 - 2) else adV (q.2.2 - 100)) _
    rw [hd]
    refine vk_R.of (hts _ (srW q hq)) ?_
    rw [q1]
    exact hr
