/-! ===== a net is copied (by program: wip/whole/gen_cpy.py) ===== -/
def cpA (h : MH) (n k j N : Nat) : MH := sIA h (k + j) (va_cpy (hia h (n + j)) (hia h (k + j)) 0 0 N)
def cpF (h : MH) (n k : Nat) : MH := sFI h k (up1 (up1 (up1 (up1 (hfi h k) 9 (hfi h n 9)) 10 (hfi h n 10)) 11 (hfi h n 11)) 12 (hfi h n 12))
theorem NeS_cpA (h : MH) (n k j N q : Nat) : NeS (cpA h n k j N) q = NeS h q := rfl
theorem NeS_i (h : MH) (a q : Nat) (f : Nat → Int32) : NeS (sIA h a f) q = NeS h q := rfl
theorem hfi_cpA (h : MH) (n k j N : Nat) : hfi (cpA h n k j N) = hfi h := of_eq_true (eq_self (hfi h))
theorem cpA_n (h : MH) {n k j N a : Nat} (e : ¬ a = k + j) : hia (cpA h n k j N) a = hia h a := hia_n h _ e
theorem cpA_s (h : MH) {n k j N i : Nat} (hi : i < N) : hia (cpA h n k j N) (k + j) i = hia h (n + j) i := by
  unfold cpA
  rw [hia_s, pk_cpy_in (by omega) (by omega), Nat.zero_add, Nat.sub_zero]
theorem c_143 (d n k : Nat) (hd : n + 9 < k ∨ k + 9 < n) {h : MH} (hS : NeS h n) (hK : NeS h k) (Q : RT) (lm : Nat × Nat) : WP cd_Ne_copies (callD d) Q lm 143 [] [some (.ref k), some (.ref n)] h = Q none (cpF h n k) := by
  have s1 := hS.1
  have s2 := hK.1
  unfold cpF
  simp (disch := omega) only [U_Ne_copies (cm _), SA, SB, SG, SV, SK, s1, s2, up1_s, up1_n, true_and]

theorem c_126 (d n k : Nat) (hd : n + 9 < k ∨ k + 9 < n) (N : Nat) (hN : N ≤ 420) {h : MH} (hS : NeS h n) (hK : NeS h k) (e9 : hfi h n 9 = nI N) (Q : RT) (lm : Nat × Nat) : WP cd_Ne_copies (callD d) Q lm 126 [] [some (.ref k), some (.ref n)] h = Q none (cpF (cpA h n k 9 N) n k) := by
  obtain ⟨sh, h24⟩ := hS.all
  obtain ⟨sk, k24⟩ := hK.all
  have a1 : 24 ≤ n + 9 := by omega
  have a2 : 24 ≤ k + 9 := by omega
  rw [show cpA h n k 9 N = sIA h (k + 9) (va_cpy (hia h (n + 9)) (hia h (k + 9)) 0 0 N) from rfl]
  simp (disch := first | omega | (simp only [NeS_i]; exact hS) | (simp only [NeS_i]; exact hK) | (simp only [SG]; exact e9)) only [↓c_143 d n k hd, U_Ne_copies (cm _), SA, SB, SG, SV, sh, sk, e9, a1, a2, hN, ltI, nI_clamp, Nat.reduceLeDiff, Nat.lt_irrefl, Nat.zero_add, Nat.le_refl, Nat.not_lt_zero, not_false_eq_true, true_and, and_true]

theorem c_111 (d n k : Nat) (hd : n + 9 < k ∨ k + 9 < n) (N : Nat) (hN : N ≤ 420) {h : MH} (hS : NeS h n) (hK : NeS h k) (e9 : hfi h n 9 = nI N) (Q : RT) (lm : Nat × Nat) : WP cd_Ne_copies (callD d) Q lm 111 [] [some (.ref k), some (.ref n)] h = Q none (cpF (cpA (cpA h n k 8 7) n k 9 N) n k) := by
  obtain ⟨sh, h24⟩ := hS.all
  obtain ⟨sk, k24⟩ := hK.all
  have a1 : 24 ≤ n + 8 := by omega
  have a2 : 24 ≤ k + 8 := by omega
  rw [show cpA h n k 8 7 = sIA h (k + 8) (va_cpy (hia h (n + 8)) (hia h (k + 8)) 0 0 7) from rfl]
  simp (disch := first | omega | (simp only [NeS_i]; exact hS) | (simp only [NeS_i]; exact hK) | (simp only [SG]; exact e9)) only [↓c_126 d n k hd N hN, U_Ne_copies (cm _), SA, SB, SG, SV, sh, sk, e9, a1, a2, hN, ltI, nI_clamp, Nat.reduceLeDiff, Nat.lt_irrefl, Nat.zero_add, Nat.le_refl, Nat.not_lt_zero, not_false_eq_true, true_and, and_true]

theorem c_96 (d n k : Nat) (hd : n + 9 < k ∨ k + 9 < n) (N : Nat) (hN : N ≤ 420) {h : MH} (hS : NeS h n) (hK : NeS h k) (e9 : hfi h n 9 = nI N) (Q : RT) (lm : Nat × Nat) : WP cd_Ne_copies (callD d) Q lm 96 [] [some (.ref k), some (.ref n)] h = Q none (cpF (cpA (cpA (cpA h n k 7 7) n k 8 7) n k 9 N) n k) := by
  obtain ⟨sh, h24⟩ := hS.all
  obtain ⟨sk, k24⟩ := hK.all
  have a1 : 24 ≤ n + 7 := by omega
  have a2 : 24 ≤ k + 7 := by omega
  rw [show cpA h n k 7 7 = sIA h (k + 7) (va_cpy (hia h (n + 7)) (hia h (k + 7)) 0 0 7) from rfl]
  simp (disch := first | omega | (simp only [NeS_i]; exact hS) | (simp only [NeS_i]; exact hK) | (simp only [SG]; exact e9)) only [↓c_111 d n k hd N hN, U_Ne_copies (cm _), SA, SB, SG, SV, sh, sk, e9, a1, a2, hN, ltI, nI_clamp, Nat.reduceLeDiff, Nat.lt_irrefl, Nat.zero_add, Nat.le_refl, Nat.not_lt_zero, not_false_eq_true, true_and, and_true]

theorem c_81 (d n k : Nat) (hd : n + 9 < k ∨ k + 9 < n) (N : Nat) (hN : N ≤ 420) {h : MH} (hS : NeS h n) (hK : NeS h k) (e9 : hfi h n 9 = nI N) (Q : RT) (lm : Nat × Nat) : WP cd_Ne_copies (callD d) Q lm 81 [] [some (.ref k), some (.ref n)] h = Q none (cpF (cpA (cpA (cpA (cpA h n k 6 7) n k 7 7) n k 8 7) n k 9 N) n k) := by
  obtain ⟨sh, h24⟩ := hS.all
  obtain ⟨sk, k24⟩ := hK.all
  have a1 : 24 ≤ n + 6 := by omega
  have a2 : 24 ≤ k + 6 := by omega
  rw [show cpA h n k 6 7 = sIA h (k + 6) (va_cpy (hia h (n + 6)) (hia h (k + 6)) 0 0 7) from rfl]
  simp (disch := first | omega | (simp only [NeS_i]; exact hS) | (simp only [NeS_i]; exact hK) | (simp only [SG]; exact e9)) only [↓c_96 d n k hd N hN, U_Ne_copies (cm _), SA, SB, SG, SV, sh, sk, e9, a1, a2, hN, ltI, nI_clamp, Nat.reduceLeDiff, Nat.lt_irrefl, Nat.zero_add, Nat.le_refl, Nat.not_lt_zero, not_false_eq_true, true_and, and_true]

theorem c_66 (d n k : Nat) (hd : n + 9 < k ∨ k + 9 < n) (N : Nat) (hN : N ≤ 420) {h : MH} (hS : NeS h n) (hK : NeS h k) (e9 : hfi h n 9 = nI N) (Q : RT) (lm : Nat × Nat) : WP cd_Ne_copies (callD d) Q lm 66 [] [some (.ref k), some (.ref n)] h = Q none (cpF (cpA (cpA (cpA (cpA (cpA h n k 5 7) n k 6 7) n k 7 7) n k 8 7) n k 9 N) n k) := by
  obtain ⟨sh, h24⟩ := hS.all
  obtain ⟨sk, k24⟩ := hK.all
  have a1 : 24 ≤ n + 5 := by omega
  have a2 : 24 ≤ k + 5 := by omega
  rw [show cpA h n k 5 7 = sIA h (k + 5) (va_cpy (hia h (n + 5)) (hia h (k + 5)) 0 0 7) from rfl]
  simp (disch := first | omega | (simp only [NeS_i]; exact hS) | (simp only [NeS_i]; exact hK) | (simp only [SG]; exact e9)) only [↓c_81 d n k hd N hN, U_Ne_copies (cm _), SA, SB, SG, SV, sh, sk, e9, a1, a2, hN, ltI, nI_clamp, Nat.reduceLeDiff, Nat.lt_irrefl, Nat.zero_add, Nat.le_refl, Nat.not_lt_zero, not_false_eq_true, true_and, and_true]

theorem c_51 (d n k : Nat) (hd : n + 9 < k ∨ k + 9 < n) (N : Nat) (hN : N ≤ 420) {h : MH} (hS : NeS h n) (hK : NeS h k) (e9 : hfi h n 9 = nI N) (Q : RT) (lm : Nat × Nat) : WP cd_Ne_copies (callD d) Q lm 51 [] [some (.ref k), some (.ref n)] h = Q none (cpF (cpA (cpA (cpA (cpA (cpA (cpA h n k 4 7) n k 5 7) n k 6 7) n k 7 7) n k 8 7) n k 9 N) n k) := by
  obtain ⟨sh, h24⟩ := hS.all
  obtain ⟨sk, k24⟩ := hK.all
  have a1 : 24 ≤ n + 4 := by omega
  have a2 : 24 ≤ k + 4 := by omega
  rw [show cpA h n k 4 7 = sIA h (k + 4) (va_cpy (hia h (n + 4)) (hia h (k + 4)) 0 0 7) from rfl]
  simp (disch := first | omega | (simp only [NeS_i]; exact hS) | (simp only [NeS_i]; exact hK) | (simp only [SG]; exact e9)) only [↓c_66 d n k hd N hN, U_Ne_copies (cm _), SA, SB, SG, SV, sh, sk, e9, a1, a2, hN, ltI, nI_clamp, Nat.reduceLeDiff, Nat.lt_irrefl, Nat.zero_add, Nat.le_refl, Nat.not_lt_zero, not_false_eq_true, true_and, and_true]

theorem c_36 (d n k : Nat) (hd : n + 9 < k ∨ k + 9 < n) (N : Nat) (hN : N ≤ 420) {h : MH} (hS : NeS h n) (hK : NeS h k) (e9 : hfi h n 9 = nI N) (Q : RT) (lm : Nat × Nat) : WP cd_Ne_copies (callD d) Q lm 36 [] [some (.ref k), some (.ref n)] h = Q none (cpF (cpA (cpA (cpA (cpA (cpA (cpA (cpA h n k 3 7) n k 4 7) n k 5 7) n k 6 7) n k 7 7) n k 8 7) n k 9 N) n k) := by
  obtain ⟨sh, h24⟩ := hS.all
  obtain ⟨sk, k24⟩ := hK.all
  have a1 : 24 ≤ n + 3 := by omega
  have a2 : 24 ≤ k + 3 := by omega
  rw [show cpA h n k 3 7 = sIA h (k + 3) (va_cpy (hia h (n + 3)) (hia h (k + 3)) 0 0 7) from rfl]
  simp (disch := first | omega | (simp only [NeS_i]; exact hS) | (simp only [NeS_i]; exact hK) | (simp only [SG]; exact e9)) only [↓c_51 d n k hd N hN, U_Ne_copies (cm _), SA, SB, SG, SV, sh, sk, e9, a1, a2, hN, ltI, nI_clamp, Nat.reduceLeDiff, Nat.lt_irrefl, Nat.zero_add, Nat.le_refl, Nat.not_lt_zero, not_false_eq_true, true_and, and_true]

theorem c_18 (d n k : Nat) (hd : n + 9 < k ∨ k + 9 < n) (N : Nat) (hN : N ≤ 420) {h : MH} (hS : NeS h n) (hK : NeS h k) (e9 : hfi h n 9 = nI N) (Q : RT) (lm : Nat × Nat) : WP cd_Ne_copies (callD d) Q lm 18 [] [some (.ref k), some (.ref n)] h = Q none (cpF (cpA (cpA (cpA (cpA (cpA (cpA (cpA (cpA h n k 2 49) n k 3 7) n k 4 7) n k 5 7) n k 6 7) n k 7 7) n k 8 7) n k 9 N) n k) := by
  obtain ⟨sh, h24⟩ := hS.all
  obtain ⟨sk, k24⟩ := hK.all
  have a1 : 24 ≤ n + 2 := by omega
  have a2 : 24 ≤ k + 2 := by omega
  rw [show cpA h n k 2 49 = sIA h (k + 2) (va_cpy (hia h (n + 2)) (hia h (k + 2)) 0 0 49) from rfl]
  simp (disch := first | omega | (simp only [NeS_i]; exact hS) | (simp only [NeS_i]; exact hK) | (simp only [SG]; exact e9)) only [↓c_36 d n k hd N hN, U_Ne_copies (cm _), SA, SB, SG, SV, sh, sk, e9, a1, a2, hN, ltI, nI_clamp, Nat.reduceLeDiff, Nat.lt_irrefl, Nat.zero_add, Nat.le_refl, Nat.not_lt_zero, not_false_eq_true, true_and, and_true]

theorem c_0 (d n k : Nat) (hd : n + 9 < k ∨ k + 9 < n) (N : Nat) (hN : N ≤ 420) {h : MH} (hS : NeS h n) (hK : NeS h k) (e9 : hfi h n 9 = nI N) (Q : RT) (lm : Nat × Nat) : WP cd_Ne_copies (callD d) Q lm 0 [] [some (.ref k), some (.ref n)] h = Q none (cpF (cpA (cpA (cpA (cpA (cpA (cpA (cpA (cpA (cpA h n k 1 49) n k 2 49) n k 3 7) n k 4 7) n k 5 7) n k 6 7) n k 7 7) n k 8 7) n k 9 N) n k) := by
  obtain ⟨sh, h24⟩ := hS.all
  obtain ⟨sk, k24⟩ := hK.all
  have a1 : 24 ≤ n + 1 := by omega
  have a2 : 24 ≤ k + 1 := by omega
  rw [show cpA h n k 1 49 = sIA h (k + 1) (va_cpy (hia h (n + 1)) (hia h (k + 1)) 0 0 49) from rfl]
  simp (disch := first | omega | (simp only [NeS_i]; exact hS) | (simp only [NeS_i]; exact hK) | (simp only [SG]; exact e9)) only [↓c_18 d n k hd N hN, U_Ne_copies (cm _), SA, SB, SG, SV, sh, sk, e9, a1, a2, hN, ltI, nI_clamp, Nat.reduceLeDiff, Nat.lt_irrefl, Nat.zero_add, Nat.le_refl, Nat.not_lt_zero, not_false_eq_true, true_and, and_true]

theorem hia_cpF (h : MH) (n k : Nat) : hia (cpF h n k) = hia h := of_eq_true (eq_self (hia h))
theorem hfi_cpF (h : MH) (n k : Nat) : hfi (cpF h n k) k = up1 (up1 (up1 (up1 (hfi h k) 9 (hfi h n 9)) 10 (hfi h n 10)) 11 (hfi h n 11)) 12 (hfi h n 12) := up1_s (hfi h) k _
theorem NF.cp (h : MH) {n k j N : Nat} (h1 : 0 < j) (h2 : j ≤ 9) : NF k h (cpA h n k j N) := NF.i (n := k) (a := k + j) h _ (by omega) (by omega)
theorem NF.cf (h : MH) (n k : Nat) : NF k h (cpF h n k) := NF.f h _
theorem y_copies (d n k : Nat) (hd : n + 9 < k ∨ k + 9 < n) {h : MH} {p : RW} (hS : NeS h n) (hV : NeV h n p) (hK : NeS h k) (hQ : QL p 420) (Q : RT) (kk : ∀ h', XN h k h' p → Q none h') : callD (d + 1) 17 [.ref k, .ref n] h Q := by
  have e9 : hfi h n 9 = nI (ql p) := hV.2.2.2.2.2.2.2.2.2.1.trans hQ.1
  rw [E_Ne_copies, c_0 d n k hd (ql p) hQ.2 hS hK e9]
  obtain ⟨v1, v2, v3, v4, v5, v6, v7, v8, v9, v10, v11, v12, v13⟩ := hV
  have F := ((((((((((NF.cp h (n := n) (k := k) (j := 1) (N := 49) (by omega) (by omega)).trans (NF.cp _ (n := n) (j := 2) (N := 49) (by omega) (by omega))).trans (NF.cp _ (n := n) (j := 3) (N := 7) (by omega) (by omega))).trans (NF.cp _ (n := n) (j := 4) (N := 7) (by omega) (by omega))).trans (NF.cp _ (n := n) (j := 5) (N := 7) (by omega) (by omega))).trans (NF.cp _ (n := n) (j := 6) (N := 7) (by omega) (by omega))).trans (NF.cp _ (n := n) (j := 7) (N := 7) (by omega) (by omega))).trans (NF.cp _ (n := n) (j := 8) (N := 7) (by omega) (by omega))).trans (NF.cp _ (n := n) (j := 9) (N := ql p) (by omega) (by omega))).trans (NF.cf _ n k))
  refine kk _ ⟨F, F.S hK, ?_⟩
  refine ⟨fun r o h1 h2 => ?_, fun r o h1 h2 => ?_, fun r h1 => ?_, fun r h1 => ?_, fun r h1 => ?_, fun r h1 => ?_, fun r h1 => ?_, fun r h1 => ?_, fun i hi => ?_, ?_, ?_, ?_, ?_⟩
  · simp (disch := omega) only [hia_cpF, cpA_n, cpA_s]; exact v1 r o h1 h2
  · simp (disch := omega) only [hia_cpF, cpA_n, cpA_s]; exact v2 r o h1 h2
  · simp (disch := omega) only [hia_cpF, cpA_n, cpA_s]; exact v3 r h1
  · simp (disch := omega) only [hia_cpF, cpA_n, cpA_s]; exact v4 r h1
  · simp (disch := omega) only [hia_cpF, cpA_n, cpA_s]; exact v5 r h1
  · simp (disch := omega) only [hia_cpF, cpA_n, cpA_s]; exact v6 r h1
  · simp (disch := omega) only [hia_cpF, cpA_n, cpA_s]; exact v7 r h1
  · simp (disch := omega) only [hia_cpF, cpA_n, cpA_s]; exact v8 r h1
  · simp (disch := omega) only [hia_cpF, cpA_n, cpA_s]; exact v9 i hi
  · simp (disch := omega) only [hfi_cpF, hfi_cpA, up1_n, up1_s]; exact v10
  · simp (disch := omega) only [hfi_cpF, hfi_cpA, up1_n, up1_s]; exact v11
  · simp (disch := omega) only [hfi_cpF, hfi_cpA, up1_n, up1_s]; exact v12
  · simp (disch := omega) only [hfi_cpF, hfi_cpA, up1_n, up1_s]; exact v13
