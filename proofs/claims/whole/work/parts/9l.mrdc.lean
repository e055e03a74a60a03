theorem mpH_g (h : MH) (n : Nat) (x y : Int32) : hfi (mpH h n x y) 273 = up1 (hfi h 273) 29 (nI (n + 1)) ∧ hia (mpH h n x y) 286 = up1 (hia h 286) n x ∧ hia (mpH h n x y) 287 = up1 (hia h 287) n y ∧ (∀ b, b ≠ 286 → b ≠ 287 → hia (mpH h n x y) b = hia h b) ∧ (∀ a, a ≠ 273 → hfi (mpH h n x y) a = hfi h a) := by
  unfold mpH
  refine ⟨hfi_s _ _ _, ?_, ?_, fun b h1 h2 => ?_, fun a ha => ?_⟩
  · simp (disch := omega) only [SG, hia_n, hia_s, up1_n, up1_s]
  · simp (disch := omega) only [SG, hia_n, hia_s, up1_n, up1_s]
  · simp (disch := omega) only [SG, hia_n, hia_s, up1_n, up1_s]
  · rw [hfi_nn _ _ ha]; simp (disch := omega) only [SG]
theorem mpH_f (h : MH) (n : Nat) (x y : Int32) : hsz (mpH h n x y) = hsz h ∧ hcc (mpH h n x y) = hcc h ∧ hcu (mpH h n x y) = hcu h ∧ SHE h (mpH h n x y) ∧ hja (mpH h n x y) = hja h ∧ hfj (mpH h n x y) = hfj h := ⟨rfl, rfl, rfl, SHE.refl h, rfl, rfl⟩
theorem meH_g (h : MH) (n : Nat) (x y : Int32) : hfi (meH h n x y) 273 = up1 (hfi h 273) 23 (nI (n + 1)) ∧ hia (meH h n x y) 284 = up1 (hia h 284) n x ∧ hia (meH h n x y) 285 = up1 (hia h 285) n y ∧ (∀ b, b ≠ 284 → b ≠ 285 → hia (meH h n x y) b = hia h b) ∧ (∀ a, a ≠ 273 → hfi (meH h n x y) a = hfi h a) := by
  unfold meH
  refine ⟨hfi_s _ _ _, ?_, ?_, fun b h1 h2 => ?_, fun a ha => ?_⟩
  · simp (disch := omega) only [SG, hia_n, hia_s, up1_n, up1_s]
  · simp (disch := omega) only [SG, hia_n, hia_s, up1_n, up1_s]
  · simp (disch := omega) only [SG, hia_n, hia_s, up1_n, up1_s]
  · rw [hfi_nn _ _ ha]; simp (disch := omega) only [SG]
theorem meH_f (h : MH) (n : Nat) (x y : Int32) : hsz (meH h n x y) = hsz h ∧ hcc (meH h n x y) = hcc h ∧ hcu (meH h n x y) = hcu h ∧ SHE h (meH h n x y) ∧ hja (meH h n x y) = hja h ∧ hfj (meH h n x y) = hfj h := ⟨rfl, rfl, rfl, SHE.refl h, rfl, rfl⟩
