/-! ===== a program read is a law ===== -/
theorem XC_w {cf : Nat → Int32} {l : INS} {i j : Nat} {W W' : Nat → Prop} (x : XC cf l i j W) (h : ∀ k, W k → W' k) : XC cf l i j W' := fun k h1 h2 => ⟨(x k h1 h2).1, (x k h1 h2).2.1, fun z => h _ ((x k h1 h2).2.2 z)⟩
theorem XE_of {h : MH} {c N t : Nat} {v : VAL} (x : XEc (hia h c) N 0 t v) : XE h c N (lX (hia h c)) lawW t v := by
  obtain ⟨t', D, hD, s, ht, e⟩ := x
  exact ⟨t', D, hD, s.1, ht, e, XC_w s.2 (fun k hk => hk.2.1 rfl)⟩
theorem PXh_of {h : MH} {a : Nat} {cs : List CLA} (x : PXg h a 0 cs) : PXh h a (LWof cs) := by
  obtain ⟨N, x1, x2⟩ := x
  refine ⟨N, lX (hia h (a + 1)), x1, fun i hi => ?_⟩
  have hi' : i < cs.length := hi
  obtain ⟨c1, c2, c3, c4, c5, c6, c7⟩ := x2 i _ (getD_of hi')
  have k1 : (cs.getD i c0).1 ≤ 1 := by omega
  rw [show i * 6 = 6 * i by omega] at c2 c5 c6
  refine ⟨k1, ?_, ?_, fun z => ?_⟩
  · rw [c2]; unfold kdX; rw [if_pos rfl, Nat.add_comm]; rfl
  · show XT h (a + 1) N (lX (hia h (a + 1))) lawW ((cs.getD i c0).2.2.1) _
    revert c5
    cases (cs.getD i c0).2.2.1 with
    | none => exact fun c5 => c5
    | some v => exact fun ⟨_, t, t1, t2, t3⟩ => ⟨t, t2, t1, XE_of t3⟩
  · have z' : (cs.getD i c0).1 = 0 := z
    obtain ⟨t, t1, t2, t3⟩ := c6 0 (by rw [z']; decide)
    exact ⟨t, t1, t2, XE_of t3⟩
