/-! ===== one row, whichever it is: the cases ===== -/
section Disp
variable {p : Program} {l : Launch} {e : Env} {R : Room} {s : State} {m : MethodId} {args : Array Value} {below : List Frame} {meth : Method} {c : Code} {Z : State → Prop} {ao : Nat → Nat} {HL : Heap} {D : va_G} {cA : Nat → ClassId} {L : Nat} {xs : Nat → Int32} {c0 u0 nL : Nat} {lm : Nat × Nat}
variable {X : KT} {pc nx : Nat} {st : List Value} {ls : LT} {h : MH} {cc : ByteArray}
theorem nar_z {f : Nat → Nat} {x : Int32} (h : x = 0 ∨ x = 1) : narrow .boolean (svl f (.int x)) = svl f (.int x) := by rcases h with rfl | rfl <;> rfl
theorem fit_z {f : Nat → Nat} {x : Int32} (h : x = 0 ∨ x = 1) : fits .boolean (svl f (.int x)) = true := by rcases h with rfl | rfl <;> rfl
theorem w_gf {own ix ci k n : Nat} (hx : p.tables.exec = Jvm.exec) (hb : c.code = cc) (hS : ST ao HL D cA L xs s) (hown : s.vm.findClass (onm own) = some m.cls) (hf : lk3 fT own ix = some (ci, k, n)) (hc : ci < 9) (hk : k < vwN ci) (hd : decode cc pc = .ok (.getfield ix, 3)) (hX : ∀ pc st ls h, X pc st ls h → WS p l e R s m args below meth c Z ao HL D cA L xs c0 u0 nL lm pc st ls h) {v : MH → Nat → Value} (hv : ∀ h a, fvl (adr ao HL.size) h a ci k = svl (adr ao HL.size) (v h a)) {a : Nat} {rest : List Value} (q1 : hkd h a = ci) (q2 : X (pc + 3) (v h a :: rest) ls h) : WS p l e R s m args below meth c Z ao HL D cA L xs c0 u0 nL lm pc (.ref a :: rest) ls h := by
  intro H locs cells slots lsR hs
  have := hX _ _ _ _ q2 H locs cells slots lsR hs
  refine x_get hx hb hown hS hf hc hk hs.1 q1 hd ?_
  rw [hv]
  exact this
theorem w_pf {own ix ci k n : Nat} {ini : Bool} (hx : p.tables.exec = Jvm.exec) (hb : c.code = cc) (hS : ST ao HL D cA L xs s) (hown : s.vm.findClass (onm own) = some m.cls) (hf : lk3 fT own ix = some (ci, k, n)) (hc : ci < 9) (hk : k < vwN ci) (hini : ini = true → meth.name = "<init>") (hfin : (vwT ci k).2.2.2 = false ∨ (ini = true ∧ own = ci ∧ n = 0)) (hd : decode cc pc = .ok (.putfield ix, 3)) (hX : ∀ pc st ls h, X pc st ls h → WS p l e R s m args below meth c Z ao HL D cA L xs c0 u0 nL lm pc st ls h) {h' : MH} {a : Nat} {v : Value} {rest : List Value} (q1 : hkd h a = ci) (hn : narrow (tyT ci k) (svl (adr ao HL.size) v) = svl (adr ao HL.size) v) (hfit : fits (tyT ci k) (svl (adr ao HL.size) v) = true) (e1 : hsz h' = hsz h) (e2 : hkd h' = hkd h) (e3 : hln h' = hln h) (e4 : ∀ k, k ≠ a → hfi h' k = hfi h k ∧ hfj h' k = hfj h k ∧ hfr h' k = hfr h k ∧ hia h' k = hia h k ∧ hja h' k = hja h k ∧ hra h' k = hra h k) (e5 : ∀ j, j < vwN ci → fvl (adr ao HL.size) h' a ci j = if j = k then svl (adr ao HL.size) v else fvl (adr ao HL.size) h a ci j) (e6 : hcc h' = hcc h) (e7 : hcu h' = hcu h) (q2 : X (pc + 3) rest ls h') : WS p l e R s m args below meth c Z ao HL D cA L xs c0 u0 nL lm pc (v :: .ref a :: rest) ls h := by
  intro H locs cells slots lsR hs
  exact x_put hx hb hown hS hf hc hk hini hfin hs.1 q1 hn hfit hd e1 e2 e3 e4 e5 (fun H' i hR h24 => hX _ _ _ _ q2 H' _ _ _ lsR (hs.hn hR h24 e6 e7))
set_option maxHeartbeats 4000000 in
set_option maxRecDepth 20000 in
theorem snd_row {G : GT} {Rr : RT} {own d rz : Nat} {ini : Bool} {r : PI} (hx : p.tables.exec = Jvm.exec) (hb : c.code = cc) (hml : c.maxLocals = nL) (hS : ST ao HL D cA L xs s) (hown : s.vm.findClass (onm own) = some m.cls) (hini : ini = true → meth.name = "<init>") (hRf : d + 7 ≤ R.frames) (hRl : 60 * (d + 7) ≤ R.locals) (hRc : R.cells + c0 = lm.1) (hRs : R.slots + u0 = lm.2)
    (hG : ∀ y av h P, G y av h P → y < 257 → MET l ao HL D cA L xs d y av h P)
    (hI : rz = 0 ∨ rz = 1 → ∀ (x : Int32) (pc : Nat) (ls : LT) (h : MH) (H : Heap) (locs : List Loc) (cells slots : Nat) (lsR : Array Slot), (rz = 1 → x = 0 ∨ x = 1) → decode cc pc = .ok (.ireturn, 1) → SC ao HL D cA L xs c0 u0 nL lm ls h H locs cells slots lsR → Rr (some (.int x)) h → W p l e R s m args below meth c H locs cells slots Z (F0 m pc lsR [.int x]))
    (hJ : rz = 2 → ∀ (x : Int64) (pc : Nat) (ls : LT) (h : MH) (H : Heap) (locs : List Loc) (cells slots : Nat) (lsR : Array Slot), decode cc pc = .ok (.lreturn, 1) → SC ao HL D cA L xs c0 u0 nL lm ls h H locs cells slots lsR → Rr (some (.long x)) h → W p l e R s m args below meth c H locs cells slots Z (F0 m pc lsR [.long x]))
    (hA : rz = 3 → ∀ (v : Value) (pc : Nat) (ls : LT) (h : MH) (H : Heap) (locs : List Loc) (cells slots : Nat) (lsR : Array Slot), (v = .null ∨ ∃ a, v = .ref a) → decode cc pc = .ok (.areturn, 1) → SC ao HL D cA L xs c0 u0 nL lm ls h H locs cells slots lsR → Rr (some v) h → W p l e R s m args below meth c H locs cells slots Z (F0 m pc lsR [svl (adr ao HL.size) v]))
    (hV : rz = 4 → ∀ (pc : Nat) (ls : LT) (h : MH) (H : Heap) (locs : List Loc) (cells slots : Nat) (lsR : Array Slot), decode cc pc = .ok (.return_, 1) → SC ao HL D cA L xs c0 u0 nL lm ls h H locs cells slots lsR → Rr none h → W p l e R s m args below meth c H locs cells slots Z (F0 m pc lsR []))
    (hX : ∀ pc st ls h, X pc st ls h → WS p l e R s m args below meth c Z ao HL D cA L xs c0 u0 nL lm pc st ls h)
    (hok : RowOK own cc nL ini rz pc r) (q : stp G Rr lm r X st ls h) : WS p l e R s m args below meth c Z ao HL D cA L xs c0 u0 nL lm pc st ls h := by
  obtain ⟨i, len, hd, ht⟩ := hok
  unfold trI at ht
  split at ht
  · obtain ⟨hl, rfl⟩ := tk_some ht
    obtain rfl : len = 2 := by simpa using hl
    exact w_ldi hX (fun z k => lv_iload hx hb hd z k) q
  · obtain ⟨hl, rfl⟩ := tk_some ht
    obtain rfl : len = 1 := by simpa using hl
    exact w_ldi hX (fun z k => lv_iload_n hx hb hd rfl z k) q
  · obtain ⟨hl, rfl⟩ := tk_some ht
    obtain rfl : len = 2 := by simpa using hl
    exact w_lda hX (fun z k => lv_aload hx hb hd z k) (fun z k => lv_aloadN hx hb hd z k) q
  · obtain ⟨hl, rfl⟩ := tk_some ht
    obtain rfl : len = 1 := by simpa using hl
    exact w_lda hX (fun z k => lv_aload_n hx hb hd rfl z k) (fun z k => lv_aload_nN hx hb hd rfl z k) q
  · obtain ⟨hl, rfl⟩ := tk_some ht
    obtain rfl : len = 2 := by simpa using hl
    exact w_ldj hX (fun z k => lv_lload hx hb hd z k) q
  · obtain ⟨hl, rfl⟩ := tk_some ht
    obtain rfl : len = 1 := by simpa using hl
    exact w_ldj hX (fun z k => lv_lload_n hx hb hd rfl z k) q
  · obtain ⟨hl, rfl⟩ := tk_some ht
    simp only [Bool.and_eq_true, beq_iff_eq, decide_eq_true_eq] at hl
    obtain ⟨rfl, ha⟩ := hl
    exact w_sti ha hX (fun z k => lv_istore hx hb hd z ha rfl k) q
  · obtain ⟨hl, rfl⟩ := tk_some ht
    simp only [Bool.and_eq_true, beq_iff_eq, decide_eq_true_eq] at hl
    obtain ⟨rfl, ha⟩ := hl
    exact w_sti ha hX (fun z k => lv_istore_n hx hb hd rfl z ha rfl k) q
  · obtain ⟨hl, rfl⟩ := tk_some ht
    simp only [Bool.and_eq_true, beq_iff_eq, decide_eq_true_eq] at hl
    obtain ⟨rfl, ha⟩ := hl
    exact w_sta ha hX (fun z k => lv_astore hx hb hd z ha rfl k) (fun z k => lv_astoreN hx hb hd z ha rfl k) q
  · obtain ⟨hl, rfl⟩ := tk_some ht
    simp only [Bool.and_eq_true, beq_iff_eq, decide_eq_true_eq] at hl
    obtain ⟨rfl, ha⟩ := hl
    exact w_sta ha hX (fun z k => lv_astore_n hx hb hd rfl z ha rfl k) (fun z k => lv_astore_nN hx hb hd rfl z ha rfl k) q
  · obtain ⟨hl, rfl⟩ := tk_some ht
    simp only [Bool.and_eq_true, beq_iff_eq, decide_eq_true_eq] at hl
    obtain ⟨rfl, ha⟩ := hl
    exact w_stj ha hX (fun z k => lv_lstore hx hb hd z ha rfl k) q
  · obtain ⟨hl, rfl⟩ := tk_some ht
    simp only [Bool.and_eq_true, beq_iff_eq, decide_eq_true_eq] at hl
    obtain ⟨rfl, ha⟩ := hl
    exact w_stj ha hX (fun z k => lv_lstore_n hx hb hd rfl z ha rfl k) q
  · obtain ⟨hl, rfl⟩ := tk_some ht
    obtain rfl : len = 1 := by simpa using hl
    exact w_c hX (fun k => lv_iconst hx hb hd rfl k) q
  · obtain ⟨hl, rfl⟩ := tk_some ht
    obtain rfl : len = 2 := by simpa using hl
    exact w_c hX (fun k => lv_bipush hx hb hd rfl k) q
  · obtain ⟨hl, rfl⟩ := tk_some ht
    obtain rfl : len = 3 := by simpa using hl
    exact w_c hX (fun k => lv_sipush hx hb hd rfl k) q
  · split at ht
    · rename_i v hv
      obtain ⟨hl, rfl⟩ := tk_some ht
      obtain rfl : len = 2 := by simpa using hl
      have hw := inT_mem iT_ok (lk3_mem hv)
      exact w_c hX (fun k => lv_ldc hx hb hown (hS.2.1 _ hw.1 hw.2 args) hd k) q
    · split at ht
      · rename_i a hv
        obtain ⟨hl, rfl⟩ := tk_some ht
        obtain rfl : len = 2 := by simpa using hl
        exact w_str hx hb hS hown (lk3_mem hv) hd hX q
      · cases ht
  · split at ht
    · rename_i v hv
      obtain ⟨hl, rfl⟩ := tk_some ht
      obtain rfl : len = 3 := by simpa using hl
      have hw := inT_mem iT_ok (lk3_mem hv)
      exact w_c hX (fun k => lv_ldcw hx hb hown (hS.2.1 _ hw.1 hw.2 args) hd k) q
    · cases ht
  · split at ht
    · rename_i v hv
      obtain ⟨hl, rfl⟩ := tk_some ht
      obtain rfl : len = 3 := by simpa using hl
      have hw := inT_mem jT_ok (lk3_mem hv)
      exact w_c hX (fun k => W.ldc2 hx hb hown (hS.2.1 _ hw.1 hw.2 args) rfl hd k) q
    · cases ht
  · obtain ⟨hl, rfl⟩ := tk_some ht
    obtain rfl : len = 1 := by simpa using hl
    exact w_c hX (fun k => lv_lconst hx hb hd rfl k) q
  · obtain ⟨hl, rfl⟩ := tk_some ht
    obtain rfl : len = 1 := by simpa using hl
    exact w_c hX (fun k => lv_null hx hb hd k) q
  · obtain ⟨hl, rfl⟩ := tk_some ht
    simp only [Bool.and_eq_true, beq_iff_eq, decide_eq_true_eq] at hl
    obtain ⟨⟨rfl, rfl⟩, rfl⟩ := hl
    exact w_most hx hb hS hown hd hX q
  · obtain ⟨hl, rfl⟩ := tk_some ht
    simp only [Bool.and_eq_true, beq_iff_eq, decide_eq_true_eq] at hl
    obtain ⟨rfl, ha⟩ := hl
    exact w_iinc ha hX (fun z z2 k => lv_iinc hx hb hd z z2 rfl ha rfl k) q
  · obtain ⟨hl, rfl⟩ := tk_some ht
    obtain rfl : len = 1 := by simpa using hl
    exact w_bi hX (fun k => lv_iadd hx hb hd k) q
  · obtain ⟨hl, rfl⟩ := tk_some ht
    obtain rfl : len = 1 := by simpa using hl
    exact w_bi hX (fun k => lv_isub hx hb hd k) q
  · obtain ⟨hl, rfl⟩ := tk_some ht
    obtain rfl : len = 1 := by simpa using hl
    exact w_bi hX (fun k => lv_imul hx hb hd k) q
  · obtain ⟨hl, rfl⟩ := tk_some ht
    obtain rfl : len = 1 := by simpa using hl
    exact w_di hX (fun z k => lv_idiv hx hb hd z k) q
  · obtain ⟨hl, rfl⟩ := tk_some ht
    obtain rfl : len = 1 := by simpa using hl
    exact w_di hX (fun z k => lv_irem hx hb hd z k) q
  · obtain ⟨hl, rfl⟩ := tk_some ht
    obtain rfl : len = 1 := by simpa using hl
    exact w_ui hX (fun k => lv_ineg hx hb hd k) q
  · obtain ⟨hl, rfl⟩ := tk_some ht
    obtain rfl : len = 1 := by simpa using hl
    exact w_bi hX (fun k => lv_ishl hx hb hd k) q
  · obtain ⟨hl, rfl⟩ := tk_some ht
    obtain rfl : len = 1 := by simpa using hl
    exact w_bi hX (fun k => lv_ishr hx hb hd k) q
  · obtain ⟨hl, rfl⟩ := tk_some ht
    obtain rfl : len = 1 := by simpa using hl
    exact w_bi hX (fun k => lv_iushr hx hb hd rfl k) q
  · obtain ⟨hl, rfl⟩ := tk_some ht
    obtain rfl : len = 1 := by simpa using hl
    exact w_bi hX (fun k => lv_iand hx hb hd k) q
  · obtain ⟨hl, rfl⟩ := tk_some ht
    obtain rfl : len = 1 := by simpa using hl
    exact w_bi hX (fun k => lv_ior hx hb hd k) q
  · obtain ⟨hl, rfl⟩ := tk_some ht
    obtain rfl : len = 1 := by simpa using hl
    exact w_bi hX (fun k => lv_ixor hx hb hd k) q
  · obtain ⟨hl, rfl⟩ := tk_some ht
    obtain rfl : len = 1 := by simpa using hl
    exact w_bj hX (fun k => lv_ladd hx hb hd k) q
  · obtain ⟨hl, rfl⟩ := tk_some ht
    obtain rfl : len = 1 := by simpa using hl
    exact w_bj hX (fun k => lv_lsub hx hb hd k) q
  · obtain ⟨hl, rfl⟩ := tk_some ht
    obtain rfl : len = 1 := by simpa using hl
    exact w_bj hX (fun k => lv_lmul hx hb hd k) q
  · obtain ⟨hl, rfl⟩ := tk_some ht
    obtain rfl : len = 1 := by simpa using hl
    exact w_dj hX (fun z k => lv_ldiv hx hb hd z k) q
  · obtain ⟨hl, rfl⟩ := tk_some ht
    obtain rfl : len = 1 := by simpa using hl
    exact w_dj hX (fun z k => lv_lrem hx hb hd z k) q
  · obtain ⟨hl, rfl⟩ := tk_some ht
    obtain rfl : len = 1 := by simpa using hl
    exact w_sj hX (fun k => lv_lshl hx hb hd rfl k) q
  · obtain ⟨hl, rfl⟩ := tk_some ht
    obtain rfl : len = 1 := by simpa using hl
    exact w_sj hX (fun k => lv_lshr hx hb hd rfl k) q
  · obtain ⟨hl, rfl⟩ := tk_some ht
    obtain rfl : len = 1 := by simpa using hl
    exact w_bj hX (fun k => lv_land hx hb hd k) q
  · obtain ⟨hl, rfl⟩ := tk_some ht
    obtain rfl : len = 1 := by simpa using hl
    exact w_bj hX (fun k => lv_lor hx hb hd k) q
  · obtain ⟨hl, rfl⟩ := tk_some ht
    obtain rfl : len = 1 := by simpa using hl
    exact w_ij hX (fun k => lv_i2l hx hb hd rfl k) q
  · obtain ⟨hl, rfl⟩ := tk_some ht
    obtain rfl : len = 1 := by simpa using hl
    exact w_ji hX (fun k => lv_l2i hx hb hd rfl k) q
  · obtain ⟨hl, rfl⟩ := tk_some ht
    obtain rfl : len = 1 := by simpa using hl
    exact w_lcmp hX (fun k => W.lcmp hx hb hd (by rw [← lcmp_e]; exact k)) q
  · obtain ⟨hl, rfl⟩ := tk_some ht
    obtain rfl : len = 1 := by simpa using hl
    exact w_dup hX (fun k => lv_dup hx hb hd rfl k) (fun k => lv_dup hx hb hd rfl k) q
  · obtain ⟨hl, rfl⟩ := tk_some ht
    obtain rfl : len = 1 := by simpa using hl
    exact w_dup2 hX (fun k => lv_dup2_2 hx hb hd rfl k) (fun k => lv_dup2_11 hx hb hd rfl rfl k) q
  · obtain ⟨hl, rfl⟩ := tk_some ht
    obtain rfl : len = 1 := by simpa using hl
    exact w_pop hX (fun k => lv_pop hx hb hd rfl k) q
  · obtain ⟨hl, rfl⟩ := tk_some ht
    simp only [Bool.and_eq_true, beq_iff_eq, decide_eq_true_eq] at hl
    obtain ⟨rfl, ha⟩ := hl
    exact w_go hX (fun k => lv_goto hx hb hd (Int.toNat_of_nonneg ha).symm k) q
  · obtain ⟨hl, rfl⟩ := tk_some ht
    simp only [Bool.and_eq_true, beq_iff_eq, decide_eq_true_eq] at hl
    obtain ⟨rfl, ha⟩ := hl
    rename_i cnd off
    cases cnd
    · exact w_ci hX (fun kt kf => lv_icmp_eq hx hb hd (Int.toNat_of_nonneg ha).symm kt kf) q
    · exact w_ci hX (fun kt kf => lv_icmp_ne hx hb hd (Int.toNat_of_nonneg ha).symm kt (fun z => kf (fun z2 => z2 z))) q
    · exact w_ci hX (fun kt kf => lv_icmp_lt hx hb hd (Int.toNat_of_nonneg ha).symm kt kf) q
    · exact w_ci hX (fun kt kf => lv_icmp_ge hx hb hd (Int.toNat_of_nonneg ha).symm kt kf) q
    · exact w_ci hX (fun kt kf => lv_icmp_gt hx hb hd (Int.toNat_of_nonneg ha).symm kt kf) q
    · exact w_ci hX (fun kt kf => lv_icmp_le hx hb hd (Int.toNat_of_nonneg ha).symm kt kf) q
  · obtain ⟨hl, rfl⟩ := tk_some ht
    simp only [Bool.and_eq_true, beq_iff_eq, decide_eq_true_eq] at hl
    obtain ⟨rfl, ha⟩ := hl
    rename_i cnd off
    cases cnd
    · exact w_cz hX (fun kt kf => lv_if_eq hx hb hd (Int.toNat_of_nonneg ha).symm kt kf) q
    · exact w_cz hX (fun kt kf => lv_if_ne hx hb hd (Int.toNat_of_nonneg ha).symm kt (fun z => kf (fun z2 => z2 z))) q
    · exact w_cz hX (fun kt kf => lv_if_lt hx hb hd (Int.toNat_of_nonneg ha).symm kt kf) q
    · exact w_cz hX (fun kt kf => lv_if_ge hx hb hd (Int.toNat_of_nonneg ha).symm kt kf) q
    · exact w_cz hX (fun kt kf => lv_if_gt hx hb hd (Int.toNat_of_nonneg ha).symm kt kf) q
    · exact w_cz hX (fun kt kf => lv_if_le hx hb hd (Int.toNat_of_nonneg ha).symm kt kf) q
  · obtain ⟨hl, rfl⟩ := tk_some ht
    simp only [Bool.and_eq_true, beq_iff_eq, decide_eq_true_eq] at hl
    obtain ⟨rfl, ha⟩ := hl
    exact w_nn hX (fun k => lv_ifnonnull hx hb hd (Int.toNat_of_nonneg ha).symm k) (fun k => lv_ifnonnullN hx hb hd k) q
  · obtain ⟨hl, rfl⟩ := tk_some ht
    simp only [Bool.and_eq_true, beq_iff_eq, decide_eq_true_eq] at hl
    obtain ⟨rfl, ha⟩ := hl
    exact w_nl hX (fun k => lv_ifnull hx hb hd k) (fun k => lv_ifnullN hx hb hd (Int.toNat_of_nonneg ha).symm k) q
  · obtain ⟨hl, rfl⟩ := tk_some ht
    simp only [Bool.and_eq_true, decide_eq_true_eq, List.all_eq_true] at hl
    obtain ⟨⟨⟨h1, h2⟩, h3⟩, h4⟩ := hl
    exact w_tsw hx hb hd h1 h2 h3 (fun o ho => h4 o ho) hX q
  · split at ht
    · rename_i ci k n hf
      obtain ⟨hl, rfl⟩ := tk_some ht
      simp only [Bool.and_eq_true, beq_iff_eq, decide_eq_true_eq] at hl
      obtain ⟨⟨rfl, hc⟩, hk⟩ := hl
      rcases fty_3 ci k with e0 | e0 | e0
      · rw [e0] at q
        have q : s_gfi X (pc + 3) ci k st ls h := q
        unfold s_gfi at q; split at q
        · exact w_gf hx hb hS hown hf hc hk hd hX (v := fun h a => .int (hfi h a k)) (fun h a => by unfold fvl; rw [e0]; rfl) q.1 q.2
        · exact q.elim
      · rw [e0] at q
        have q : s_gfj X (pc + 3) ci k st ls h := q
        unfold s_gfj at q; split at q
        · exact w_gf hx hb hS hown hf hc hk hd hX (v := fun h a => .long (hfj h a k)) (fun h a => by unfold fvl; rw [e0]; rfl) q.1 q.2
        · exact q.elim
      · rw [e0] at q
        have q : s_gfr X (pc + 3) ci k st ls h := q
        unfold s_gfr at q; split at q
        · exact w_gf hx hb hS hown hf hc hk hd hX (v := fun h a => rfv (hfr h a k)) (fun h a => fvl_r _ _ _ _ _ e0) q.1 q.2
        · exact q.elim
    · cases ht
  · split at ht
    · rename_i ci k n hf
      obtain ⟨hl, rfl⟩ := tk_some ht
      simp only [Bool.and_eq_true, beq_iff_eq, decide_eq_true_eq, Bool.or_eq_true] at hl
      obtain ⟨⟨⟨⟨rfl, hc⟩, hk⟩, hfin⟩, hty⟩ := hl
      have hfin : (vwT ci k).2.2.2 = false ∨ (ini = true ∧ own = ci ∧ n = 0) := by
        rcases hfin with z | ⟨⟨z1, z2⟩, z3⟩
        · exact Or.inl z
        · exact Or.inr ⟨z1, z2, z3⟩
      by_cases hz : tyT ci k = .boolean
      · rw [if_pos hz] at q
        have q : s_pfz X (pc + 3) ci k st ls h := q
        unfold s_pfz at q; split at q
        · have e0 : fty ci k = 0 := by unfold fty; rw [hz]; rfl
          refine w_pf (h' := sFI h _ (up1 (hfi h _) k _)) hx hb hS hown hf hc hk hini hfin hd hX q.1.1 (by rw [hz]; exact nar_z q.1.2) (by rw [hz]; exact fit_z q.1.2) rfl rfl rfl (fun k e => ⟨up1_ne e, rfl, rfl, rfl, rfl, rfl⟩) (fun j hj => ?_) rfl rfl q.2
          exact fvl_wi e0
        · exact q.elim
      · rw [if_neg hz] at q
        rcases hty with ((hi | hi) | hi) | hi
        · have e0 : fty ci k = 0 := by unfold fty; rw [hi]; rfl
          rw [e0] at q
          have q : s_pfi X (pc + 3) ci k st ls h := q
          unfold s_pfi at q; split at q
          · refine w_pf (h' := sFI h _ (up1 (hfi h _) k _)) hx hb hS hown hf hc hk hini hfin hd hX q.1 (by rw [hi]; rfl) (by rw [hi]; rfl) rfl rfl rfl (fun k e => ⟨up1_ne e, rfl, rfl, rfl, rfl, rfl⟩) (fun j hj => ?_) rfl rfl q.2
            exact fvl_wi e0
          · exact q.elim
        · exact absurd hi hz
        · have e0 : fty ci k = 1 := by unfold fty; rw [hi]; rfl
          rw [e0] at q
          have q : s_pfj X (pc + 3) ci k st ls h := q
          unfold s_pfj at q; split at q
          · refine w_pf (h' := sFJ h _ (up1 (hfj h _) k _)) hx hb hS hown hf hc hk hini hfin hd hX q.1 (by rw [hi]; rfl) (by rw [hi]; rfl) rfl rfl rfl (fun k e => ⟨rfl, up1_ne e, rfl, rfl, rfl, rfl⟩) (fun j hj => ?_) rfl rfl q.2
            exact fvl_wj e0
          · exact q.elim
        · rw [hi] at q
          have q : s_pfr X (pc + 3) ci k st ls h := q
          unfold s_pfr at q; split at q
          · refine w_pf (h' := sFR h _ (up1 (hfr h _) k (some _))) hx hb hS hown hf hc hk hini hfin hd hX q.1 (nar_r hi _) (fit_r hi _) rfl rfl rfl (fun k e => ⟨rfl, rfl, up1_ne e, rfl, rfl, rfl⟩) (fun j hj => ?_) rfl rfl q.2
            exact fvl_wr hi
          · exact q.elim
    · cases ht
  · obtain ⟨hl, rfl⟩ := tk_some ht
    obtain rfl : len = 1 := by simpa using hl
    have q : s_iald X (pc + 1) 20 st ls h := q
    unfold s_iald at q; split at q
    · exact fun H locs cells slots lsR hs => x_iald hx hb hS hs.1 q.1.1 q.1.2 hd (hX _ _ _ _ q.2 H locs cells slots lsR hs)
    · exact q.elim
  · obtain ⟨hl, rfl⟩ := tk_some ht
    obtain rfl : len = 1 := by simpa using hl
    have q : s_iald X (pc + 1) 22 st ls h := q
    unfold s_iald at q; split at q
    · exact fun H locs cells slots lsR hs => x_zald hx hb hS hs.1 q.1.1 q.1.2 hd (hX _ _ _ _ q.2 H locs cells slots lsR hs)
    · exact q.elim
  · obtain ⟨hl, rfl⟩ := tk_some ht
    obtain rfl : len = 1 := by simpa using hl
    have q : s_jald X (pc + 1) st ls h := q
    unfold s_jald at q; split at q
    · exact fun H locs cells slots lsR hs => x_jald hx hb hS hs.1 q.1.1 q.1.2 hd (hX _ _ _ _ q.2 H locs cells slots lsR hs)
    · exact q.elim
  · obtain ⟨hl, rfl⟩ := tk_some ht
    obtain rfl : len = 1 := by simpa using hl
    have q : s_aald X (pc + 1) st ls h := q
    unfold s_aald at q; split at q
    · exact fun H locs cells slots lsR hs => x_aald hx hb hS hs.1 q.1.1 q.1.2 hd (hX _ _ _ _ q.2 H locs cells slots lsR hs)
    · exact q.elim
  · obtain ⟨hl, rfl⟩ := tk_some ht
    obtain rfl : len = 1 := by simpa using hl
    have q : s_iast X (pc + 1) st ls h := q
    unfold s_iast at q; split at q
    · exact fun H locs cells slots lsR hs => x_iast hx hb hS hs.1 q.1.1 q.1.2.1 q.1.2.2 hd (fun H' hR => hX _ _ _ _ q.2 H' _ _ _ lsR (hs.hn hR q.1.1 rfl rfl))
    · exact q.elim
  · obtain ⟨hl, rfl⟩ := tk_some ht
    obtain rfl : len = 1 := by simpa using hl
    have q : s_zast X (pc + 1) st ls h := q
    unfold s_zast at q; split at q
    · exact fun H locs cells slots lsR hs => x_zast hx hb hS hs.1 q.1.2.1 q.1.2.2.1 q.1.2.2.2 hd (fun H' hR => hX _ _ _ _ q.2 H' _ _ _ lsR (hs.hn hR q.1.1 rfl rfl))
    · exact q.elim
  · obtain ⟨hl, rfl⟩ := tk_some ht
    obtain rfl : len = 1 := by simpa using hl
    have q : s_jast X (pc + 1) st ls h := q
    unfold s_jast at q; split at q
    · exact fun H locs cells slots lsR hs => x_jast hx hb hS hs.1 q.1.2.1 q.1.2.2 hd (fun H' hR => hX _ _ _ _ q.2 H' _ _ _ lsR (hs.hn hR q.1.1 rfl rfl))
    · exact q.elim
  · obtain ⟨hl, rfl⟩ := tk_some ht
    obtain rfl : len = 1 := by simpa using hl
    have q : s_aast X (pc + 1) st ls h := q
    unfold s_aast at q; split at q
    · exact fun H locs cells slots lsR hs => x_aast hx hb hS hs.1 q.1.2.1 q.1.2.2.1 q.1.2.2.2 hd (fun H' hR => hX _ _ _ _ q.2 H' _ _ _ lsR (hs.hn hR q.1.1 rfl rfl))
    · exact fun H locs cells slots lsR hs => x_aastN hx hb hS hs.1 q.1.2.1 q.1.2.2 hd (fun H' hR => hX _ _ _ _ q.2 H' _ _ _ lsR (hs.hn hR q.1.1 rfl rfl))
    · exact q.elim
  · obtain ⟨hl, rfl⟩ := tk_some ht
    obtain rfl : len = 1 := by simpa using hl
    have q : s_alen X (pc + 1) st ls h := q
    unfold s_alen at q; split at q
    · exact fun H locs cells slots lsR hs => x_alen hx hb hS hs.1 q.1 hd (hX _ _ _ _ q.2 H locs cells slots lsR hs)
    · exact q.elim
  · obtain ⟨hl, rfl⟩ := tk_some ht
    obtain rfl : len = 2 := by simpa using hl
    have q : s_newa X (pc + 2) lm 20 st ls h := q
    unfold s_newa at q; split at q
    · exact fun H locs cells slots lsR hs => x_newa hx hb hS hs.1 (Or.inl ⟨rfl, rfl⟩) q.1.1 q.1.2.1 (rm1 hRc hs.2.2.1 q.1.2.2.1) (rm1 hRs hs.2.2.2.1 q.1.2.2.2) hd (fun H' hR => hX _ _ _ _ q.2 H' _ _ _ lsR (hs.mk hR rfl rfl q.1.2.2.1 q.1.2.2.2))
    · exact q.elim
  · obtain ⟨hl, rfl⟩ := tk_some ht
    obtain rfl : len = 2 := by simpa using hl
    have q : s_newa X (pc + 2) lm 21 st ls h := q
    unfold s_newa at q; split at q
    · exact fun H locs cells slots lsR hs => x_newa hx hb hS hs.1 (Or.inr (Or.inl ⟨rfl, rfl⟩)) q.1.1 q.1.2.1 (rm1 hRc hs.2.2.1 q.1.2.2.1) (rm1 hRs hs.2.2.2.1 q.1.2.2.2) hd (fun H' hR => hX _ _ _ _ q.2 H' _ _ _ lsR (hs.mk hR rfl rfl q.1.2.2.1 q.1.2.2.2))
    · exact q.elim
  · obtain ⟨hl, rfl⟩ := tk_some ht
    obtain rfl : len = 2 := by simpa using hl
    have q : s_newa X (pc + 2) lm 22 st ls h := q
    unfold s_newa at q; split at q
    · exact fun H locs cells slots lsR hs => x_newa hx hb hS hs.1 (Or.inr (Or.inr ⟨rfl, rfl⟩)) q.1.1 q.1.2.1 (rm1 hRc hs.2.2.1 q.1.2.2.1) (rm1 hRs hs.2.2.2.1 q.1.2.2.2) hd (fun H' hR => hX _ _ _ _ q.2 H' _ _ _ lsR (hs.mk hR rfl rfl q.1.2.2.1 q.1.2.2.2))
    · exact q.elim
  · split at ht
    · rename_i ci hf
      obtain ⟨hl, rfl⟩ := tk_some ht
      simp only [Bool.and_eq_true, beq_iff_eq, Bool.or_eq_true] at hl
      obtain ⟨rfl, hci⟩ := hl
      have hk3 : (ci = 2 ∧ (if ci = 2 then 23 else if ci = 3 then 24 else 25) = 23) ∨ (ci = 3 ∧ (if ci = 2 then 23 else if ci = 3 then 24 else 25) = 24) ∨ (ci = 6 ∧ (if ci = 2 then 23 else if ci = 3 then 24 else 25) = 25) := by
        rcases hci with (rfl | rfl) | rfl <;> decide
      generalize (if ci = 2 then 23 else if ci = 3 then 24 else 25) = kd at q hk3
      have q : s_newa X (pc + 3) lm kd st ls h := q
      unfold s_newa at q; split at q
      · exact fun H locs cells slots lsR hs => x_anew hx hb hS hown hf hk3 hs.1 q.1.1 q.1.2.1 (rm1 hRc hs.2.2.1 q.1.2.2.1) (rm1 hRs hs.2.2.2.1 q.1.2.2.2) hd (fun H' hR => hX _ _ _ _ q.2 H' _ _ _ lsR (hs.mk hR rfl rfl q.1.2.2.1 q.1.2.2.2))
      · exact q.elim
    · cases ht
  · split at ht
    · rename_i ci hf
      obtain ⟨hl, rfl⟩ := tk_some ht
      simp only [Bool.and_eq_true, beq_iff_eq, decide_eq_true_eq] at hl
      obtain ⟨rfl, hc⟩ := hl
      have q : s_new X (pc + 3) lm ci (vwN ci) st ls h := q
      exact fun H locs cells slots lsR hs => x_new hx hb hS hown hf hc hs.1 (rm1 hRc hs.2.2.1 q.1.1) (rm1 hRs hs.2.2.2.1 q.1.2) hd (fun H' hR => hX _ _ _ _ q.2 H' _ _ _ lsR (hs.mk hR rfl rfl q.1.1 q.1.2))
    · cases ht
  · split at ht
    · rename_i y n hf
      obtain ⟨hl, rfl⟩ := tk_some ht
      simp only [Bool.and_eq_true, beq_iff_eq, decide_eq_true_eq] at hl
      obtain ⟨⟨rfl, hy⟩, hkd⟩ := hl
      rcases crow_s (pc := pc) hkd with ⟨e1, e2, e3⟩ | e3
      · rw [e3] at q
        exact w_inv hx hb hml hS hown hRf hRl hRc hRs hG hf hy hkd hd hX (by rw [e1]; exact fun z => z) (by rw [e2]; exact fun z => z) q
      · rw [e3] at q
        have q : s_iva X (pc + 3) lm (mA y).1 (mA y).2 G y (mE y).2.2.2.2.2.2 st ls h := q
        exact w_inv hx hb hml hS hown hRf hRl hRc hRs hG hf hy hkd hd hX (fun _ => q.1.1) (fun _ => q.1.2) q.2
    · obtain ⟨hl, rfl⟩ := tk_some ht
      simp only [Bool.and_eq_true, beq_iff_eq] at hl
      obtain ⟨rfl, hf⟩ := hl
      have q : s_acp X (pc + 3) st ls h := q
      unfold s_acp at q; split at q
      · obtain ⟨⟨a1, a2, a3, a4, a5, a6, a7, a8, a9⟩, q⟩ := q
        exact fun H locs cells slots lsR hs => x_acp hx hb hml hs.2.2.2.2.2.2.1 hS hown hf hs.1 a1 a2 a3 a4 a5 a6 a7 a8 a9 (by clear hRl; omega) (acp_room hRl) hd (fun H' L' hL hR => hX _ _ _ _ q H' _ _ _ lsR (hs.cn (mc := 0) (ms := 0) hL hR rfl rfl hs.2.2.2.2.1.1 hs.2.2.2.2.1.2))
      · exact q.elim
  · split at ht
    · rename_i y n hf
      obtain ⟨hl, rfl⟩ := tk_some ht
      simp only [Bool.and_eq_true, beq_iff_eq, decide_eq_true_eq] at hl
      obtain ⟨⟨rfl, hy⟩, hkd⟩ := hl
      rcases crow_r (pc := pc) (y := y) (by rw [hkd]; decide) with ⟨e1, e2, e3⟩ | e3
      · rw [e3] at q
        exact w_inr hx hb hml hS hown hRf hRl hRc hRs hG hf hy hkd (Or.inl ⟨rfl, rfl⟩) hd hX (by rw [e1]; exact fun z => z) (by rw [e2]; exact fun z => z) q
      · rw [e3] at q
        have q : s_ira X (pc + 3) lm (mA y).1 (mA y).2 G y (mE y).2.2.2.2.2.2 (mE y).2.2.2.2.1 st ls h := q
        exact w_inr hx hb hml hS hown hRf hRl hRc hRs hG hf hy hkd (Or.inl ⟨rfl, rfl⟩) hd hX (fun _ => q.1.1) (fun _ => q.1.2) q.2
    · split at ht
      · rename_i hoi
        obtain ⟨hl, rfl⟩ := tk_some ht
        obtain rfl : len = 3 := by simpa using hl
        obtain ⟨rfl, rfl⟩ := hoi
        exact w_cln hx hb hml hS hown hRf hRl hRc hRs hd hX q
      · split at ht
        · rename_i hoi
          obtain ⟨hl, rfl⟩ := tk_some ht
          obtain rfl : len = 3 := by simpa using hl
          obtain ⟨rfl, rfl⟩ := hoi
          exact w_sln hRc hRs hx hb hml hS hown hRf hRl hd hX q
        · obtain ⟨hl, rfl⟩ := tk_some ht
          simp only [Bool.and_eq_true, beq_iff_eq] at hl
          obtain ⟨⟨rfl, rfl⟩, rfl⟩ := hl
          exact w_sch hRc hRs hx hb hml hS hown hRf hRl hd hX q
  · split at ht
    · rename_i y n hf
      obtain ⟨hl, rfl⟩ := tk_some ht
      simp only [Bool.and_eq_true, beq_iff_eq, decide_eq_true_eq] at hl
      obtain ⟨⟨rfl, hy⟩, hkd⟩ := hl
      rcases crow_r (pc := pc) (y := y) (by rw [hkd]; decide) with ⟨e1, e2, e3⟩ | e3
      · rw [e3] at q
        exact w_inr hx hb hml hS hown hRf hRl hRc hRs hG hf hy hkd (Or.inr ⟨rfl, rfl⟩) hd hX (by rw [e1]; exact fun z => z) (by rw [e2]; exact fun z => z) q
      · rw [e3] at q
        have q : s_ira X (pc + 3) lm (mA y).1 (mA y).2 G y (mE y).2.2.2.2.2.2 (mE y).2.2.2.2.1 st ls h := q
        exact w_inr hx hb hml hS hown hRf hRl hRc hRs hG hf hy hkd (Or.inr ⟨rfl, rfl⟩) hd hX (fun _ => q.1.1) (fun _ => q.1.2) q.2
    · obtain ⟨hl, rfl⟩ := tk_some ht
      simp only [Bool.and_eq_true, beq_iff_eq] at hl
      obtain ⟨rfl, hf⟩ := hl
      have q : s_oin X (pc + 3) st ls h := q
      unfold s_oin at q; split at q
      · exact fun H locs cells slots lsR hs => x_oin hx hb hml hs.2.2.2.2.2.2.1 hS hown hf hRf hRl hd (hX _ _ _ _ q H locs cells slots lsR hs)
      · exact q.elim
  · obtain ⟨hl, rfl⟩ := tk_some ht
    simp only [Bool.and_eq_true, beq_iff_eq, decide_eq_true_eq] at hl
    obtain ⟨⟨rfl, rfl⟩, rfl⟩ := hl
    exact w_chk hx hb hS hown hd hX q
  · obtain ⟨hl, rfl⟩ := tk_some ht
    simp only [Bool.and_eq_true, beq_iff_eq, Bool.or_eq_true] at hl
    obtain ⟨rfl, hz⟩ := hl
    have q : s_ret Rr rz st h := q
    unfold s_ret at q; split at q
    · exact fun H locs cells slots lsR hs => hI hz _ pc ls h H locs cells slots lsR q.1 hd hs q.2
    · exact q.elim
  · obtain ⟨hl, rfl⟩ := tk_some ht
    simp only [Bool.and_eq_true, beq_iff_eq, decide_eq_true_eq] at hl
    obtain ⟨rfl, hz⟩ := hl
    have q : s_jret Rr st h := q
    unfold s_jret at q; split at q
    · exact fun H locs cells slots lsR hs => hJ hz _ pc ls h H locs cells slots lsR hd hs q
    · exact q.elim
  · obtain ⟨hl, rfl⟩ := tk_some ht
    simp only [Bool.and_eq_true, beq_iff_eq, decide_eq_true_eq] at hl
    obtain ⟨rfl, hz⟩ := hl
    have q : s_aret Rr st h := q
    unfold s_aret at q; split at q
    · exact fun H locs cells slots lsR hs => hA hz _ pc ls h H locs cells slots lsR (Or.inr ⟨_, rfl⟩) hd hs q
    · exact fun H locs cells slots lsR hs => hA hz _ pc ls h H locs cells slots lsR (Or.inl rfl) hd hs q
    · exact q.elim
  · obtain ⟨hl, rfl⟩ := tk_some ht
    simp only [Bool.and_eq_true, beq_iff_eq, decide_eq_true_eq] at hl
    obtain ⟨rfl, hz⟩ := hl
    have q : s_vret Rr st h := q
    unfold s_vret at q; split at q
    · exact fun H locs cells slots lsR hs => hV hz pc ls h H locs cells slots lsR hd hs q
    · exact q.elim
  · cases ht
end Disp
