/-! ===== what no run changes; what kind of value a method answers (by program: gen_inv0.py) ===== -/
def I0 (L : Nat) (xs : Nat → Int32) (h : MH) : Prop := 274 ≤ hsz h ∧ hkd h 0 = 20 ∧ hln h 0 = L ∧ hia h 0 = xs ∧ hkd h 24 = 7 ∧ hkd h 273 = 8
section Keep
variable {L : Nat} {xs : Nat → Int32}
theorem I0_fi {h : MH} (a : Nat) (f : Nat → Int32) (i : I0 L xs h) : I0 L xs (sFI h a f) := i
theorem I0_fj {h : MH} (a : Nat) (f : Nat → Int64) (i : I0 L xs h) : I0 L xs (sFJ h a f) := i
theorem I0_fr {h : MH} (a : Nat) (f : Nat → Option Nat) (i : I0 L xs h) : I0 L xs (sFR h a f) := i
theorem I0_ja {h : MH} (a : Nat) (f : Nat → Int64) (i : I0 L xs h) : I0 L xs (sJA h a f) := i
theorem I0_ra {h : MH} (a : Nat) (f : Nat → Option Nat) (i : I0 L xs h) : I0 L xs (sRA h a f) := i
theorem I0_cc {h : MH} (c u : Nat) (i : I0 L xs h) : I0 L xs (sCC h c u) := i
theorem I0_ia {h : MH} (a : Nat) (f : Nat → Int32) (ha : 24 ≤ a) (i : I0 L xs h) : I0 L xs (sIA h a f) := by
  obtain ⟨i1, i2, i3, i4, i5, i6⟩ := i
  have e : hia (sIA h a f) = up1 (hia h) a f := rfl
  exact ⟨i1, i2, i3, by rw [e, up1_n _ _ (show 0 ≠ a by omega)]; exact i4, i5, i6⟩
theorem I0_new {h : MH} (kd n : Nat) (i : I0 L xs h) : I0 L xs (hnew h kd n) := by
  obtain ⟨i1, i2, i3, i4, i5, i6⟩ := i
  have e1 : hkd (hnew h kd n) = up1 (hkd h) (hsz h) kd := rfl
  have e2 : hln (hnew h kd n) = up1 (hln h) (hsz h) n := rfl
  have e3 : hia (hnew h kd n) = up1 (hia h) (hsz h) (fun _ => 0) := rfl
  have e4 : hsz (hnew h kd n) = hsz h + 1 := rfl
  exact ⟨by rw [e4]; omega, by rw [e1, up1_n _ _ (show 0 ≠ hsz h by omega)]; exact i2, by rw [e2, up1_n _ _ (show 0 ≠ hsz h by omega)]; exact i3, by rw [e3, up1_n _ _ (show 0 ≠ hsz h by omega)]; exact i4, by rw [e1, up1_n _ _ (show 24 ≠ hsz h by omega)]; exact i5, by rw [e1, up1_n _ _ (show 273 ≠ hsz h by omega)]; exact i6⟩
theorem s_ldi_z {X : KT} (nx a : Nat) {st : List Value} {ls : LT} {h : MH} (iH : I0 L xs h) (q : s_ldi (fun pc st ls h => I0 L xs h → X pc st ls h) nx a st ls h) : s_ldi X nx a st ls h := by
  revert q; unfold s_ldi; split <;> intro q <;> first | exact q iH | exact ⟨q.1, q.2 iH⟩ | exact q
theorem s_lda_z {X : KT} (nx a : Nat) {st : List Value} {ls : LT} {h : MH} (iH : I0 L xs h) (q : s_lda (fun pc st ls h => I0 L xs h → X pc st ls h) nx a st ls h) : s_lda X nx a st ls h := by
  revert q; unfold s_lda; split <;> intro q <;> first | exact q iH | exact ⟨q.1, q.2 iH⟩ | exact q
theorem s_ldj_z {X : KT} (nx a : Nat) {st : List Value} {ls : LT} {h : MH} (iH : I0 L xs h) (q : s_ldj (fun pc st ls h => I0 L xs h → X pc st ls h) nx a st ls h) : s_ldj X nx a st ls h := by
  revert q; unfold s_ldj; split <;> intro q <;> first | exact q iH | exact ⟨q.1, q.2 iH⟩ | exact q
theorem s_sti_z {X : KT} (nx a : Nat) {st : List Value} {ls : LT} {h : MH} (iH : I0 L xs h) (q : s_sti (fun pc st ls h => I0 L xs h → X pc st ls h) nx a st ls h) : s_sti X nx a st ls h := by
  revert q; unfold s_sti; split <;> intro q <;> first | exact q iH | exact ⟨q.1, q.2 iH⟩ | exact q
theorem s_sta_z {X : KT} (nx a : Nat) {st : List Value} {ls : LT} {h : MH} (iH : I0 L xs h) (q : s_sta (fun pc st ls h => I0 L xs h → X pc st ls h) nx a st ls h) : s_sta X nx a st ls h := by
  revert q; unfold s_sta; split <;> intro q <;> first | exact q iH | exact ⟨q.1, q.2 iH⟩ | exact q
theorem s_stj_z {X : KT} (nx a : Nat) {st : List Value} {ls : LT} {h : MH} (iH : I0 L xs h) (q : s_stj (fun pc st ls h => I0 L xs h → X pc st ls h) nx a st ls h) : s_stj X nx a st ls h := by
  revert q; unfold s_stj; split <;> intro q <;> first | exact q iH | exact ⟨q.1, q.2 iH⟩ | exact q
theorem s_iinc_z {X : KT} (nx a : Nat) (i : Int32) {st : List Value} {ls : LT} {h : MH} (iH : I0 L xs h) (q : s_iinc (fun pc st ls h => I0 L xs h → X pc st ls h) nx a i st ls h) : s_iinc X nx a i st ls h := by
  revert q; unfold s_iinc; split <;> intro q <;> first | exact q iH | exact ⟨q.1, q.2 iH⟩ | exact q
theorem s_bi_z {X : KT} (nx : Nat) (f : Int32 → Int32 → Int32) {st : List Value} {ls : LT} {h : MH} (iH : I0 L xs h) (q : s_bi (fun pc st ls h => I0 L xs h → X pc st ls h) nx f st ls h) : s_bi X nx f st ls h := by
  revert q; unfold s_bi; split <;> intro q <;> first | exact q iH | exact ⟨q.1, q.2 iH⟩ | exact q
theorem s_bj_z {X : KT} (nx : Nat) (f : Int64 → Int64 → Int64) {st : List Value} {ls : LT} {h : MH} (iH : I0 L xs h) (q : s_bj (fun pc st ls h => I0 L xs h → X pc st ls h) nx f st ls h) : s_bj X nx f st ls h := by
  revert q; unfold s_bj; split <;> intro q <;> first | exact q iH | exact ⟨q.1, q.2 iH⟩ | exact q
theorem s_di_z {X : KT} (nx : Nat) (f : Int32 → Int32 → Int32) {st : List Value} {ls : LT} {h : MH} (iH : I0 L xs h) (q : s_di (fun pc st ls h => I0 L xs h → X pc st ls h) nx f st ls h) : s_di X nx f st ls h := by
  revert q; unfold s_di; split <;> intro q <;> first | exact q iH | exact ⟨q.1, q.2 iH⟩ | exact q
theorem s_dj_z {X : KT} (nx : Nat) (f : Int64 → Int64 → Int64) {st : List Value} {ls : LT} {h : MH} (iH : I0 L xs h) (q : s_dj (fun pc st ls h => I0 L xs h → X pc st ls h) nx f st ls h) : s_dj X nx f st ls h := by
  revert q; unfold s_dj; split <;> intro q <;> first | exact q iH | exact ⟨q.1, q.2 iH⟩ | exact q
theorem s_ui_z {X : KT} (nx : Nat) (f : Int32 → Int32) {st : List Value} {ls : LT} {h : MH} (iH : I0 L xs h) (q : s_ui (fun pc st ls h => I0 L xs h → X pc st ls h) nx f st ls h) : s_ui X nx f st ls h := by
  revert q; unfold s_ui; split <;> intro q <;> first | exact q iH | exact ⟨q.1, q.2 iH⟩ | exact q
theorem s_ij_z {X : KT} (nx : Nat) (f : Int32 → Int64) {st : List Value} {ls : LT} {h : MH} (iH : I0 L xs h) (q : s_ij (fun pc st ls h => I0 L xs h → X pc st ls h) nx f st ls h) : s_ij X nx f st ls h := by
  revert q; unfold s_ij; split <;> intro q <;> first | exact q iH | exact ⟨q.1, q.2 iH⟩ | exact q
theorem s_ji_z {X : KT} (nx : Nat) (f : Int64 → Int32) {st : List Value} {ls : LT} {h : MH} (iH : I0 L xs h) (q : s_ji (fun pc st ls h => I0 L xs h → X pc st ls h) nx f st ls h) : s_ji X nx f st ls h := by
  revert q; unfold s_ji; split <;> intro q <;> first | exact q iH | exact ⟨q.1, q.2 iH⟩ | exact q
theorem s_sj_z {X : KT} (nx : Nat) (f : Int64 → Int32 → Int64) {st : List Value} {ls : LT} {h : MH} (iH : I0 L xs h) (q : s_sj (fun pc st ls h => I0 L xs h → X pc st ls h) nx f st ls h) : s_sj X nx f st ls h := by
  revert q; unfold s_sj; split <;> intro q <;> first | exact q iH | exact ⟨q.1, q.2 iH⟩ | exact q
theorem s_lcmp_z {X : KT} (nx : Nat) {st : List Value} {ls : LT} {h : MH} (iH : I0 L xs h) (q : s_lcmp (fun pc st ls h => I0 L xs h → X pc st ls h) nx st ls h) : s_lcmp X nx st ls h := by
  revert q; unfold s_lcmp; split <;> intro q <;> first | exact q iH | exact ⟨q.1, q.2 iH⟩ | exact q
theorem s_dup_z {X : KT} (nx : Nat) {st : List Value} {ls : LT} {h : MH} (iH : I0 L xs h) (q : s_dup (fun pc st ls h => I0 L xs h → X pc st ls h) nx st ls h) : s_dup X nx st ls h := by
  revert q; unfold s_dup; split <;> intro q <;> first | exact q iH | exact ⟨q.1, q.2 iH⟩ | exact q
theorem s_dup2_z {X : KT} (nx : Nat) {st : List Value} {ls : LT} {h : MH} (iH : I0 L xs h) (q : s_dup2 (fun pc st ls h => I0 L xs h → X pc st ls h) nx st ls h) : s_dup2 X nx st ls h := by
  revert q; unfold s_dup2; split <;> intro q <;> first | exact q iH | exact ⟨q.1, q.2 iH⟩ | exact q
theorem s_pop_z {X : KT} (nx : Nat) {st : List Value} {ls : LT} {h : MH} (iH : I0 L xs h) (q : s_pop (fun pc st ls h => I0 L xs h → X pc st ls h) nx st ls h) : s_pop X nx st ls h := by
  revert q; unfold s_pop; split <;> intro q <;> first | exact q iH | exact ⟨q.1, q.2 iH⟩ | exact q
theorem s_ci_z {X : KT} (nx t : Nat) (c : Int32 → Int32 → Prop) {st : List Value} {ls : LT} {h : MH} (iH : I0 L xs h) (q : s_ci (fun pc st ls h => I0 L xs h → X pc st ls h) nx t c st ls h) : s_ci X nx t c st ls h := by
  revert q; unfold s_ci; split <;> intro q <;> first | exact ⟨fun c => q.1 c iH, fun c => q.2 c iH⟩ | exact q
theorem s_cz_z {X : KT} (nx t : Nat) (c : Int32 → Prop) {st : List Value} {ls : LT} {h : MH} (iH : I0 L xs h) (q : s_cz (fun pc st ls h => I0 L xs h → X pc st ls h) nx t c st ls h) : s_cz X nx t c st ls h := by
  revert q; unfold s_cz; split <;> intro q <;> first | exact ⟨fun c => q.1 c iH, fun c => q.2 c iH⟩ | exact q
theorem s_nn_z {X : KT} (nx t : Nat) {st : List Value} {ls : LT} {h : MH} (iH : I0 L xs h) (q : s_nn (fun pc st ls h => I0 L xs h → X pc st ls h) nx t st ls h) : s_nn X nx t st ls h := by
  revert q; unfold s_nn; split <;> intro q <;> first | exact q iH | exact ⟨q.1, q.2 iH⟩ | exact q
theorem s_nl_z {X : KT} (nx t : Nat) {st : List Value} {ls : LT} {h : MH} (iH : I0 L xs h) (q : s_nl (fun pc st ls h => I0 L xs h → X pc st ls h) nx t st ls h) : s_nl X nx t st ls h := by
  revert q; unfold s_nl; split <;> intro q <;> first | exact q iH | exact ⟨q.1, q.2 iH⟩ | exact q
theorem s_tsw_z {X : KT} (nx : Nat) (lo : Int32) (t : List Nat) {st : List Value} {ls : LT} {h : MH} (iH : I0 L xs h) (q : s_tsw (fun pc st ls h => I0 L xs h → X pc st ls h) nx lo t st ls h) : s_tsw X nx lo t st ls h := by
  revert q; unfold s_tsw; split <;> intro q <;> first | exact ⟨fun c => q.1 c iH, fun k c e => q.2 k c e iH⟩ | exact q
theorem s_gfi_z {X : KT} (nx ci k : Nat) {st : List Value} {ls : LT} {h : MH} (iH : I0 L xs h) (q : s_gfi (fun pc st ls h => I0 L xs h → X pc st ls h) nx ci k st ls h) : s_gfi X nx ci k st ls h := by
  revert q; unfold s_gfi; split <;> intro q <;> first | exact q iH | exact ⟨q.1, q.2 iH⟩ | exact q
theorem s_gfj_z {X : KT} (nx ci k : Nat) {st : List Value} {ls : LT} {h : MH} (iH : I0 L xs h) (q : s_gfj (fun pc st ls h => I0 L xs h → X pc st ls h) nx ci k st ls h) : s_gfj X nx ci k st ls h := by
  revert q; unfold s_gfj; split <;> intro q <;> first | exact q iH | exact ⟨q.1, q.2 iH⟩ | exact q
theorem s_gfr_z {X : KT} (nx ci k : Nat) {st : List Value} {ls : LT} {h : MH} (iH : I0 L xs h) (q : s_gfr (fun pc st ls h => I0 L xs h → X pc st ls h) nx ci k st ls h) : s_gfr X nx ci k st ls h := by
  revert q; unfold s_gfr; split <;> intro q <;> first | exact q iH | exact ⟨q.1, q.2 iH⟩ | exact q
theorem s_pfi_z {X : KT} (nx ci k : Nat) {st : List Value} {ls : LT} {h : MH} (iH : I0 L xs h) (q : s_pfi (fun pc st ls h => I0 L xs h → X pc st ls h) nx ci k st ls h) : s_pfi X nx ci k st ls h := by
  revert q; unfold s_pfi; split <;> intro q <;> first | exact ⟨q.1, q.2 (I0_fi _ _ iH)⟩ | exact q
theorem s_pfz_z {X : KT} (nx ci k : Nat) {st : List Value} {ls : LT} {h : MH} (iH : I0 L xs h) (q : s_pfz (fun pc st ls h => I0 L xs h → X pc st ls h) nx ci k st ls h) : s_pfz X nx ci k st ls h := by
  revert q; unfold s_pfz; split <;> intro q <;> first | exact ⟨q.1, q.2 (I0_fi _ _ iH)⟩ | exact q
theorem s_pfj_z {X : KT} (nx ci k : Nat) {st : List Value} {ls : LT} {h : MH} (iH : I0 L xs h) (q : s_pfj (fun pc st ls h => I0 L xs h → X pc st ls h) nx ci k st ls h) : s_pfj X nx ci k st ls h := by
  revert q; unfold s_pfj; split <;> intro q <;> first | exact ⟨q.1, q.2 (I0_fj _ _ iH)⟩ | exact q
theorem s_pfr_z {X : KT} (nx ci k : Nat) {st : List Value} {ls : LT} {h : MH} (iH : I0 L xs h) (q : s_pfr (fun pc st ls h => I0 L xs h → X pc st ls h) nx ci k st ls h) : s_pfr X nx ci k st ls h := by
  revert q; unfold s_pfr; split <;> intro q <;> first | exact ⟨q.1, q.2 (I0_fr _ _ iH)⟩ | exact q
theorem s_iald_z {X : KT} (nx kd : Nat) {st : List Value} {ls : LT} {h : MH} (iH : I0 L xs h) (q : s_iald (fun pc st ls h => I0 L xs h → X pc st ls h) nx kd st ls h) : s_iald X nx kd st ls h := by
  revert q; unfold s_iald; split <;> intro q <;> first | exact q iH | exact ⟨q.1, q.2 iH⟩ | exact q
theorem s_jald_z {X : KT} (nx : Nat) {st : List Value} {ls : LT} {h : MH} (iH : I0 L xs h) (q : s_jald (fun pc st ls h => I0 L xs h → X pc st ls h) nx st ls h) : s_jald X nx st ls h := by
  revert q; unfold s_jald; split <;> intro q <;> first | exact q iH | exact ⟨q.1, q.2 iH⟩ | exact q
theorem s_aald_z {X : KT} (nx : Nat) {st : List Value} {ls : LT} {h : MH} (iH : I0 L xs h) (q : s_aald (fun pc st ls h => I0 L xs h → X pc st ls h) nx st ls h) : s_aald X nx st ls h := by
  revert q; unfold s_aald; split <;> intro q <;> first | exact q iH | exact ⟨q.1, q.2 iH⟩ | exact q
theorem s_iast_z {X : KT} (nx : Nat) {st : List Value} {ls : LT} {h : MH} (iH : I0 L xs h) (q : s_iast (fun pc st ls h => I0 L xs h → X pc st ls h) nx st ls h) : s_iast X nx st ls h := by
  revert q; unfold s_iast; split <;> intro q <;> first | exact ⟨q.1, q.2 (I0_ia _ _ q.1.1 iH)⟩ | exact q
theorem s_zast_z {X : KT} (nx : Nat) {st : List Value} {ls : LT} {h : MH} (iH : I0 L xs h) (q : s_zast (fun pc st ls h => I0 L xs h → X pc st ls h) nx st ls h) : s_zast X nx st ls h := by
  revert q; unfold s_zast; split <;> intro q <;> first | exact ⟨q.1, q.2 (I0_ia _ _ q.1.1 iH)⟩ | exact q
theorem s_jast_z {X : KT} (nx : Nat) {st : List Value} {ls : LT} {h : MH} (iH : I0 L xs h) (q : s_jast (fun pc st ls h => I0 L xs h → X pc st ls h) nx st ls h) : s_jast X nx st ls h := by
  revert q; unfold s_jast; split <;> intro q <;> first | exact ⟨q.1, q.2 (I0_ja _ _ iH)⟩ | exact q
theorem s_aast_z {X : KT} (nx : Nat) {st : List Value} {ls : LT} {h : MH} (iH : I0 L xs h) (q : s_aast (fun pc st ls h => I0 L xs h → X pc st ls h) nx st ls h) : s_aast X nx st ls h := by
  revert q; unfold s_aast; split <;> intro q <;> first | exact ⟨q.1, q.2 (I0_ra _ _ iH)⟩ | exact q
theorem s_alen_z {X : KT} (nx : Nat) {st : List Value} {ls : LT} {h : MH} (iH : I0 L xs h) (q : s_alen (fun pc st ls h => I0 L xs h → X pc st ls h) nx st ls h) : s_alen X nx st ls h := by
  revert q; unfold s_alen; split <;> intro q <;> first | exact q iH | exact ⟨q.1, q.2 iH⟩ | exact q
theorem s_oin_z {X : KT} (nx : Nat) {st : List Value} {ls : LT} {h : MH} (iH : I0 L xs h) (q : s_oin (fun pc st ls h => I0 L xs h → X pc st ls h) nx st ls h) : s_oin X nx st ls h := by
  revert q; unfold s_oin; split <;> intro q <;> first | exact q iH | exact ⟨q.1, q.2 iH⟩ | exact q
theorem s_acp_z {X : KT} (nx : Nat) {st : List Value} {ls : LT} {h : MH} (iH : I0 L xs h) (q : s_acp (fun pc st ls h => I0 L xs h → X pc st ls h) nx st ls h) : s_acp X nx st ls h := by
  revert q; unfold s_acp; split <;> intro q <;> first | exact ⟨q.1, q.2 (I0_ia _ _ q.1.2.1 iH)⟩ | exact q
theorem s_sln_z {X : KT} (nx : Nat) {st : List Value} {ls : LT} {h : MH} (iH : I0 L xs h) (q : s_sln (fun pc st ls h => I0 L xs h → X pc st ls h) nx st ls h) : s_sln X nx st ls h := by
  revert q; unfold s_sln; split <;> intro q <;> first | exact q iH | exact ⟨q.1, q.2 iH⟩ | exact q
theorem s_sch_z {X : KT} (nx : Nat) {st : List Value} {ls : LT} {h : MH} (iH : I0 L xs h) (q : s_sch (fun pc st ls h => I0 L xs h → X pc st ls h) nx st ls h) : s_sch X nx st ls h := by
  revert q; unfold s_sch; split <;> intro q <;> first | exact q iH | exact ⟨q.1, q.2 iH⟩ | exact q
theorem s_chk_z {X : KT} (nx : Nat) {st : List Value} {ls : LT} {h : MH} (iH : I0 L xs h) (q : s_chk (fun pc st ls h => I0 L xs h → X pc st ls h) nx st ls h) : s_chk X nx st ls h := by
  revert q; unfold s_chk; split <;> intro q <;> first | exact q iH | exact ⟨q.1, q.2 iH⟩ | exact q
theorem s_newa_z {X : KT} (nx : Nat) (lm : Nat × Nat) (kd : Nat) {st : List Value} {ls : LT} {h : MH} (iH : I0 L xs h) (q : s_newa (fun pc st ls h => I0 L xs h → X pc st ls h) nx lm kd st ls h) : s_newa X nx lm kd st ls h := by
  revert q; unfold s_newa; split <;> intro q <;> first | exact ⟨q.1, q.2 (I0_new _ _ iH)⟩ | exact q
theorem s_cln_z {X : KT} (nx : Nat) (lm : Nat × Nat) {st : List Value} {ls : LT} {h : MH} (iH : I0 L xs h) (q : s_cln (fun pc st ls h => I0 L xs h → X pc st ls h) nx lm st ls h) : s_cln X nx lm st ls h := by
  revert q; unfold s_cln; split <;> intro q <;> first | exact ⟨q.1, q.2 (I0_ia _ _ (Nat.le_trans (by decide) iH.1) (I0_new _ _ iH))⟩ | exact q
theorem s_new_z {X : KT} (nx : Nat) (lm : Nat × Nat) (ci n : Nat) {st : List Value} {ls : LT} {h : MH} (iH : I0 L xs h) (q : s_new (fun pc st ls h => I0 L xs h → X pc st ls h) nx lm ci n st ls h) : s_new X nx lm ci n st ls h := ⟨q.1, q.2 (I0_new _ _ iH)⟩
theorem s_inv_z {X : KT} {G : GT} (hG : Gmono G) (hI : ∀ y a h Q, I0 L xs h → G y a h Q → G y a h (fun r h' => I0 L xs h' ∧ Q r h')) (nx y n : Nat) {st : List Value} {ls : LT} {h : MH} (iH : I0 L xs h) (q : s_inv (fun pc st ls h => I0 L xs h → X pc st ls h) nx G y n st ls h) : s_inv X nx G y n st ls h := ⟨q.1, hG _ _ _ _ _ (fun _ _ z => z.2 z.1) (hI _ _ _ _ iH q.2)⟩
theorem s_inr_z {X : KT} {G : GT} (hG : Gmono G) (hI : ∀ y a h Q, I0 L xs h → G y a h Q → G y a h (fun r h' => I0 L xs h' ∧ Q r h')) (nx y n ci : Nat) {st : List Value} {ls : LT} {h : MH} (iH : I0 L xs h) (q : s_inr (fun pc st ls h => I0 L xs h → X pc st ls h) nx G y n ci st ls h) : s_inr X nx G y n ci st ls h := ⟨q.1, hG _ _ _ _ _ (fun _ _ z => z.2 z.1) (hI _ _ _ _ iH q.2)⟩
theorem s_ret_z {R : RT} (z : Nat) {st : List Value} {h : MH} (iH : I0 L xs h) (q : s_ret R z st h) : s_ret (fun r h => I0 L xs h ∧ R r h) z st h := by
  revert q; unfold s_ret; split <;> intro q <;> first | exact ⟨q.1, iH, q.2⟩ | exact q
theorem s_jret_z {R : RT} {st : List Value} {h : MH} (iH : I0 L xs h) (q : s_jret R st h) : s_jret (fun r h => I0 L xs h ∧ R r h) st h := by
  revert q; unfold s_jret; split <;> intro q <;> first | exact ⟨iH, q⟩ | exact q
theorem s_aret_z {R : RT} {st : List Value} {h : MH} (iH : I0 L xs h) (q : s_aret R st h) : s_aret (fun r h => I0 L xs h ∧ R r h) st h := by
  revert q; unfold s_aret; split <;> intro q <;> first | exact ⟨iH, q⟩ | exact q
theorem s_vret_z {R : RT} {st : List Value} {h : MH} (iH : I0 L xs h) (q : s_vret R st h) : s_vret (fun r h => I0 L xs h ∧ R r h) st h := by
  revert q; unfold s_vret; split <;> intro q <;> first | exact ⟨iH, q⟩ | exact q
theorem stp_z {X : KT} {R : RT} {G : GT} {lm : Nat × Nat} (hG : Gmono G) (hI : ∀ y a h Q, I0 L xs h → G y a h Q → G y a h (fun r h' => I0 L xs h' ∧ Q r h')) {r : PI} {st : List Value} {ls : LT} {h : MH} (iH : I0 L xs h) (q : stp G R lm r (fun pc st ls h => I0 L xs h → X pc st ls h) st ls h) : stp G (fun r h => I0 L xs h ∧ R r h) lm r X st ls h := by
  obtain ⟨op, nx, a, b, i, j, t⟩ := r
  unfold stp at *
  dsimp only at q ⊢
  split at q
  · exact s_ldi_z _ _ iH q
  · exact s_lda_z _ _ iH q
  · exact s_ldj_z _ _ iH q
  · exact s_sti_z _ _ iH q
  · exact s_sta_z _ _ iH q
  · exact s_stj_z _ _ iH q
  · exact q iH
  · exact q iH
  · exact q iH
  · exact q iH
  · exact s_iinc_z _ _ _ iH q
  · exact s_bi_z _ _ iH q
  · exact s_bi_z _ _ iH q
  · exact s_bi_z _ _ iH q
  · exact s_di_z _ _ iH q
  · exact s_di_z _ _ iH q
  · exact s_ui_z _ _ iH q
  · exact s_bi_z _ _ iH q
  · exact s_bi_z _ _ iH q
  · exact s_bi_z _ _ iH q
  · exact s_bi_z _ _ iH q
  · exact s_bi_z _ _ iH q
  · exact s_bi_z _ _ iH q
  · exact s_bj_z _ _ iH q
  · exact s_bj_z _ _ iH q
  · exact s_bj_z _ _ iH q
  · exact s_dj_z _ _ iH q
  · exact s_dj_z _ _ iH q
  · exact s_sj_z _ _ iH q
  · exact s_sj_z _ _ iH q
  · exact s_bj_z _ _ iH q
  · exact s_bj_z _ _ iH q
  · exact s_ij_z _ _ iH q
  · exact s_ji_z _ _ iH q
  · exact s_lcmp_z _ iH q
  · exact s_dup_z _ iH q
  · exact s_dup2_z _ iH q
  · exact s_pop_z _ iH q
  · exact q iH
  · exact s_ci_z _ _ _ iH q
  · exact s_ci_z _ _ _ iH q
  · exact s_ci_z _ _ _ iH q
  · exact s_ci_z _ _ _ iH q
  · exact s_ci_z _ _ _ iH q
  · exact s_ci_z _ _ _ iH q
  · exact s_cz_z _ _ _ iH q
  · exact s_cz_z _ _ _ iH q
  · exact s_cz_z _ _ _ iH q
  · exact s_cz_z _ _ _ iH q
  · exact s_cz_z _ _ _ iH q
  · exact s_cz_z _ _ _ iH q
  · exact s_nn_z _ _ iH q
  · exact s_nl_z _ _ iH q
  · exact s_tsw_z _ _ _ iH q
  · exact s_gfi_z _ _ _ iH q
  · exact s_gfj_z _ _ _ iH q
  · exact s_gfr_z _ _ _ iH q
  · exact s_pfi_z _ _ _ iH q
  · exact s_pfj_z _ _ _ iH q
  · exact s_pfr_z _ _ _ iH q
  · exact s_iald_z _ _ iH q
  · exact s_iald_z _ _ iH q
  · exact s_jald_z _ iH q
  · exact s_aald_z _ iH q
  · exact s_iast_z _ iH q
  · exact s_zast_z _ iH q
  · exact s_jast_z _ iH q
  · exact s_aast_z _ iH q
  · exact s_alen_z _ iH q
  · exact s_newa_z _ _ _ iH q
  · exact s_newa_z _ _ _ iH q
  · exact s_newa_z _ _ _ iH q
  · exact s_newa_z _ _ _ iH q
  · exact s_new_z _ _ _ _ iH q
  · exact s_inv_z hG hI _ _ _ iH q
  · exact s_oin_z _ iH q
  · exact s_acp_z _ iH q
  · exact s_sln_z _ iH q
  · exact s_sch_z _ iH q
  · exact s_ret_z _ iH q
  · exact s_jret_z iH q
  · exact s_aret_z iH q
  · exact s_vret_z iH q
  · exact s_pfz_z _ _ _ iH q
  · exact s_inr_z hG hI _ _ _ _ iH q
  · exact s_cln_z _ _ iH q
  · exact s_chk_z _ iH q
  · exact ⟨q.1, s_inv_z hG hI _ _ _ iH q.2⟩
  · exact ⟨q.1, s_inr_z hG hI _ _ _ _ iH q.2⟩
  · exact q
theorem WP_z {cd : Nat → Option PI} {G : GT} {R : RT} {lm : Nat × Nat} (hG : Gmono G) (hI : ∀ y a h Q, I0 L xs h → G y a h Q → G y a h (fun r h' => I0 L xs h' ∧ Q r h')) {pc : Nat} {st : List Value} {ls : LT} {h : MH} (iH : I0 L xs h) (q : WP cd G R lm pc st ls h) : WP cd G (fun r h => I0 L xs h ∧ R r h) lm pc st ls h := by
  intro X hX
  exact q (fun pc st ls h => I0 L xs h → X pc st ls h) (fun pc st ls h ⟨r, e, z⟩ iH => hX _ _ _ _ ⟨r, e, stp_z hG hI iH z⟩) iH
theorem cd_z : ∀ (d y : Nat) (a : List Value) (h : MH) (Q : RT), I0 L xs h → callD d y a h Q → callD d y a h (fun r h' => I0 L xs h' ∧ Q r h')
  | 0, _, _, _, _, _, q => q.elim
  | d + 1, y, args, h, Q, iH, q => by
    unfold callD at q ⊢
    split at q
    · split at q
      · rename_i hl
        rw [if_pos hl]
        exact WP_z (cm d) (cd_z d) iH q
      · exact q.elim
    · split at q
      · rename_i hl
        rw [if_pos hl]
        exact WP_m (cm d) (fun r h' z => ⟨I0_cc _ _ z.1, z.2⟩) (WP_z (cm d) (cd_z d) iH q)
      · exact q.elim
    · exact q
end Keep
section Typ
variable {T : Option Value → Prop}
def TyR (T : Option Value → Prop) (r : PI) : Prop := (r.1 = 81 → ∀ x, T (some (.int x))) ∧ (r.1 = 82 → ∀ x, T (some (.long x))) ∧ r.1 ≠ 83 ∧ r.1 ≠ 84
theorem s_ret_t {R : RT} (hT : ∀ x, T (some (.int x))) (z : Nat) {st : List Value} {h : MH} (q : s_ret R z st h) : s_ret (fun r h => T r ∧ R r h) z st h := by
  revert q; unfold s_ret; split <;> intro q <;> first | exact ⟨q.1, hT _, q.2⟩ | exact q
theorem s_jret_t {R : RT} (hT : ∀ x, T (some (.long x))) {st : List Value} {h : MH} (q : s_jret R st h) : s_jret (fun r h => T r ∧ R r h) st h := by
  revert q; unfold s_jret; split <;> intro q <;> first | exact ⟨hT _, q⟩ | exact q
theorem stp_t {X : KT} {R : RT} {G : GT} {lm : Nat × Nat} {r : PI} (hr : TyR T r) {st : List Value} {ls : LT} {h : MH} (q : stp G R lm r X st ls h) : stp G (fun r h => T r ∧ R r h) lm r X st ls h := by
  obtain ⟨op, nx, a, b, i, j, t⟩ := r
  obtain ⟨t1, t2, t3, t4⟩ := hr
  unfold stp at *
  dsimp only at q t1 t2 t3 t4 ⊢
  split at q
  · exact q
  · exact q
  · exact q
  · exact q
  · exact q
  · exact q
  · exact q
  · exact q
  · exact q
  · exact q
  · exact q
  · exact q
  · exact q
  · exact q
  · exact q
  · exact q
  · exact q
  · exact q
  · exact q
  · exact q
  · exact q
  · exact q
  · exact q
  · exact q
  · exact q
  · exact q
  · exact q
  · exact q
  · exact q
  · exact q
  · exact q
  · exact q
  · exact q
  · exact q
  · exact q
  · exact q
  · exact q
  · exact q
  · exact q
  · exact q
  · exact q
  · exact q
  · exact q
  · exact q
  · exact q
  · exact q
  · exact q
  · exact q
  · exact q
  · exact q
  · exact q
  · exact q
  · exact q
  · exact q
  · exact q
  · exact q
  · exact q
  · exact q
  · exact q
  · exact q
  · exact q
  · exact q
  · exact q
  · exact q
  · exact q
  · exact q
  · exact q
  · exact q
  · exact q
  · exact q
  · exact q
  · exact q
  · exact q
  · exact q
  · exact q
  · exact q
  · exact q
  · exact q
  · exact q
  · exact s_ret_t (t1 rfl) _ q
  · exact s_jret_t (t2 rfl) q
  · exact absurd rfl t3
  · exact absurd rfl t4
  · exact q
  · exact q
  · exact q
  · exact q
  · exact q
  · exact q
  · exact q
theorem WP_t {cd : Nat → Option PI} {G : GT} {R : RT} {lm : Nat × Nat} (hc : ∀ pc r, cd pc = some r → TyR T r) {pc : Nat} {st : List Value} {ls : LT} {h : MH} (q : WP cd G R lm pc st ls h) : WP cd G (fun r h => T r ∧ R r h) lm pc st ls h := by
  intro X hX
  exact q X (fun pc st ls h ⟨r, e, z⟩ => hX _ _ _ _ ⟨r, e, stp_t (hc pc r e) z⟩)
theorem cd_0 {y : Nat} {cd : Nat → Option PI} {ml : Nat} (e : mtb[y]? = some (cd, ml, 0, 0)) (d : Nat) (args : List Value) (h : MH) (Q : RT) : callD (d + 1) y args h Q = if (argL args).length ≤ ml then WP cd (callD d) Q (hcc h, hcu h) 0 [] (padL (argL args) ml) h else False := by
  conv => lhs; unfold callD; rw [e]
  try rfl
theorem cd_1 {y : Nat} {cd : Nat → Option PI} {ml mc ms : Nat} (e : mtb[y]? = some (cd, ml, mc + 1, ms)) (d : Nat) (args : List Value) (h : MH) (Q : RT) : callD (d + 1) y args h Q = if (argL args).length ≤ ml then WP cd (callD d) (fun r h' => Q r (sCC h' (hcc h + (mc + 1)) (hcu h + ms))) (hcc h + (mc + 1), hcu h + ms) 0 [] (padL (argL args) ml) h else False := by
  conv => lhs; unfold callD; rw [e]
  try rfl
theorem cd_t0 {y : Nat} {cd : Nat → Option PI} {ml : Nat} (e : mtb[y]? = some (cd, ml, 0, 0)) (hc : ∀ pc r, cd pc = some r → TyR T r) (d : Nat) (args : List Value) (h : MH) (Q : RT) (q : callD (d + 1) y args h Q) : callD (d + 1) y args h (fun r h' => T r ∧ Q r h') := by
  rw [cd_0 e] at q ⊢
  by_cases c : (argL args).length ≤ ml
  · rw [if_pos c] at q ⊢
    exact WP_t hc q
  · rw [if_neg c] at q
    exact q.elim
theorem cd_t1 {y : Nat} {cd : Nat → Option PI} {ml mc ms : Nat} (e : mtb[y]? = some (cd, ml, mc + 1, ms)) (hc : ∀ pc r, cd pc = some r → TyR T r) (d : Nat) (args : List Value) (h : MH) (Q : RT) (q : callD (d + 1) y args h Q) : callD (d + 1) y args h (fun r h' => T r ∧ Q r h') := by
  rw [cd_1 e] at q ⊢
  by_cases c : (argL args).length ≤ ml
  · rw [if_pos c] at q ⊢
    exact WP_t hc q
  · rw [if_neg c] at q
    exact q.elim
end Typ
def tyI (l : List (Nat × PI)) : Bool := l.all (fun e => decide (e.2.1 ≠ 82 ∧ e.2.1 ≠ 83 ∧ e.2.1 ≠ 84))
def tyJ (l : List (Nat × PI)) : Bool := l.all (fun e => decide (e.2.1 ≠ 81 ∧ e.2.1 ≠ 83 ∧ e.2.1 ≠ 84))
def isI (r : Option Value) : Prop := ∃ x, r = some (.int x)
def isJ (r : Option Value) : Prop := ∃ x, r = some (.long x)
theorem tyI_ok {l : List (Nat × PI)} (h : tyI l = true) : ∀ pc r, rws l pc = some r → TyR isI r := fun pc r e => by
  have h1 := of_decide_eq_true (List.all_eq_true.mp h _ (rws_mem e))
  exact ⟨fun _ x => ⟨x, rfl⟩, fun z => absurd z h1.1, h1.2.1, h1.2.2⟩
theorem tyJ_ok {l : List (Nat × PI)} (h : tyJ l = true) : ∀ pc r, rws l pc = some r → TyR isJ r := fun pc r e => by
  have h1 := of_decide_eq_true (List.all_eq_true.mp h _ (rws_mem e))
  exact ⟨fun z => absurd z h1.1, fun _ x => ⟨x, rfl⟩, h1.2.1, h1.2.2⟩
