/-! ===== the rows are the bytes' own (by program: wip/whole/gen_mok.py) ===== -/
def MOK (a : (Nat → Option PI) × Nat × Nat × Nat) (b : MethodName × ByteArray × Nat × Option FieldType × Nat × Nat × Nat) : Prop := a.2.1 = b.2.2.1 ∧ ∀ pc r, a.1 pc = some r → RowOK b.2.2.2.2.1 b.2.1 b.2.2.1 (b.2.2.2.2.2.1 == 2) (rzT b.2.2.2.1) pc r
def All2 {α β : Type} (P : α → β → Prop) : List α → List β → Prop
  | [], [] => True
  | a :: l, b :: m => P a b ∧ All2 P l m
  | _, _ => False
theorem All2.get {α β : Type} {P : α → β → Prop} : ∀ {l : List α} {m : List β} {i : Nat} {a : α}, All2 P l m → l[i]? = some a → ∃ b, m[i]? = some b ∧ P a b
  | [], _, _, _, _, h => by simp at h
  | _ :: _, [], _, _, h, _ => h.elim
  | a :: l, b :: m, 0, x, h, e => by
    cases e
    exact ⟨b, rfl, h.1⟩
  | a :: l, b :: m, i + 1, x, h, e => by
    exact All2.get (l := l) (m := m) (i := i) h.2 e
set_option maxRecDepth 100000 in
theorem ok_Hi_init : MOK (cd_Hi_init, 2, 172, 9775) (⟨"DiffusingRoutes$History", "<init>", "()V"⟩, prog_2_method_1_code, 2, none, 0, 2, 0) := ⟨rfl, fun _ _ hr => chk_ok (l := rw_Hi_init) (by decide +kernel) hr⟩
set_option maxRecDepth 100000 in
theorem ok_Hi_prepares : MOK (cd_Hi_prepares, 2, 0, 0) (⟨"DiffusingRoutes$History", "prepares", "(LDiffusingRoutes$Net;)V"⟩, prog_2_method_2_code, 2, none, 0, 1, 1) := ⟨rfl, fun _ _ hr => chk_ok (l := rw_Hi_prepares) (by decide +kernel) hr⟩
set_option maxRecDepth 100000 in
theorem ok_Hi_putsBack : MOK (cd_Hi_putsBack, 2, 0, 0) (⟨"DiffusingRoutes$History", "putsBack", "(LDiffusingRoutes$Net;)V"⟩, prog_2_method_3_code, 2, none, 0, 1, 1) := ⟨rfl, fun _ _ hr => chk_ok (l := rw_Hi_putsBack) (by decide +kernel) hr⟩
set_option maxRecDepth 100000 in
theorem ok_Hi_keeps : MOK (cd_Hi_keeps, 2, 0, 0) (⟨"DiffusingRoutes$History", "keeps", "(I)V"⟩, prog_2_method_4_code, 2, none, 0, 1, 1) := ⟨rfl, fun _ _ hr => chk_ok (l := rw_Hi_keeps) (by decide +kernel) hr⟩
set_option maxRecDepth 100000 in
theorem ok_Hi_takesBack : MOK (cd_Hi_takesBack, 2, 0, 0) (⟨"DiffusingRoutes$History", "takesBack", "(LDiffusingRoutes$Net;)I"⟩, prog_2_method_5_code, 2, (some .int), 0, 1, 1) := ⟨rfl, fun _ _ hr => chk_ok (l := rw_Hi_takesBack) (by decide +kernel) hr⟩
set_option maxRecDepth 100000 in
theorem ok_Hi_clears : MOK (cd_Hi_clears, 1, 0, 0) (⟨"DiffusingRoutes$History", "clears", "()V"⟩, prog_2_method_6_code, 1, none, 0, 1, 0) := ⟨rfl, fun _ _ hr => chk_ok (l := rw_Hi_clears) (by decide +kernel) hr⟩
set_option maxRecDepth 100000 in
theorem ok_Ju_init : MOK (cd_Ju_init, 1, 2, 87) (⟨"DiffusingRoutes$Judge", "<init>", "()V"⟩, prog_3_method_1_code, 1, none, 1, 2, 0) := ⟨rfl, fun _ _ hr => chk_ok (l := rw_Ju_init) (by decide +kernel) hr⟩
set_option maxRecDepth 100000 in
theorem ok_Ju_looksAt : MOK (cd_Ju_looksAt, 3, 0, 0) (⟨"DiffusingRoutes$Judge", "looksAt", "(LDiffusingRoutes$Net;I)V"⟩, prog_3_method_2_code, 3, none, 1, 1, 2) := ⟨rfl, fun _ _ hr => chk_ok (l := rw_Ju_looksAt) (by decide +kernel) hr⟩
set_option maxRecDepth 100000 in
theorem ok_Ju_looksAtRun : MOK (cd_Ju_looksAtRun, 5, 0, 0) (⟨"DiffusingRoutes$Judge", "looksAtRun", "(LDiffusingRoutes$Net;II)V"⟩, prog_3_method_3_code, 5, none, 1, 1, 3) := ⟨rfl, fun _ _ hr => chk_ok (l := rw_Ju_looksAtRun) (chk_cut 40 (by decide +kernel) (by decide +kernel)) hr⟩
set_option maxRecDepth 100000 in
theorem ok_Ju_looksAtChange : MOK (cd_Ju_looksAtChange, 5, 0, 0) (⟨"DiffusingRoutes$Judge", "looksAtChange", "(IIII)V"⟩, prog_3_method_4_code, 5, none, 1, 1, 4) := ⟨rfl, fun _ _ hr => chk_ok (l := rw_Ju_looksAtChange) (by decide +kernel) hr⟩
set_option maxRecDepth 100000 in
theorem ok_Ju_first : MOK (cd_Ju_first, 13, 0, 0) (⟨"DiffusingRoutes$Judge", "first", "(LDiffusingRoutes$Net;LDiffusingRoutes$Program;I)I"⟩, prog_3_method_5_code, 13, (some .int), 1, 1, 3) := ⟨rfl, fun _ _ hr => chk_ok (l := rw_Ju_first) (chk_cut 40 (by decide +kernel) (by decide +kernel)) hr⟩
set_option maxRecDepth 100000 in
theorem ok_Ju_rank : MOK (cd_Ju_rank, 5, 0, 0) (⟨"DiffusingRoutes$Judge", "rank", "(LDiffusingRoutes$Program;I)I"⟩, prog_3_method_6_code, 5, (some .int), 1, 1, 2) := ⟨rfl, fun _ _ hr => chk_ok (l := rw_Ju_rank) (chk_cut 40 (by decide +kernel) (by decide +kernel)) hr⟩
set_option maxRecDepth 100000 in
theorem ok_Ju_bars : MOK (cd_Ju_bars, 6, 0, 0) (⟨"DiffusingRoutes$Judge", "bars", "(LDiffusingRoutes$Program;III)Z"⟩, prog_3_method_7_code, 6, (some .boolean), 1, 1, 4) := ⟨rfl, fun _ _ hr => chk_ok (l := rw_Ju_bars) (by decide +kernel) hr⟩
set_option maxRecDepth 100000 in
theorem ok_Ju_tellsSums : MOK (cd_Ju_tellsSums, 6, 0, 0) (⟨"DiffusingRoutes$Judge", "tellsSums", "(LDiffusingRoutes$Program;I[I)Z"⟩, prog_3_method_8_code, 6, (some .boolean), 1, 1, 3) := ⟨rfl, fun _ _ hr => chk_ok (l := rw_Ju_tellsSums) (by decide +kernel) hr⟩
set_option maxRecDepth 100000 in
theorem ok_Ju_value : MOK (cd_Ju_value, 9, 0, 0) (⟨"DiffusingRoutes$Judge", "value", "(LDiffusingRoutes$Program;I)I"⟩, prog_3_method_9_code, 9, (some .int), 1, 1, 2) := ⟨rfl, fun _ _ hr => chk_ok (l := rw_Ju_value) (chk_cut 40 (by decide +kernel) (chk_cut 40 (by decide +kernel) (chk_cut 40 (by decide +kernel) (chk_cut 40 (by decide +kernel) (by decide +kernel))))) hr⟩
set_option maxRecDepth 100000 in
theorem ok_Ju_joins : MOK (cd_Ju_joins, 5, 0, 0) (⟨"DiffusingRoutes$Judge", "joins", "(III)I"⟩, prog_3_method_10_code, 5, (some .int), 1, 0, 3) := ⟨rfl, fun _ _ hr => chk_ok (l := rw_Ju_joins) (chk_cut 40 (by decide +kernel) (by decide +kernel)) hr⟩
set_option maxRecDepth 100000 in
theorem ok_Ne_init : MOK (cd_Ne_init, 1, 9, 560) (⟨"DiffusingRoutes$Net", "<init>", "()V"⟩, prog_4_method_1_code, 1, none, 2, 2, 0) := ⟨rfl, fun _ _ hr => chk_ok (l := rw_Ne_init) (chk_cut 40 (by decide +kernel) (by decide +kernel)) hr⟩
set_option maxRecDepth 100000 in
theorem ok_Ne_copies : MOK (cd_Ne_copies, 2, 0, 0) (⟨"DiffusingRoutes$Net", "copies", "(LDiffusingRoutes$Net;)V"⟩, prog_4_method_2_code, 2, none, 2, 1, 1) := ⟨rfl, fun _ _ hr => chk_ok (l := rw_Ne_copies) (chk_cut 40 (by decide +kernel) (chk_cut 40 (by decide +kernel) (by decide +kernel))) hr⟩
set_option maxRecDepth 100000 in
theorem ok_Ne_kindOf : MOK (cd_Ne_kindOf, 1, 0, 0) (⟨"DiffusingRoutes$Net", "kindOf", "(I)I"⟩, prog_4_method_3_code, 1, (some .int), 2, 0, 1) := ⟨rfl, fun _ _ hr => chk_ok (l := rw_Ne_kindOf) (by decide +kernel) hr⟩
set_option maxRecDepth 100000 in
theorem ok_Ne_fromOf : MOK (cd_Ne_fromOf, 1, 0, 0) (⟨"DiffusingRoutes$Net", "fromOf", "(I)I"⟩, prog_4_method_4_code, 1, (some .int), 2, 0, 1) := ⟨rfl, fun _ _ hr => chk_ok (l := rw_Ne_fromOf) (by decide +kernel) hr⟩
set_option maxRecDepth 100000 in
theorem ok_Ne_toOf : MOK (cd_Ne_toOf, 1, 0, 0) (⟨"DiffusingRoutes$Net", "toOf", "(I)I"⟩, prog_4_method_5_code, 1, (some .int), 2, 0, 1) := ⟨rfl, fun _ _ hr => chk_ok (l := rw_Ne_toOf) (by decide +kernel) hr⟩
set_option maxRecDepth 100000 in
theorem ok_Ne_distanceOf : MOK (cd_Ne_distanceOf, 1, 0, 0) (⟨"DiffusingRoutes$Net", "distanceOf", "(I)I"⟩, prog_4_method_6_code, 1, (some .int), 2, 0, 1) := ⟨rfl, fun _ _ hr => chk_ok (l := rw_Ne_distanceOf) (by decide +kernel) hr⟩
set_option maxRecDepth 100000 in
theorem ok_Ne_linkCount : MOK (cd_Ne_linkCount, 3, 0, 0) (⟨"DiffusingRoutes$Net", "linkCount", "()I"⟩, prog_4_method_7_code, 3, (some .int), 2, 1, 0) := ⟨rfl, fun _ _ hr => chk_ok (l := rw_Ne_linkCount) (by decide +kernel) hr⟩
set_option maxRecDepth 100000 in
theorem ok_Ne_waitOn : MOK (cd_Ne_waitOn, 5, 0, 0) (⟨"DiffusingRoutes$Net", "waitOn", "(II)I"⟩, prog_4_method_8_code, 5, (some .int), 2, 1, 2) := ⟨rfl, fun _ _ hr => chk_ok (l := rw_Ne_waitOn) (by decide +kernel) hr⟩
set_option maxRecDepth 100000 in
theorem ok_Ne_fact : MOK (cd_Ne_fact, 3, 0, 0) (⟨"DiffusingRoutes$Net", "fact", "(II)I"⟩, prog_4_method_9_code, 3, (some .int), 2, 1, 2) := ⟨rfl, fun _ _ hr => chk_ok (l := rw_Ne_fact) (by decide +kernel) hr⟩
set_option maxRecDepth 100000 in
theorem ok_Ne_by : MOK (cd_Ne_by, 4, 0, 0) (⟨"DiffusingRoutes$Net", "by", "(II)I"⟩, prog_4_method_10_code, 4, (some .int), 2, 1, 2) := ⟨rfl, fun _ _ hr => chk_ok (l := rw_Ne_by) (by decide +kernel) hr⟩
set_option maxRecDepth 100000 in
theorem ok_Ne_leastBy : MOK (cd_Ne_leastBy, 4, 0, 0) (⟨"DiffusingRoutes$Net", "leastBy", "(I)I"⟩, prog_4_method_11_code, 4, (some .int), 2, 1, 1) := ⟨rfl, fun _ _ hr => chk_ok (l := rw_Ne_leastBy) (by decide +kernel) hr⟩
set_option maxRecDepth 100000 in
theorem ok_Ne_feasible : MOK (cd_Ne_feasible, 5, 0, 0) (⟨"DiffusingRoutes$Net", "feasible", "(I)I"⟩, prog_4_method_12_code, 5, (some .int), 2, 1, 1) := ⟨rfl, fun _ _ hr => chk_ok (l := rw_Ne_feasible) (chk_cut 40 (by decide +kernel) (by decide +kernel)) hr⟩
set_option maxRecDepth 100000 in
theorem ok_Ne_sends : MOK (cd_Ne_sends, 5, 0, 0) (⟨"DiffusingRoutes$Net", "sends", "(III)V"⟩, prog_4_method_13_code, 5, none, 2, 1, 3) := ⟨rfl, fun _ _ hr => chk_ok (l := rw_Ne_sends) (chk_cut 40 (by decide +kernel) (by decide +kernel)) hr⟩
set_option maxRecDepth 100000 in
theorem ok_Ne_relinks : MOK (cd_Ne_relinks, 5, 0, 0) (⟨"DiffusingRoutes$Net", "relinks", "(III)I"⟩, prog_4_method_14_code, 5, (some .int), 2, 1, 3) := ⟨rfl, fun _ _ hr => chk_ok (l := rw_Ne_relinks) (chk_cut 40 (by decide +kernel) (chk_cut 40 (by decide +kernel) (by decide +kernel))) hr⟩
