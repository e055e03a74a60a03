/-! ===== the rows are the bytes' own (by program: wip/whole/gen_mok.py) ===== -/
set_option maxRecDepth 100000 in
theorem ok_Ne_losesMessages : MOK (cd_Ne_losesMessages, 8, 0, 0) (⟨"DiffusingRoutes$Net", "losesMessages", "(II)V"⟩, prog_4_method_15_code, 8, none, 2, 1, 2) := ⟨rfl, fun _ _ hr => chk_ok (l := rw_Ne_losesMessages) (chk_cut 40 (by decide +kernel) (by decide +kernel)) hr⟩
set_option maxRecDepth 100000 in
theorem ok_Ne_takesChange : MOK (cd_Ne_takesChange, 3, 0, 0) (⟨"DiffusingRoutes$Net", "takesChange", "(II)V"⟩, prog_4_method_16_code, 3, none, 2, 1, 2) := ⟨rfl, fun _ _ hr => chk_ok (l := rw_Ne_takesChange) (chk_cut 40 (by decide +kernel) (by decide +kernel)) hr⟩
set_option maxRecDepth 100000 in
theorem ok_Ne_looksAtSuccessor : MOK (cd_Ne_looksAtSuccessor, 3, 0, 0) (⟨"DiffusingRoutes$Net", "looksAtSuccessor", "(II)V"⟩, prog_4_method_17_code, 3, none, 2, 1, 2) := ⟨rfl, fun _ _ hr => chk_ok (l := rw_Ne_looksAtSuccessor) (by decide +kernel) hr⟩
set_option maxRecDepth 100000 in
theorem ok_Ne_delivers : MOK (cd_Ne_delivers, 6, 0, 0) (⟨"DiffusingRoutes$Net", "delivers", "(I)I"⟩, prog_4_method_18_code, 6, (some .int), 2, 1, 1) := ⟨rfl, fun _ _ hr => chk_ok (l := rw_Ne_delivers) (chk_cut 40 (by decide +kernel) (chk_cut 40 (by decide +kernel) (by decide +kernel))) hr⟩
set_option maxRecDepth 100000 in
theorem ok_Ne_hears : MOK (cd_Ne_hears, 4, 0, 0) (⟨"DiffusingRoutes$Net", "hears", "(III)V"⟩, prog_4_method_19_code, 4, none, 2, 1, 3) := ⟨rfl, fun _ _ hr => chk_ok (l := rw_Ne_hears) (chk_cut 40 (by decide +kernel) (by decide +kernel)) hr⟩
set_option maxRecDepth 100000 in
theorem ok_Ne_cuts : MOK (cd_Ne_cuts, 4, 0, 0) (⟨"DiffusingRoutes$Net", "cuts", "(I)I"⟩, prog_4_method_20_code, 4, (some .int), 2, 1, 1) := ⟨rfl, fun _ _ hr => chk_ok (l := rw_Ne_cuts) (chk_cut 40 (by decide +kernel) (by decide +kernel)) hr⟩
set_option maxRecDepth 100000 in
theorem ok_Ne_decides : MOK (cd_Ne_decides, 4, 0, 0) (⟨"DiffusingRoutes$Net", "decides", "(II)V"⟩, prog_4_method_21_code, 4, none, 2, 1, 2) := ⟨rfl, fun _ _ hr => chk_ok (l := rw_Ne_decides) (chk_cut 40 (by decide +kernel) (by decide +kernel)) hr⟩
set_option maxRecDepth 100000 in
theorem ok_Ne_takesLeast : MOK (cd_Ne_takesLeast, 8, 0, 0) (⟨"DiffusingRoutes$Net", "takesLeast", "(II)Z"⟩, prog_4_method_22_code, 8, (some .boolean), 2, 1, 2) := ⟨rfl, fun _ _ hr => chk_ok (l := rw_Ne_takesLeast) (chk_cut 40 (by decide +kernel) (by decide +kernel)) hr⟩
set_option maxRecDepth 100000 in
theorem ok_Ne_goesActive : MOK (cd_Ne_goesActive, 3, 0, 0) (⟨"DiffusingRoutes$Net", "goesActive", "(II)V"⟩, prog_4_method_23_code, 3, none, 2, 1, 2) := ⟨rfl, fun _ _ hr => chk_ok (l := rw_Ne_goesActive) (chk_cut 40 (by decide +kernel) (chk_cut 40 (by decide +kernel) (by decide +kernel))) hr⟩
set_option maxRecDepth 100000 in
theorem ok_Ne_ends : MOK (cd_Ne_ends, 3, 0, 0) (⟨"DiffusingRoutes$Net", "ends", "(I)V"⟩, prog_4_method_24_code, 3, none, 2, 1, 1) := ⟨rfl, fun _ _ hr => chk_ok (l := rw_Ne_ends) (chk_cut 40 (by decide +kernel) (chk_cut 40 (by decide +kernel) (chk_cut 40 (by decide +kernel) (by decide +kernel)))) hr⟩
set_option maxRecDepth 100000 in
theorem ok_Pr_init : MOK (cd_Pr_init, 4, 0, 0) (⟨"DiffusingRoutes$Program", "<init>", "([I[II)V"⟩, prog_5_method_1_code, 4, none, 3, 2, 3) := ⟨rfl, fun _ _ hr => chk_ok (l := rw_Pr_init) (by decide +kernel) hr⟩
set_option maxRecDepth 100000 in
theorem ok_Pr_kind : MOK (cd_Pr_kind, 2, 0, 0) (⟨"DiffusingRoutes$Program", "kind", "(I)I"⟩, prog_5_method_2_code, 2, (some .int), 3, 1, 1) := ⟨rfl, fun _ _ hr => chk_ok (l := rw_Pr_kind) (by decide +kernel) hr⟩
set_option maxRecDepth 100000 in
theorem ok_Pr_times : MOK (cd_Pr_times, 2, 0, 0) (⟨"DiffusingRoutes$Program", "times", "(I)I"⟩, prog_5_method_3_code, 2, (some .int), 3, 1, 1) := ⟨rfl, fun _ _ hr => chk_ok (l := rw_Pr_times) (by decide +kernel) hr⟩
set_option maxRecDepth 100000 in
theorem ok_Pr_test : MOK (cd_Pr_test, 2, 0, 0) (⟨"DiffusingRoutes$Program", "test", "(I)I"⟩, prog_5_method_4_code, 2, (some .int), 3, 1, 1) := ⟨rfl, fun _ _ hr => chk_ok (l := rw_Pr_test) (by decide +kernel) hr⟩
set_option maxRecDepth 100000 in
theorem ok_Pr_sum : MOK (cd_Pr_sum, 3, 0, 0) (⟨"DiffusingRoutes$Program", "sum", "(II)I"⟩, prog_5_method_5_code, 3, (some .int), 3, 1, 2) := ⟨rfl, fun _ _ hr => chk_ok (l := rw_Pr_sum) (by decide +kernel) hr⟩
set_option maxRecDepth 100000 in
theorem ok_Re_init : MOK (cd_Re_init, 1, 4, 926) (⟨"DiffusingRoutes$Reader", "<init>", "()V"⟩, prog_6_method_1_code, 1, none, 4, 2, 0) := ⟨rfl, fun _ _ hr => chk_ok (l := rw_Re_init) (by decide +kernel) hr⟩
set_option maxRecDepth 100000 in
theorem ok_Re_reads : MOK (cd_Re_reads, 4, 3, 899) (⟨"DiffusingRoutes$Reader", "reads", "(Z)LDiffusingRoutes$Program;"⟩, prog_6_method_2_code, 4, (some (.object "DiffusingRoutes$Program")), 4, 1, 1) := ⟨rfl, fun _ _ hr => chk_ok (l := rw_Re_reads) (chk_cut 40 (by decide +kernel) (by decide +kernel)) hr⟩
set_option maxRecDepth 100000 in
theorem ok_Re_fails : MOK (cd_Re_fails, 1, 0, 0) (⟨"DiffusingRoutes$Reader", "fails", "()Z"⟩, prog_6_method_3_code, 1, (some .boolean), 4, 1, 0) := ⟨rfl, fun _ _ hr => chk_ok (l := rw_Re_fails) (by decide +kernel) hr⟩
set_option maxRecDepth 100000 in
theorem ok_Re_takesSign : MOK (cd_Re_takesSign, 2, 0, 0) (⟨"DiffusingRoutes$Reader", "takesSign", "(C)Z"⟩, prog_6_method_4_code, 2, (some .boolean), 4, 1, 1) := ⟨rfl, fun _ _ hr => chk_ok (l := rw_Re_takesSign) (by decide +kernel) hr⟩
set_option maxRecDepth 100000 in
theorem ok_Re_takesWord : MOK (cd_Re_takesWord, 2, 0, 0) (⟨"DiffusingRoutes$Reader", "takesWord", "(Ljava/lang/String;)Z"⟩, prog_6_method_5_code, 2, (some .boolean), 4, 1, 1) := ⟨rfl, fun _ _ hr => chk_ok (l := rw_Re_takesWord) (by decide +kernel) hr⟩
set_option maxRecDepth 100000 in
theorem ok_Re_emits : MOK (cd_Re_emits, 3, 0, 0) (⟨"DiffusingRoutes$Reader", "emits", "(II)V"⟩, prog_6_method_6_code, 3, none, 4, 1, 2) := ⟨rfl, fun _ _ hr => chk_ok (l := rw_Re_emits) (by decide +kernel) hr⟩
set_option maxRecDepth 100000 in
theorem ok_Re_readsClause : MOK (cd_Re_readsClause, 4, 0, 0) (⟨"DiffusingRoutes$Reader", "readsClause", "(I)Z"⟩, prog_6_method_7_code, 4, (some .boolean), 4, 1, 1) := ⟨rfl, fun _ _ hr => chk_ok (l := rw_Re_readsClause) (chk_cut 40 (by decide +kernel) (by decide +kernel)) hr⟩
set_option maxRecDepth 100000 in
theorem ok_Re_kindAt : MOK (cd_Re_kindAt, 1, 0, 0) (⟨"DiffusingRoutes$Reader", "kindAt", "()I"⟩, prog_6_method_8_code, 1, (some .int), 4, 1, 0) := ⟨rfl, fun _ _ hr => chk_ok (l := rw_Re_kindAt) (chk_cut 40 (by decide +kernel) (by decide +kernel)) hr⟩
set_option maxRecDepth 100000 in
theorem ok_Re_readsSums : MOK (cd_Re_readsSums, 5, 0, 0) (⟨"DiffusingRoutes$Reader", "readsSums", "(II)Z"⟩, prog_6_method_9_code, 5, (some .boolean), 4, 1, 2) := ⟨rfl, fun _ _ hr => chk_ok (l := rw_Re_readsSums) (chk_cut 40 (by decide +kernel) (by decide +kernel)) hr⟩
