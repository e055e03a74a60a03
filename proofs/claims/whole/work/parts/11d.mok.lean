/-! ===== the rows are the bytes' own (by program: wip/whole/gen_mok.py) ===== -/
set_option maxRecDepth 100000 in
theorem ok_Di_between : MOK (cd_Di_between, 5, 0, 0) (⟨"DiffusingRoutes", "between", "(III)I"⟩, prog_1_method_3_code, 5, (some .int), 7, 1, 3) := ⟨rfl, fun _ _ hr => chk_ok (l := rw_Di_between) (chk_cut 40 (by decide +kernel) (by decide +kernel)) hr⟩
set_option maxRecDepth 100000 in
theorem ok_Di_message : MOK (cd_Di_message, 4, 0, 0) (⟨"DiffusingRoutes", "message", "(II)I"⟩, prog_1_method_4_code, 4, (some .int), 7, 1, 2) := ⟨rfl, fun _ _ hr => chk_ok (l := rw_Di_message) (chk_cut 40 (by decide +kernel) (by decide +kernel)) hr⟩
set_option maxRecDepth 100000 in
theorem ok_Di_terms : MOK (cd_Di_terms, 4, 0, 0) (⟨"DiffusingRoutes", "terms", "(II)I"⟩, prog_1_method_5_code, 4, (some .int), 7, 1, 2) := ⟨rfl, fun _ _ hr => chk_ok (l := rw_Di_terms) (by decide +kernel) hr⟩
set_option maxRecDepth 100000 in
theorem ok_Di_feed : MOK (cd_Di_feed, 7, 0, 0) (⟨"DiffusingRoutes", "feed", "(IIIII)I"⟩, prog_1_method_6_code, 7, (some .int), 7, 1, 5) := ⟨rfl, fun _ _ hr => chk_ok (l := rw_Di_feed) (by decide +kernel) hr⟩
set_option maxRecDepth 100000 in
theorem ok_Di_end : MOK (cd_Di_end, 2, 0, 0) (⟨"DiffusingRoutes", "end", "(I)I"⟩, prog_1_method_7_code, 2, (some .int), 7, 1, 1) := ⟨rfl, fun _ _ hr => chk_ok (l := rw_Di_end) (by decide +kernel) hr⟩
set_option maxRecDepth 100000 in
theorem ok_Di_row : MOK (cd_Di_row, 7, 0, 0) (⟨"DiffusingRoutes", "row", "()I"⟩, prog_1_method_8_code, 7, (some .int), 7, 1, 0) := ⟨rfl, fun _ _ hr => chk_ok (l := rw_Di_row) (chk_cut 40 (by decide +kernel) (by decide +kernel)) hr⟩
set_option maxRecDepth 100000 in
theorem ok_Di_blots : MOK (cd_Di_blots, 1, 0, 0) (⟨"DiffusingRoutes", "blots", "()I"⟩, prog_1_method_9_code, 1, (some .int), 7, 1, 0) := ⟨rfl, fun _ _ hr => chk_ok (l := rw_Di_blots) (by decide +kernel) hr⟩
set_option maxRecDepth 100000 in
theorem ok_Di_law : MOK (cd_Di_law, 2, 3, 899) (⟨"DiffusingRoutes", "law", "()I"⟩, prog_1_method_10_code, 2, (some .int), 7, 1, 0) := ⟨rfl, fun _ _ hr => chk_ok (l := rw_Di_law) (chk_cut 40 (by decide +kernel) (by decide +kernel)) hr⟩
set_option maxRecDepth 100000 in
theorem ok_Di_orders : MOK (cd_Di_orders, 2, 3, 899) (⟨"DiffusingRoutes", "orders", "()I"⟩, prog_1_method_11_code, 2, (some .int), 7, 1, 0) := ⟨rfl, fun _ _ hr => chk_ok (l := rw_Di_orders) (chk_cut 40 (by decide +kernel) (by decide +kernel)) hr⟩
set_option maxRecDepth 100000 in
theorem ok_Di_fault : MOK (cd_Di_fault, 1, 0, 0) (⟨"DiffusingRoutes", "fault", "()I"⟩, prog_1_method_12_code, 1, (some .int), 7, 1, 0) := ⟨rfl, fun _ _ hr => chk_ok (l := rw_Di_fault) (by decide +kernel) hr⟩
set_option maxRecDepth 100000 in
theorem ok_Di_stopped : MOK (cd_Di_stopped, 1, 0, 0) (⟨"DiffusingRoutes", "stopped", "()I"⟩, prog_1_method_13_code, 1, (some .int), 7, 1, 0) := ⟨rfl, fun _ _ hr => chk_ok (l := rw_Di_stopped) (by decide +kernel) hr⟩
set_option maxRecDepth 100000 in
theorem ok_Di_force : MOK (cd_Di_force, 3, 0, 0) (⟨"DiffusingRoutes", "force", "(I)I"⟩, prog_1_method_14_code, 3, (some .int), 7, 1, 1) := ⟨rfl, fun _ _ hr => chk_ok (l := rw_Di_force) (by decide +kernel) hr⟩
set_option maxRecDepth 100000 in
theorem ok_Di_link : MOK (cd_Di_link, 4, 0, 0) (⟨"DiffusingRoutes", "link", "(III)I"⟩, prog_1_method_15_code, 4, (some .int), 7, 1, 3) := ⟨rfl, fun _ _ hr => chk_ok (l := rw_Di_link) (by decide +kernel) hr⟩
set_option maxRecDepth 100000 in
theorem ok_Di_step : MOK (cd_Di_step, 1, 0, 0) (⟨"DiffusingRoutes", "step", "()I"⟩, prog_1_method_16_code, 1, (some .int), 7, 1, 0) := ⟨rfl, fun _ _ hr => chk_ok (l := rw_Di_step) (by decide +kernel) hr⟩
set_option maxRecDepth 100000 in
theorem ok_Di_cut : MOK (cd_Di_cut, 2, 0, 0) (⟨"DiffusingRoutes", "cut", "(I)I"⟩, prog_1_method_17_code, 2, (some .int), 7, 1, 1) := ⟨rfl, fun _ _ hr => chk_ok (l := rw_Di_cut) (by decide +kernel) hr⟩
set_option maxRecDepth 100000 in
theorem ok_Di_undo : MOK (cd_Di_undo, 1, 0, 0) (⟨"DiffusingRoutes", "undo", "()I"⟩, prog_1_method_18_code, 1, (some .int), 7, 1, 0) := ⟨rfl, fun _ _ hr => chk_ok (l := rw_Di_undo) (by decide +kernel) hr⟩
set_option maxRecDepth 100000 in
theorem ok_Di_path : MOK (cd_Di_path, 5, 0, 0) (⟨"DiffusingRoutes", "path", "(II)I"⟩, prog_1_method_19_code, 5, (some .int), 7, 1, 2) := ⟨rfl, fun _ _ hr => chk_ok (l := rw_Di_path) (by decide +kernel) hr⟩
set_option maxRecDepth 100000 in
theorem ok_Di_loops : MOK (cd_Di_loops, 3, 0, 0) (⟨"DiffusingRoutes", "loops", "()I"⟩, prog_1_method_20_code, 3, (some .int), 7, 1, 0) := ⟨rfl, fun _ _ hr => chk_ok (l := rw_Di_loops) (by decide +kernel) hr⟩
set_option maxRecDepth 100000 in
theorem ok_Di_least : MOK (cd_Di_least, 3, 0, 0) (⟨"DiffusingRoutes", "least", "(I)I"⟩, prog_1_method_21_code, 3, (some .int), 7, 1, 1) := ⟨rfl, fun _ _ hr => chk_ok (l := rw_Di_least) (by decide +kernel) hr⟩
set_option maxRecDepth 100000 in
theorem ok_Di_quiet : MOK (cd_Di_quiet, 1, 0, 0) (⟨"DiffusingRoutes", "quiet", "()I"⟩, prog_1_method_22_code, 1, (some .int), 7, 1, 0) := ⟨rfl, fun _ _ hr => chk_ok (l := rw_Di_quiet) (by decide +kernel) hr⟩
set_option maxRecDepth 100000 in
theorem ok_Di_then : MOK (cd_Di_then, 2, 0, 0) (⟨"DiffusingRoutes", "then", "(I)I"⟩, prog_1_method_23_code, 2, (some .int), 7, 1, 1) := ⟨rfl, fun _ _ hr => chk_ok (l := rw_Di_then) (by decide +kernel) hr⟩
set_option maxRecDepth 100000 in
theorem ok_Di_seen : MOK (cd_Di_seen, 3, 0, 0) (⟨"DiffusingRoutes", "seen", "(II)I"⟩, prog_1_method_24_code, 3, (some .int), 7, 1, 2) := ⟨rfl, fun _ _ hr => chk_ok (l := rw_Di_seen) (chk_cut 40 (by decide +kernel) (by decide +kernel)) hr⟩
set_option maxRecDepth 100000 in
theorem ok_Di_forget : MOK (cd_Di_forget, 2, 0, 0) (⟨"DiffusingRoutes", "forget", "()I"⟩, prog_1_method_25_code, 2, (some .int), 7, 1, 0) := ⟨rfl, fun _ _ hr => chk_ok (l := rw_Di_forget) (by decide +kernel) hr⟩
set_option maxRecDepth 100000 in
theorem ok_Di_canBe : MOK (cd_Di_canBe, 3, 0, 0) (⟨"DiffusingRoutes", "canBe", "()I"⟩, prog_1_method_26_code, 3, (some .int), 7, 1, 0) := ⟨rfl, fun _ _ hr => chk_ok (l := rw_Di_canBe) (by decide +kernel) hr⟩
set_option maxRecDepth 100000 in
theorem ok_Di_ask : MOK (cd_Di_ask, 7, 0, 0) (⟨"DiffusingRoutes", "ask", "(I)I"⟩, prog_1_method_27_code, 7, (some .int), 7, 1, 1) := ⟨rfl, fun _ _ hr => chk_ok (l := rw_Di_ask) (chk_cut 40 (by decide +kernel) (by decide +kernel)) hr⟩
set_option maxRecDepth 100000 in
theorem ok_Di_few : MOK (cd_Di_few, 9, 0, 0) (⟨"DiffusingRoutes", "few", "(II)J"⟩, prog_1_method_28_code, 9, (some .long), 7, 1, 2) := ⟨rfl, fun _ _ hr => chk_ok (l := rw_Di_few) (chk_cut 40 (by decide +kernel) (chk_cut 40 (by decide +kernel) (by decide +kernel))) hr⟩
set_option maxRecDepth 100000 in
theorem ok_Di_compare : MOK (cd_Di_compare, 2, 0, 0) (⟨"DiffusingRoutes", "compare", "(I)I"⟩, prog_1_method_29_code, 2, (some .int), 7, 1, 1) := ⟨rfl, fun _ _ hr => chk_ok (l := rw_Di_compare) (by decide +kernel) hr⟩
set_option maxRecDepth 100000 in
theorem ok_Di_days : MOK (cd_Di_days, 9, 0, 0) (⟨"DiffusingRoutes", "days", "(II)I"⟩, prog_1_method_30_code, 9, (some .int), 7, 1, 2) := ⟨rfl, fun _ _ hr => chk_ok (l := rw_Di_days) (chk_cut 40 (by decide +kernel) (chk_cut 40 (by decide +kernel) (by decide +kernel))) hr⟩
set_option maxRecDepth 100000 in
theorem ok_Di_drawn : MOK (cd_Di_drawn, 3, 0, 0) (⟨"DiffusingRoutes", "drawn", "(II)I"⟩, prog_1_method_31_code, 3, (some .int), 7, 1, 2) := ⟨rfl, fun _ _ hr => chk_ok (l := rw_Di_drawn) (by decide +kernel) hr⟩
set_option maxRecDepth 100000 in
theorem ok_Di_image : MOK (cd_Di_image, 2, 0, 0) (⟨"DiffusingRoutes", "image", "(I)I"⟩, prog_1_method_32_code, 2, (some .int), 7, 1, 1) := ⟨rfl, fun _ _ hr => chk_ok (l := rw_Di_image) (by decide +kernel) hr⟩
set_option maxRecDepth 100000 in
theorem ok_Di_back : MOK (cd_Di_back, 2, 0, 0) (⟨"DiffusingRoutes", "back", "(I)I"⟩, prog_1_method_33_code, 2, (some .int), 7, 1, 1) := ⟨rfl, fun _ _ hr => chk_ok (l := rw_Di_back) (by decide +kernel) hr⟩
set_option maxRecDepth 100000 in
theorem ok_Di_count : MOK (cd_Di_count, 2, 0, 0) (⟨"DiffusingRoutes", "count", "(I)I"⟩, prog_1_method_34_code, 2, (some .int), 7, 1, 1) := ⟨rfl, fun _ _ hr => chk_ok (l := rw_Di_count) (chk_cut 40 (by decide +kernel) (by decide +kernel)) hr⟩
