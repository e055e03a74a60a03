/-! ===== the rows are the bytes' own (by program: wip/whole/gen_mok.py) ===== -/
set_option maxRecDepth 100000 in
theorem ok_Mo_back : MOK (cd_Mo_back, 3, 0, 0) (⟨"DiffusingRoutesModel", "back", "(I)I"⟩, prog_10_method_14_code, 3, (some .int), 8, 1, 1) := ⟨rfl, fun _ _ hr => chk_ok (l := rw_Mo_back) (chk_cut 40 (by decide +kernel) (by decide +kernel)) hr⟩
set_option maxRecDepth 100000 in
theorem ok_Mo_routerAt : MOK (cd_Mo_routerAt, 1, 0, 0) (⟨"DiffusingRoutesModel", "routerAt", "(I)I"⟩, prog_10_method_15_code, 1, (some .int), 8, 0, 1) := ⟨rfl, fun _ _ hr => chk_ok (l := rw_Mo_routerAt) (by decide +kernel) hr⟩
set_option maxRecDepth 100000 in
theorem ok_Mo_isRouter : MOK (cd_Mo_isRouter, 1, 0, 0) (⟨"DiffusingRoutesModel", "isRouter", "(I)Z"⟩, prog_10_method_16_code, 1, (some .boolean), 8, 0, 1) := ⟨rfl, fun _ _ hr => chk_ok (l := rw_Mo_isRouter) (by decide +kernel) hr⟩
set_option maxRecDepth 100000 in
theorem ok_Mo_isPair : MOK (cd_Mo_isPair, 2, 0, 0) (⟨"DiffusingRoutesModel", "isPair", "(II)Z"⟩, prog_10_method_17_code, 2, (some .boolean), 8, 0, 2) := ⟨rfl, fun _ _ hr => chk_ok (l := rw_Mo_isPair) (by decide +kernel) hr⟩
set_option maxRecDepth 100000 in
theorem ok_Mo_cost : MOK (cd_Mo_cost, 3, 0, 0) (⟨"DiffusingRoutesModel", "cost", "(II)I"⟩, prog_10_method_18_code, 3, (some .int), 8, 1, 2) := ⟨rfl, fun _ _ hr => chk_ok (l := rw_Mo_cost) (by decide +kernel) hr⟩
set_option maxRecDepth 100000 in
theorem ok_Mo_neighbours : MOK (cd_Mo_neighbours, 4, 0, 0) (⟨"DiffusingRoutesModel", "neighbours", "(I)I"⟩, prog_10_method_19_code, 4, (some .int), 8, 1, 1) := ⟨rfl, fun _ _ hr => chk_ok (l := rw_Mo_neighbours) (by decide +kernel) hr⟩
set_option maxRecDepth 100000 in
theorem ok_Mo_by : MOK (cd_Mo_by, 4, 0, 0) (⟨"DiffusingRoutesModel", "by", "(II)I"⟩, prog_10_method_20_code, 4, (some .int), 8, 1, 2) := ⟨rfl, fun _ _ hr => chk_ok (l := rw_Mo_by) (by decide +kernel) hr⟩
set_option maxRecDepth 100000 in
theorem ok_Mo_isFeasible : MOK (cd_Mo_isFeasible, 3, 0, 0) (⟨"DiffusingRoutesModel", "isFeasible", "(II)Z"⟩, prog_10_method_21_code, 3, (some .boolean), 8, 1, 2) := ⟨rfl, fun _ _ hr => chk_ok (l := rw_Mo_isFeasible) (by decide +kernel) hr⟩
set_option maxRecDepth 100000 in
theorem ok_Mo_leastBy : MOK (cd_Mo_leastBy, 4, 0, 0) (⟨"DiffusingRoutesModel", "leastBy", "(I)I"⟩, prog_10_method_22_code, 4, (some .int), 8, 1, 1) := ⟨rfl, fun _ _ hr => chk_ok (l := rw_Mo_leastBy) (by decide +kernel) hr⟩
set_option maxRecDepth 100000 in
theorem ok_Mo_best : MOK (cd_Mo_best, 5, 0, 0) (⟨"DiffusingRoutesModel", "best", "(I)I"⟩, prog_10_method_23_code, 5, (some .int), 8, 1, 1) := ⟨rfl, fun _ _ hr => chk_ok (l := rw_Mo_best) (by decide +kernel) hr⟩
set_option maxRecDepth 100000 in
theorem ok_Mo_router : MOK (cd_Mo_router, 3, 0, 0) (⟨"DiffusingRoutesModel", "router", "(II)I"⟩, prog_10_method_24_code, 3, (some .int), 8, 1, 2) := ⟨rfl, fun _ _ hr => chk_ok (l := rw_Mo_router) (by decide +kernel) hr⟩
set_option maxRecDepth 100000 in
theorem ok_Mo_waiting : MOK (cd_Mo_waiting, 5, 0, 0) (⟨"DiffusingRoutesModel", "waiting", "(II)I"⟩, prog_10_method_25_code, 5, (some .int), 8, 1, 2) := ⟨rfl, fun _ _ hr => chk_ok (l := rw_Mo_waiting) (by decide +kernel) hr⟩
set_option maxRecDepth 100000 in
theorem ok_Mo_between : MOK (cd_Mo_between, 4, 0, 0) (⟨"DiffusingRoutesModel", "between", "(III)I"⟩, prog_10_method_26_code, 4, (some .int), 8, 1, 3) := ⟨rfl, fun _ _ hr => chk_ok (l := rw_Mo_between) (chk_cut 40 (by decide +kernel) (by decide +kernel)) hr⟩
set_option maxRecDepth 100000 in
theorem ok_Mo_messageAt : MOK (cd_Mo_messageAt, 1, 0, 0) (⟨"DiffusingRoutesModel", "messageAt", "(I)I"⟩, prog_10_method_27_code, 1, (some .int), 8, 0, 1) := ⟨rfl, fun _ _ hr => chk_ok (l := rw_Mo_messageAt) (by decide +kernel) hr⟩
set_option maxRecDepth 100000 in
theorem ok_Mo_message : MOK (cd_Mo_message, 3, 0, 0) (⟨"DiffusingRoutesModel", "message", "(II)I"⟩, prog_10_method_28_code, 3, (some .int), 8, 1, 2) := ⟨rfl, fun _ _ hr => chk_ok (l := rw_Mo_message) (by decide +kernel) hr⟩
set_option maxRecDepth 100000 in
theorem ok_Mo_termAt : MOK (cd_Mo_termAt, 1, 0, 0) (⟨"DiffusingRoutesModel", "termAt", "(I)I"⟩, prog_10_method_29_code, 1, (some .int), 8, 0, 1) := ⟨rfl, fun _ _ hr => chk_ok (l := rw_Mo_termAt) (by decide +kernel) hr⟩
set_option maxRecDepth 100000 in
theorem ok_Mo_terms : MOK (cd_Mo_terms, 4, 0, 0) (⟨"DiffusingRoutesModel", "terms", "(II)I"⟩, prog_10_method_30_code, 4, (some .int), 8, 1, 2) := ⟨rfl, fun _ _ hr => chk_ok (l := rw_Mo_terms) (chk_cut 40 (by decide +kernel) (by decide +kernel)) hr⟩
set_option maxRecDepth 100000 in
theorem ok_Mo_row : MOK (cd_Mo_row, 4, 0, 0) (⟨"DiffusingRoutesModel", "row", "()I"⟩, prog_10_method_31_code, 4, (some .int), 8, 1, 0) := ⟨rfl, fun _ _ hr => chk_ok (l := rw_Mo_row) (chk_cut 40 (by decide +kernel) (by decide +kernel)) hr⟩
set_option maxRecDepth 100000 in
theorem ok_Mo_blots : MOK (cd_Mo_blots, 1, 0, 0) (⟨"DiffusingRoutesModel", "blots", "()I"⟩, prog_10_method_32_code, 1, (some .int), 8, 1, 0) := ⟨rfl, fun _ _ hr => chk_ok (l := rw_Mo_blots) (by decide +kernel) hr⟩
set_option maxRecDepth 100000 in
theorem ok_Mo_four : MOK (cd_Mo_four, 3, 0, 0) (⟨"DiffusingRoutesModel", "four", "(I)V"⟩, prog_10_method_33_code, 3, none, 8, 1, 1) := ⟨rfl, fun _ _ hr => chk_ok (l := rw_Mo_four) (by decide +kernel) hr⟩
set_option maxRecDepth 100000 in
theorem ok_Mo_feed : MOK (cd_Mo_feed, 6, 0, 0) (⟨"DiffusingRoutesModel", "feed", "(IIIII)I"⟩, prog_10_method_34_code, 6, (some .int), 8, 1, 5) := ⟨rfl, fun _ _ hr => chk_ok (l := rw_Mo_feed) (by decide +kernel) hr⟩
set_option maxRecDepth 100000 in
theorem ok_Mo_end : MOK (cd_Mo_end, 2, 0, 0) (⟨"DiffusingRoutesModel", "end", "(I)I"⟩, prog_10_method_35_code, 2, (some .int), 8, 1, 1) := ⟨rfl, fun _ _ hr => chk_ok (l := rw_Mo_end) (by decide +kernel) hr⟩
set_option maxRecDepth 100000 in
theorem ok_Mo_isSmall : MOK (cd_Mo_isSmall, 1, 0, 0) (⟨"DiffusingRoutesModel", "isSmall", "(I)Z"⟩, prog_10_method_36_code, 1, (some .boolean), 8, 0, 1) := ⟨rfl, fun _ _ hr => chk_ok (l := rw_Mo_isSmall) (by decide +kernel) hr⟩
set_option maxRecDepth 100000 in
theorem ok_Mo_isDigit : MOK (cd_Mo_isDigit, 1, 0, 0) (⟨"DiffusingRoutesModel", "isDigit", "(I)Z"⟩, prog_10_method_37_code, 1, (some .boolean), 8, 0, 1) := ⟨rfl, fun _ _ hr => chk_ok (l := rw_Mo_isDigit) (by decide +kernel) hr⟩
set_option maxRecDepth 100000 in
theorem ok_Mo_beginTape : MOK (cd_Mo_beginTape, 1, 0, 0) (⟨"DiffusingRoutesModel", "beginTape", "()V"⟩, prog_10_method_38_code, 1, none, 8, 1, 0) := ⟨rfl, fun _ _ hr => chk_ok (l := rw_Mo_beginTape) (by decide +kernel) hr⟩
set_option maxRecDepth 100000 in
theorem ok_Mo_next : MOK (cd_Mo_next, 1, 0, 0) (⟨"DiffusingRoutesModel", "next", "()V"⟩, prog_10_method_39_code, 1, none, 8, 1, 0) := ⟨rfl, fun _ _ hr => chk_ok (l := rw_Mo_next) (chk_cut 40 (by decide +kernel) (chk_cut 40 (by decide +kernel) (chk_cut 40 (by decide +kernel) (chk_cut 40 (by decide +kernel) (by decide +kernel))))) hr⟩
set_option maxRecDepth 100000 in
theorem ok_Mo_isWord : MOK (cd_Mo_isWord, 3, 0, 0) (⟨"DiffusingRoutesModel", "isWord", "(J)Z"⟩, prog_10_method_40_code, 3, (some .boolean), 8, 1, 1) := ⟨rfl, fun _ _ hr => chk_ok (l := rw_Mo_isWord) (by decide +kernel) hr⟩
set_option maxRecDepth 100000 in
theorem ok_Mo_isSign : MOK (cd_Mo_isSign, 2, 0, 0) (⟨"DiffusingRoutesModel", "isSign", "(I)Z"⟩, prog_10_method_41_code, 2, (some .boolean), 8, 1, 1) := ⟨rfl, fun _ _ hr => chk_ok (l := rw_Mo_isSign) (by decide +kernel) hr⟩
set_option maxRecDepth 100000 in
theorem ok_Mo_must : MOK (cd_Mo_must, 2, 0, 0) (⟨"DiffusingRoutesModel", "must", "(Z)V"⟩, prog_10_method_42_code, 2, none, 8, 1, 1) := ⟨rfl, fun _ _ hr => chk_ok (l := rw_Mo_must) (by decide +kernel) hr⟩
set_option maxRecDepth 100000 in
theorem ok_Mo_number : MOK (cd_Mo_number, 6, 0, 0) (⟨"DiffusingRoutesModel", "number", "(JJ)I"⟩, prog_10_method_43_code, 6, (some .int), 8, 1, 2) := ⟨rfl, fun _ _ hr => chk_ok (l := rw_Mo_number) (by decide +kernel) hr⟩
set_option maxRecDepth 100000 in
theorem ok_Mo_fault : MOK (cd_Mo_fault, 1, 0, 0) (⟨"DiffusingRoutesModel", "fault", "()I"⟩, prog_10_method_44_code, 1, (some .int), 8, 1, 0) := ⟨rfl, fun _ _ hr => chk_ok (l := rw_Mo_fault) (by decide +kernel) hr⟩
set_option maxRecDepth 100000 in
theorem ok_Mo_emit : MOK (cd_Mo_emit, 3, 0, 0) (⟨"DiffusingRoutesModel", "emit", "(II)V"⟩, prog_10_method_45_code, 3, none, 8, 1, 2) := ⟨rfl, fun _ _ hr => chk_ok (l := rw_Mo_emit) (by decide +kernel) hr⟩
set_option maxRecDepth 100000 in
theorem ok_Mo_push : MOK (cd_Mo_push, 3, 0, 0) (⟨"DiffusingRoutesModel", "push", "(II)V"⟩, prog_10_method_46_code, 3, none, 8, 1, 2) := ⟨rfl, fun _ _ hr => chk_ok (l := rw_Mo_push) (by decide +kernel) hr⟩
set_option maxRecDepth 100000 in
theorem ok_Mo_binds : MOK (cd_Mo_binds, 1, 0, 0) (⟨"DiffusingRoutesModel", "binds", "(I)I"⟩, prog_10_method_47_code, 1, (some .int), 8, 0, 1) := ⟨rfl, fun _ _ hr => chk_ok (l := rw_Mo_binds) (by decide +kernel) hr⟩
set_option maxRecDepth 100000 in
theorem ok_Mo_settle : MOK (cd_Mo_settle, 2, 0, 0) (⟨"DiffusingRoutesModel", "settle", "(I)V"⟩, prog_10_method_48_code, 2, none, 8, 1, 1) := ⟨rfl, fun _ _ hr => chk_ok (l := rw_Mo_settle) (chk_cut 40 (by decide +kernel) (by decide +kernel)) hr⟩
set_option maxRecDepth 100000 in
theorem ok_Mo_inner : MOK (cd_Mo_inner, 3, 0, 0) (⟨"DiffusingRoutesModel", "inner", "()I"⟩, prog_10_method_49_code, 3, (some .int), 8, 1, 0) := ⟨rfl, fun _ _ hr => chk_ok (l := rw_Mo_inner) (by decide +kernel) hr⟩
set_option maxRecDepth 100000 in
theorem ok_Mo_isCompared : MOK (cd_Mo_isCompared, 2, 0, 0) (⟨"DiffusingRoutesModel", "isCompared", "()Z"⟩, prog_10_method_50_code, 2, (some .boolean), 8, 1, 0) := ⟨rfl, fun _ _ hr => chk_ok (l := rw_Mo_isCompared) (by decide +kernel) hr⟩
