/-! ===== the rows are the bytes' own (by program: wip/whole/gen_mok.py) ===== -/
set_option maxRecDepth 100000 in
theorem ok_Di_status : MOK (cd_Di_status, 1, 0, 0) (⟨"DiffusingRoutes", "status", "()I"⟩, prog_1_method_35_code, 1, (some .int), 7, 1, 0) := ⟨rfl, fun _ _ hr => chk_ok (l := rw_Di_status) (by decide +kernel) hr⟩
set_option maxRecDepth 100000 in
theorem ok_Di_isRouter : MOK (cd_Di_isRouter, 1, 0, 0) (⟨"DiffusingRoutes", "isRouter", "(I)Z"⟩, prog_1_method_36_code, 1, (some .boolean), 7, 0, 1) := ⟨rfl, fun _ _ hr => chk_ok (l := rw_Di_isRouter) (by decide +kernel) hr⟩
set_option maxRecDepth 100000 in
theorem ok_Di_arePair : MOK (cd_Di_arePair, 2, 0, 0) (⟨"DiffusingRoutes", "arePair", "(II)Z"⟩, prog_1_method_37_code, 2, (some .boolean), 7, 0, 2) := ⟨rfl, fun _ _ hr => chk_ok (l := rw_Di_arePair) (by decide +kernel) hr⟩
set_option maxRecDepth 100000 in
theorem ok_Di_bit : MOK (cd_Di_bit, 2, 0, 0) (⟨"DiffusingRoutes", "bit", "(II)I"⟩, prog_1_method_38_code, 2, (some .int), 7, 0, 2) := ⟨rfl, fun _ _ hr => chk_ok (l := rw_Di_bit) (by decide +kernel) hr⟩
set_option maxRecDepth 100000 in
theorem ok_Di_isLawOrNone : MOK (cd_Di_isLawOrNone, 2, 0, 0) (⟨"DiffusingRoutes", "isLawOrNone", "(I)Z"⟩, prog_1_method_39_code, 2, (some .boolean), 7, 1, 1) := ⟨rfl, fun _ _ hr => chk_ok (l := rw_Di_isLawOrNone) (by decide +kernel) hr⟩
set_option maxRecDepth 100000 in
theorem ok_Di_went : MOK (cd_Di_went, 2, 0, 0) (⟨"DiffusingRoutes", "went", "(I)I"⟩, prog_1_method_40_code, 2, (some .int), 7, 1, 1) := ⟨rfl, fun _ _ hr => chk_ok (l := rw_Di_went) (by decide +kernel) hr⟩
set_option maxRecDepth 100000 in
theorem ok_Di_refused : MOK (cd_Di_refused, 3, 0, 0) (⟨"DiffusingRoutes", "refused", "(I)I"⟩, prog_1_method_41_code, 3, (some .int), 7, 1, 1) := ⟨rfl, fun _ _ hr => chk_ok (l := rw_Di_refused) (by decide +kernel) hr⟩
set_option maxRecDepth 100000 in
theorem ok_Di_answered : MOK (cd_Di_answered, 2, 0, 0) (⟨"DiffusingRoutes", "answered", "(I)I"⟩, prog_1_method_42_code, 2, (some .int), 7, 1, 1) := ⟨rfl, fun _ _ hr => chk_ok (l := rw_Di_answered) (by decide +kernel) hr⟩
set_option maxRecDepth 100000 in
theorem ok_Di_act : MOK (cd_Di_act, 9, 0, 0) (⟨"DiffusingRoutes", "act", "(LDiffusingRoutes$Net;ZIIII)I"⟩, prog_1_method_43_code, 9, (some .int), 7, 1, 6) := ⟨rfl, fun _ _ hr => chk_ok (l := rw_Di_act) (chk_cut 40 (by decide +kernel) (by decide +kernel)) hr⟩
set_option maxRecDepth 100000 in
theorem ok_Di_refusalOf : MOK (cd_Di_refusalOf, 6, 0, 0) (⟨"DiffusingRoutes", "refusalOf", "(LDiffusingRoutes$Net;IIII)I"⟩, prog_1_method_44_code, 6, (some .int), 7, 1, 5) := ⟨rfl, fun _ _ hr => chk_ok (l := rw_Di_refusalOf) (chk_cut 40 (by decide +kernel) (by decide +kernel)) hr⟩
set_option maxRecDepth 100000 in
theorem ok_Di_run : MOK (cd_Di_run, 11, 0, 0) (⟨"DiffusingRoutes", "run", "(LDiffusingRoutes$Program;LDiffusingRoutes$Net;Z)I"⟩, prog_1_method_45_code, 11, (some .int), 7, 1, 3) := ⟨rfl, fun _ _ hr => chk_ok (l := rw_Di_run) (chk_cut 40 (by decide +kernel) (chk_cut 40 (by decide +kernel) (by decide +kernel))) hr⟩
set_option maxRecDepth 100000 in
theorem ok_Di_comesToItself : MOK (cd_Di_comesToItself, 4, 0, 0) (⟨"DiffusingRoutes", "comesToItself", "(I)Z"⟩, prog_1_method_46_code, 4, (some .boolean), 7, 1, 1) := ⟨rfl, fun _ _ hr => chk_ok (l := rw_Di_comesToItself) (by decide +kernel) hr⟩
set_option maxRecDepth 100000 in
theorem ok_Di_shortenWays : MOK (cd_Di_shortenWays, 4, 0, 0) (⟨"DiffusingRoutes", "shortenWays", "()V"⟩, prog_1_method_47_code, 4, none, 7, 1, 0) := ⟨rfl, fun _ _ hr => chk_ok (l := rw_Di_shortenWays) (chk_cut 40 (by decide +kernel) (by decide +kernel)) hr⟩
set_option maxRecDepth 100000 in
theorem ok_Di_stepsTillQuiet : MOK (cd_Di_stepsTillQuiet, 3, 0, 0) (⟨"DiffusingRoutes", "stepsTillQuiet", "(LDiffusingRoutes$Program;)I"⟩, prog_1_method_48_code, 3, (some .int), 7, 1, 1) := ⟨rfl, fun _ _ hr => chk_ok (l := rw_Di_stepsTillQuiet) (chk_cut 40 (by decide +kernel) (by decide +kernel)) hr⟩
set_option maxRecDepth 100000 in
theorem ok_Di_isAsSeen : MOK (cd_Di_isAsSeen, 3, 0, 0) (⟨"DiffusingRoutes", "isAsSeen", "(I)Z"⟩, prog_1_method_49_code, 3, (some .boolean), 7, 1, 1) := ⟨rfl, fun _ _ hr => chk_ok (l := rw_Di_isAsSeen) (by decide +kernel) hr⟩
set_option maxRecDepth 100000 in
theorem ok_Di_mostAlike : MOK (cd_Di_mostAlike, 7, 0, 0) (⟨"DiffusingRoutes", "mostAlike", "(II)I"⟩, prog_1_method_50_code, 7, (some .int), 7, 1, 2) := ⟨rfl, fun _ _ hr => chk_ok (l := rw_Di_mostAlike) (chk_cut 40 (by decide +kernel) (by decide +kernel)) hr⟩
set_option maxRecDepth 100000 in
theorem ok_Di_drawFrom : MOK (cd_Di_drawFrom, 1, 0, 0) (⟨"DiffusingRoutes", "drawFrom", "(I)I"⟩, prog_1_method_51_code, 1, (some .int), 7, 0, 1) := ⟨rfl, fun _ _ hr => chk_ok (l := rw_Di_drawFrom) (by decide +kernel) hr⟩
set_option maxRecDepth 100000 in
theorem ok_Mo_init : MOK (cd_Mo_init, 3, 26, 86238) (⟨"DiffusingRoutesModel", "<init>", "()V"⟩, prog_10_method_1_code, 3, none, 8, 2, 0) := ⟨rfl, fun _ _ hr => chk_ok (l := rw_Mo_init) (chk_cut 40 (by decide +kernel) (chk_cut 40 (by decide +kernel) (chk_cut 40 (by decide +kernel) (chk_cut 40 (by decide +kernel) (chk_cut 40 (by decide +kernel) (chk_cut 40 (by decide +kernel) (by decide +kernel))))))) hr⟩
set_option maxRecDepth 100000 in
theorem ok_Mo_in : MOK (cd_Mo_in, 6, 0, 0) (⟨"DiffusingRoutesModel", "in", "(JJJ)Z"⟩, prog_10_method_3_code, 6, (some .boolean), 8, 0, 3) := ⟨rfl, fun _ _ hr => chk_ok (l := rw_Mo_in) (by decide +kernel) hr⟩
set_option maxRecDepth 100000 in
theorem ok_Mo_is : MOK (cd_Mo_is, 2, 0, 0) (⟨"DiffusingRoutesModel", "is", "(II)Z"⟩, prog_10_method_4_code, 2, (some .boolean), 8, 0, 2) := ⟨rfl, fun _ _ hr => chk_ok (l := rw_Mo_is) (by decide +kernel) hr⟩
set_option maxRecDepth 100000 in
theorem ok_Mo_many : MOK (cd_Mo_many, 3, 0, 0) (⟨"DiffusingRoutesModel", "many", "(I)I"⟩, prog_10_method_5_code, 3, (some .int), 8, 0, 1) := ⟨rfl, fun _ _ hr => chk_ok (l := rw_Mo_many) (by decide +kernel) hr⟩
set_option maxRecDepth 100000 in
theorem ok_Mo_tell : MOK (cd_Mo_tell, 2, 0, 0) (⟨"DiffusingRoutesModel", "tell", "(I)I"⟩, prog_10_method_6_code, 2, (some .int), 8, 1, 1) := ⟨rfl, fun _ _ hr => chk_ok (l := rw_Mo_tell) (by decide +kernel) hr⟩
set_option maxRecDepth 100000 in
theorem ok_Mo_change : MOK (cd_Mo_change, 4, 0, 0) (⟨"DiffusingRoutesModel", "change", "(II)I"⟩, prog_10_method_7_code, 4, (some .int), 8, 1, 2) := ⟨rfl, fun _ _ hr => chk_ok (l := rw_Mo_change) (by decide +kernel) hr⟩
set_option maxRecDepth 100000 in
theorem ok_Mo_keepAll : MOK (cd_Mo_keepAll, 3, 0, 0) (⟨"DiffusingRoutesModel", "keepAll", "(I)V"⟩, prog_10_method_8_code, 3, none, 8, 1, 1) := ⟨rfl, fun _ _ hr => chk_ok (l := rw_Mo_keepAll) (by decide +kernel) hr⟩
set_option maxRecDepth 100000 in
theorem ok_Mo_putBack : MOK (cd_Mo_putBack, 3, 0, 0) (⟨"DiffusingRoutesModel", "putBack", "(I)V"⟩, prog_10_method_9_code, 3, none, 8, 1, 1) := ⟨rfl, fun _ _ hr => chk_ok (l := rw_Mo_putBack) (by decide +kernel) hr⟩
set_option maxRecDepth 100000 in
theorem ok_Mo_remember : MOK (cd_Mo_remember, 3, 0, 0) (⟨"DiffusingRoutesModel", "remember", "(I)V"⟩, prog_10_method_10_code, 3, none, 8, 1, 1) := ⟨rfl, fun _ _ hr => chk_ok (l := rw_Mo_remember) (chk_cut 40 (by decide +kernel) (by decide +kernel)) hr⟩
set_option maxRecDepth 100000 in
theorem ok_Mo_over : MOK (cd_Mo_over, 3, 0, 0) (⟨"DiffusingRoutesModel", "over", "(II)I"⟩, prog_10_method_11_code, 3, (some .int), 8, 1, 2) := ⟨rfl, fun _ _ hr => chk_ok (l := rw_Mo_over) (by decide +kernel) hr⟩
set_option maxRecDepth 100000 in
theorem ok_Mo_undo : MOK (cd_Mo_undo, 1, 0, 0) (⟨"DiffusingRoutesModel", "undo", "()I"⟩, prog_10_method_12_code, 1, (some .int), 8, 1, 0) := ⟨rfl, fun _ _ hr => chk_ok (l := rw_Mo_undo) (by decide +kernel) hr⟩
set_option maxRecDepth 100000 in
theorem ok_Mo_image : MOK (cd_Mo_image, 3, 0, 0) (⟨"DiffusingRoutesModel", "image", "(I)I"⟩, prog_10_method_13_code, 3, (some .int), 8, 1, 1) := ⟨rfl, fun _ _ hr => chk_ok (l := rw_Mo_image) (chk_cut 40 (by decide +kernel) (by decide +kernel)) hr⟩
