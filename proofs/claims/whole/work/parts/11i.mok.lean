/-! ===== the rows are the bytes' own (by program: wip/whole/gen_mok.py) ===== -/
set_option maxRecDepth 100000 in
theorem ok_Mo_deliver : MOK (cd_Mo_deliver, 5, 0, 0) (⟨"DiffusingRoutesModel", "deliver", "()I"⟩, prog_10_method_87_code, 5, (some .int), 8, 1, 0) := ⟨rfl, fun _ _ hr => chk_ok (l := rw_Mo_deliver) (chk_cut 40 (by decide +kernel) (chk_cut 40 (by decide +kernel) (by decide +kernel))) hr⟩
set_option maxRecDepth 100000 in
theorem ok_Mo_stepNow : MOK (cd_Mo_stepNow, 2, 0, 0) (⟨"DiffusingRoutesModel", "stepNow", "()I"⟩, prog_10_method_88_code, 2, (some .int), 8, 1, 0) := ⟨rfl, fun _ _ hr => chk_ok (l := rw_Mo_stepNow) (by decide +kernel) hr⟩
set_option maxRecDepth 100000 in
theorem ok_Mo_step : MOK (cd_Mo_step, 1, 0, 0) (⟨"DiffusingRoutesModel", "step", "()I"⟩, prog_10_method_89_code, 1, (some .int), 8, 1, 0) := ⟨rfl, fun _ _ hr => chk_ok (l := rw_Mo_step) (by decide +kernel) hr⟩
set_option maxRecDepth 100000 in
theorem ok_Mo_cutNow : MOK (cd_Mo_cutNow, 5, 0, 0) (⟨"DiffusingRoutesModel", "cutNow", "(I)I"⟩, prog_10_method_90_code, 5, (some .int), 8, 1, 1) := ⟨rfl, fun _ _ hr => chk_ok (l := rw_Mo_cutNow) (chk_cut 40 (by decide +kernel) (by decide +kernel)) hr⟩
set_option maxRecDepth 100000 in
theorem ok_Mo_cut : MOK (cd_Mo_cut, 2, 0, 0) (⟨"DiffusingRoutesModel", "cut", "(I)I"⟩, prog_10_method_91_code, 2, (some .int), 8, 1, 1) := ⟨rfl, fun _ _ hr => chk_ok (l := rw_Mo_cut) (by decide +kernel) hr⟩
set_option maxRecDepth 100000 in
theorem ok_Mo_behind : MOK (cd_Mo_behind, 2, 0, 0) (⟨"DiffusingRoutesModel", "behind", "(I)I"⟩, prog_10_method_92_code, 2, (some .int), 8, 1, 1) := ⟨rfl, fun _ _ hr => chk_ok (l := rw_Mo_behind) (by decide +kernel) hr⟩
set_option maxRecDepth 100000 in
theorem ok_Mo_path : MOK (cd_Mo_path, 5, 0, 0) (⟨"DiffusingRoutesModel", "path", "(II)I"⟩, prog_10_method_93_code, 5, (some .int), 8, 1, 2) := ⟨rfl, fun _ _ hr => chk_ok (l := rw_Mo_path) (by decide +kernel) hr⟩
set_option maxRecDepth 100000 in
theorem ok_Mo_loops : MOK (cd_Mo_loops, 5, 0, 0) (⟨"DiffusingRoutesModel", "loops", "()I"⟩, prog_10_method_94_code, 5, (some .int), 8, 1, 0) := ⟨rfl, fun _ _ hr => chk_ok (l := rw_Mo_loops) (chk_cut 40 (by decide +kernel) (by decide +kernel)) hr⟩
set_option maxRecDepth 100000 in
theorem ok_Mo_least : MOK (cd_Mo_least, 6, 0, 0) (⟨"DiffusingRoutesModel", "least", "(I)I"⟩, prog_10_method_95_code, 6, (some .int), 8, 1, 1) := ⟨rfl, fun _ _ hr => chk_ok (l := rw_Mo_least) (chk_cut 40 (by decide +kernel) (chk_cut 40 (by decide +kernel) (by decide +kernel))) hr⟩
set_option maxRecDepth 100000 in
theorem ok_Mo_quietBy : MOK (cd_Mo_quietBy, 5, 0, 0) (⟨"DiffusingRoutesModel", "quietBy", "(I)I"⟩, prog_10_method_96_code, 5, (some .int), 8, 1, 1) := ⟨rfl, fun _ _ hr => chk_ok (l := rw_Mo_quietBy) (chk_cut 40 (by decide +kernel) (by decide +kernel)) hr⟩
set_option maxRecDepth 100000 in
theorem ok_Mo_quiet : MOK (cd_Mo_quiet, 1, 0, 0) (⟨"DiffusingRoutesModel", "quiet", "()I"⟩, prog_10_method_97_code, 1, (some .int), 8, 1, 0) := ⟨rfl, fun _ _ hr => chk_ok (l := rw_Mo_quiet) (by decide +kernel) hr⟩
set_option maxRecDepth 100000 in
theorem ok_Mo_then : MOK (cd_Mo_then, 2, 0, 0) (⟨"DiffusingRoutesModel", "then", "(I)I"⟩, prog_10_method_98_code, 2, (some .int), 8, 1, 1) := ⟨rfl, fun _ _ hr => chk_ok (l := rw_Mo_then) (by decide +kernel) hr⟩
set_option maxRecDepth 100000 in
theorem ok_Mo_compare : MOK (cd_Mo_compare, 2, 0, 0) (⟨"DiffusingRoutesModel", "compare", "(I)I"⟩, prog_10_method_99_code, 2, (some .int), 8, 1, 1) := ⟨rfl, fun _ _ hr => chk_ok (l := rw_Mo_compare) (by decide +kernel) hr⟩
set_option maxRecDepth 100000 in
theorem ok_Mo_factOf : MOK (cd_Mo_factOf, 4, 0, 0) (⟨"DiffusingRoutesModel", "factOf", "(II)I"⟩, prog_10_method_100_code, 4, (some .int), 8, 1, 2) := ⟨rfl, fun _ _ hr => chk_ok (l := rw_Mo_factOf) (by decide +kernel) hr⟩
set_option maxRecDepth 100000 in
theorem ok_Mo_seen : MOK (cd_Mo_seen, 4, 0, 0) (⟨"DiffusingRoutesModel", "seen", "(II)I"⟩, prog_10_method_101_code, 4, (some .int), 8, 1, 2) := ⟨rfl, fun _ _ hr => chk_ok (l := rw_Mo_seen) (chk_cut 40 (by decide +kernel) (by decide +kernel)) hr⟩
set_option maxRecDepth 100000 in
theorem ok_Mo_forget : MOK (cd_Mo_forget, 2, 0, 0) (⟨"DiffusingRoutesModel", "forget", "()I"⟩, prog_10_method_102_code, 2, (some .int), 8, 1, 0) := ⟨rfl, fun _ _ hr => chk_ok (l := rw_Mo_forget) (by decide +kernel) hr⟩
set_option maxRecDepth 100000 in
theorem ok_Mo_thatCanBe : MOK (cd_Mo_thatCanBe, 5, 0, 0) (⟨"DiffusingRoutesModel", "thatCanBe", "()I"⟩, prog_10_method_103_code, 5, (some .int), 8, 1, 0) := ⟨rfl, fun _ _ hr => chk_ok (l := rw_Mo_thatCanBe) (chk_cut 40 (by decide +kernel) (by decide +kernel)) hr⟩
set_option maxRecDepth 100000 in
theorem ok_Mo_canBe : MOK (cd_Mo_canBe, 1, 0, 0) (⟨"DiffusingRoutesModel", "canBe", "()I"⟩, prog_10_method_104_code, 1, (some .int), 8, 1, 0) := ⟨rfl, fun _ _ hr => chk_ok (l := rw_Mo_canBe) (by decide +kernel) hr⟩
set_option maxRecDepth 100000 in
theorem ok_Mo_mostAlike : MOK (cd_Mo_mostAlike, 7, 0, 0) (⟨"DiffusingRoutesModel", "mostAlike", "(II)I"⟩, prog_10_method_105_code, 7, (some .int), 8, 1, 2) := ⟨rfl, fun _ _ hr => chk_ok (l := rw_Mo_mostAlike) (chk_cut 40 (by decide +kernel) (by decide +kernel)) hr⟩
set_option maxRecDepth 100000 in
theorem ok_Mo_ask : MOK (cd_Mo_ask, 7, 0, 0) (⟨"DiffusingRoutesModel", "ask", "(I)I"⟩, prog_10_method_106_code, 7, (some .int), 8, 1, 1) := ⟨rfl, fun _ _ hr => chk_ok (l := rw_Mo_ask) (chk_cut 40 (by decide +kernel) (by decide +kernel)) hr⟩
set_option maxRecDepth 100000 in
theorem ok_Mo_few : MOK (cd_Mo_few, 8, 0, 0) (⟨"DiffusingRoutesModel", "few", "(II)J"⟩, prog_10_method_107_code, 8, (some .long), 8, 1, 2) := ⟨rfl, fun _ _ hr => chk_ok (l := rw_Mo_few) (chk_cut 40 (by decide +kernel) (chk_cut 40 (by decide +kernel) (by decide +kernel))) hr⟩
set_option maxRecDepth 100000 in
theorem ok_Mo_readSum : MOK (cd_Mo_readSum, 2, 0, 0) (⟨"DiffusingRoutesModel", "readSum", "(I)V"⟩, prog_10_method_108_code, 2, none, 8, 1, 1) := ⟨rfl, fun _ _ hr => chk_ok (l := rw_Mo_readSum) (by decide +kernel) hr⟩
set_option maxRecDepth 100000 in
theorem ok_Mo_readBehind : MOK (cd_Mo_readBehind, 4, 0, 0) (⟨"DiffusingRoutesModel", "readBehind", "(JI)V"⟩, prog_10_method_109_code, 4, none, 8, 1, 2) := ⟨rfl, fun _ _ hr => chk_ok (l := rw_Mo_readBehind) (by decide +kernel) hr⟩
set_option maxRecDepth 100000 in
theorem ok_Mo_readOrder : MOK (cd_Mo_readOrder, 4, 0, 0) (⟨"DiffusingRoutesModel", "readOrder", "()V"⟩, prog_10_method_110_code, 4, none, 8, 1, 0) := ⟨rfl, fun _ _ hr => chk_ok (l := rw_Mo_readOrder) (chk_cut 40 (by decide +kernel) (chk_cut 40 (by decide +kernel) (chk_cut 40 (by decide +kernel) (by decide +kernel)))) hr⟩
