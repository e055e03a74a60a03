/-! ===== the rows are the bytes' own (by program: wip/whole/gen_mok.py) ===== -/
set_option maxRecDepth 100000 in
theorem ok_Mo_partAt : MOK (cd_Mo_partAt, 3, 0, 0) (⟨"DiffusingRoutesModel", "partAt", "()I"⟩, prog_10_method_51_code, 3, (some .int), 8, 1, 0) := ⟨rfl, fun _ _ hr => chk_ok (l := rw_Mo_partAt) (by decide +kernel) hr⟩
set_option maxRecDepth 100000 in
theorem ok_Mo_orderPartAt : MOK (cd_Mo_orderPartAt, 3, 0, 0) (⟨"DiffusingRoutesModel", "orderPartAt", "()I"⟩, prog_10_method_52_code, 3, (some .int), 8, 1, 0) := ⟨rfl, fun _ _ hr => chk_ok (l := rw_Mo_orderPartAt) (by decide +kernel) hr⟩
set_option maxRecDepth 100000 in
theorem ok_Mo_openBracket : MOK (cd_Mo_openBracket, 2, 0, 0) (⟨"DiffusingRoutesModel", "openBracket", "(I)V"⟩, prog_10_method_53_code, 2, none, 8, 1, 1) := ⟨rfl, fun _ _ hr => chk_ok (l := rw_Mo_openBracket) (by decide +kernel) hr⟩
set_option maxRecDepth 100000 in
theorem ok_Mo_leaf : MOK (cd_Mo_leaf, 4, 0, 0) (⟨"DiffusingRoutesModel", "leaf", "(ZII)V"⟩, prog_10_method_54_code, 4, none, 8, 1, 3) := ⟨rfl, fun _ _ hr => chk_ok (l := rw_Mo_leaf) (by decide +kernel) hr⟩
set_option maxRecDepth 100000 in
theorem ok_Mo_readPart : MOK (cd_Mo_readPart, 4, 0, 0) (⟨"DiffusingRoutesModel", "readPart", "()I"⟩, prog_10_method_55_code, 4, (some .int), 8, 1, 0) := ⟨rfl, fun _ _ hr => chk_ok (l := rw_Mo_readPart) (chk_cut 40 (by decide +kernel) (by decide +kernel)) hr⟩
set_option maxRecDepth 100000 in
theorem ok_Mo_readPlain : MOK (cd_Mo_readPlain, 1, 0, 0) (⟨"DiffusingRoutesModel", "readPlain", "()I"⟩, prog_10_method_56_code, 1, (some .int), 8, 1, 0) := ⟨rfl, fun _ _ hr => chk_ok (l := rw_Mo_readPlain) (by decide +kernel) hr⟩
set_option maxRecDepth 100000 in
theorem ok_Mo_behindSum : MOK (cd_Mo_behindSum, 4, 0, 0) (⟨"DiffusingRoutesModel", "behindSum", "(Z)I"⟩, prog_10_method_57_code, 4, (some .int), 8, 1, 1) := ⟨rfl, fun _ _ hr => chk_ok (l := rw_Mo_behindSum) (chk_cut 40 (by decide +kernel) (chk_cut 40 (by decide +kernel) (chk_cut 40 (by decide +kernel) (by decide +kernel)))) hr⟩
set_option maxRecDepth 100000 in
theorem ok_Mo_behindTest : MOK (cd_Mo_behindTest, 2, 0, 0) (⟨"DiffusingRoutesModel", "behindTest", "()I"⟩, prog_10_method_58_code, 2, (some .int), 8, 1, 0) := ⟨rfl, fun _ _ hr => chk_ok (l := rw_Mo_behindTest) (chk_cut 40 (by decide +kernel) (by decide +kernel)) hr⟩
set_option maxRecDepth 100000 in
theorem ok_Mo_readExpression : MOK (cd_Mo_readExpression, 3, 0, 0) (⟨"DiffusingRoutesModel", "readExpression", "(Z)V"⟩, prog_10_method_59_code, 3, none, 8, 1, 1) := ⟨rfl, fun _ _ hr => chk_ok (l := rw_Mo_readExpression) (chk_cut 40 (by decide +kernel) (by decide +kernel)) hr⟩
set_option maxRecDepth 100000 in
theorem ok_Mo_beginText : MOK (cd_Mo_beginText, 2, 0, 0) (⟨"DiffusingRoutesModel", "beginText", "(Z)V"⟩, prog_10_method_60_code, 2, none, 8, 1, 1) := ⟨rfl, fun _ _ hr => chk_ok (l := rw_Mo_beginText) (by decide +kernel) hr⟩
set_option maxRecDepth 100000 in
theorem ok_Mo_endText : MOK (cd_Mo_endText, 1, 0, 0) (⟨"DiffusingRoutesModel", "endText", "()V"⟩, prog_10_method_61_code, 1, none, 8, 1, 0) := ⟨rfl, fun _ _ hr => chk_ok (l := rw_Mo_endText) (by decide +kernel) hr⟩
set_option maxRecDepth 100000 in
theorem ok_Mo_readLaw : MOK (cd_Mo_readLaw, 4, 0, 0) (⟨"DiffusingRoutesModel", "readLaw", "()V"⟩, prog_10_method_62_code, 4, none, 8, 1, 0) := ⟨rfl, fun _ _ hr => chk_ok (l := rw_Mo_readLaw) (chk_cut 40 (by decide +kernel) (chk_cut 40 (by decide +kernel) (by decide +kernel))) hr⟩
set_option maxRecDepth 100000 in
theorem ok_Mo_law : MOK (cd_Mo_law, 3, 0, 0) (⟨"DiffusingRoutesModel", "law", "()I"⟩, prog_10_method_63_code, 3, (some .int), 8, 1, 0) := ⟨rfl, fun _ _ hr => chk_ok (l := rw_Mo_law) (chk_cut 40 (by decide +kernel) (chk_cut 40 (by decide +kernel) (chk_cut 40 (by decide +kernel) (by decide +kernel)))) hr⟩
set_option maxRecDepth 100000 in
theorem ok_Mo_isLaw : MOK (cd_Mo_isLaw, 2, 0, 0) (⟨"DiffusingRoutesModel", "isLaw", "(I)Z"⟩, prog_10_method_64_code, 2, (some .boolean), 8, 1, 1) := ⟨rfl, fun _ _ hr => chk_ok (l := rw_Mo_isLaw) (by decide +kernel) hr⟩
set_option maxRecDepth 100000 in
theorem ok_Mo_force : MOK (cd_Mo_force, 2, 0, 0) (⟨"DiffusingRoutesModel", "force", "(I)I"⟩, prog_10_method_65_code, 2, (some .int), 8, 1, 1) := ⟨rfl, fun _ _ hr => chk_ok (l := rw_Mo_force) (by decide +kernel) hr⟩
set_option maxRecDepth 100000 in
theorem ok_Mo_reckon : MOK (cd_Mo_reckon, 6, 0, 0) (⟨"DiffusingRoutesModel", "reckon", "(IJJ)J"⟩, prog_10_method_66_code, 6, (some .long), 8, 1, 3) := ⟨rfl, fun _ _ hr => chk_ok (l := rw_Mo_reckon) (chk_cut 40 (by decide +kernel) (by decide +kernel)) hr⟩
set_option maxRecDepth 100000 in
theorem ok_Mo_reckonAll : MOK (cd_Mo_reckonAll, 7, 0, 0) (⟨"DiffusingRoutesModel", "reckonAll", "(II)V"⟩, prog_10_method_67_code, 7, none, 8, 1, 2) := ⟨rfl, fun _ _ hr => chk_ok (l := rw_Mo_reckonAll) (chk_cut 40 (by decide +kernel) (chk_cut 40 (by decide +kernel) (chk_cut 40 (by decide +kernel) (chk_cut 40 (by decide +kernel) (by decide +kernel))))) hr⟩
set_option maxRecDepth 100000 in
theorem ok_Mo_isSo : MOK (cd_Mo_isSo, 2, 0, 0) (⟨"DiffusingRoutesModel", "isSo", "(I)Z"⟩, prog_10_method_68_code, 2, (some .boolean), 8, 1, 1) := ⟨rfl, fun _ _ hr => chk_ok (l := rw_Mo_isSo) (chk_cut 40 (by decide +kernel) (by decide +kernel)) hr⟩
