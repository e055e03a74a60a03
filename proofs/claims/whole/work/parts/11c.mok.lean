/-! ===== the rows are the bytes' own (by program: wip/whole/gen_mok.py) ===== -/
set_option maxRecDepth 100000 in
theorem ok_Re_readsTimes : MOK (cd_Re_readsTimes, 2, 0, 0) (⟨"DiffusingRoutes$Reader", "readsTimes", "(I)Z"⟩, prog_6_method_10_code, 2, (some .boolean), 4, 1, 1) := ⟨rfl, fun _ _ hr => chk_ok (l := rw_Re_readsTimes) (by decide +kernel) hr⟩
set_option maxRecDepth 100000 in
theorem ok_Re_readsTest : MOK (cd_Re_readsTest, 3, 0, 0) (⟨"DiffusingRoutes$Reader", "readsTest", "(I)Z"⟩, prog_6_method_11_code, 3, (some .boolean), 4, 1, 1) := ⟨rfl, fun _ _ hr => chk_ok (l := rw_Re_readsTest) (by decide +kernel) hr⟩
set_option maxRecDepth 100000 in
theorem ok_Re_readsChain : MOK (cd_Re_readsChain, 8, 0, 0) (⟨"DiffusingRoutes$Reader", "readsChain", "(II)Z"⟩, prog_6_method_12_code, 8, (some .boolean), 4, 1, 2) := ⟨rfl, fun _ _ hr => chk_ok (l := rw_Re_readsChain) (chk_cut 40 (by decide +kernel) (chk_cut 40 (by decide +kernel) (by decide +kernel))) hr⟩
set_option maxRecDepth 100000 in
theorem ok_Re_jointAt : MOK (cd_Re_jointAt, 2, 0, 0) (⟨"DiffusingRoutes$Reader", "jointAt", "(I)I"⟩, prog_6_method_13_code, 2, (some .int), 4, 1, 1) := ⟨rfl, fun _ _ hr => chk_ok (l := rw_Re_jointAt) (chk_cut 40 (by decide +kernel) (by decide +kernel)) hr⟩
set_option maxRecDepth 100000 in
theorem ok_Re_readsPlain : MOK (cd_Re_readsPlain, 4, 0, 0) (⟨"DiffusingRoutes$Reader", "readsPlain", "(I)Z"⟩, prog_6_method_14_code, 4, (some .boolean), 4, 1, 1) := ⟨rfl, fun _ _ hr => chk_ok (l := rw_Re_readsPlain) (chk_cut 40 (by decide +kernel) (by decide +kernel)) hr⟩
set_option maxRecDepth 100000 in
theorem ok_Re_readsComparison : MOK (cd_Re_readsComparison, 4, 0, 0) (⟨"DiffusingRoutes$Reader", "readsComparison", "(I)Z"⟩, prog_6_method_15_code, 4, (some .boolean), 4, 1, 1) := ⟨rfl, fun _ _ hr => chk_ok (l := rw_Re_readsComparison) (chk_cut 40 (by decide +kernel) (by decide +kernel)) hr⟩
set_option maxRecDepth 100000 in
theorem ok_Re_readsBracket : MOK (cd_Re_readsBracket, 4, 0, 0) (⟨"DiffusingRoutes$Reader", "readsBracket", "(ICI)Z"⟩, prog_6_method_16_code, 4, (some .boolean), 4, 1, 3) := ⟨rfl, fun _ _ hr => chk_ok (l := rw_Re_readsBracket) (by decide +kernel) hr⟩
set_option maxRecDepth 100000 in
theorem ok_Re_readsPart : MOK (cd_Re_readsPart, 5, 0, 0) (⟨"DiffusingRoutes$Reader", "readsPart", "(I)Z"⟩, prog_6_method_17_code, 5, (some .boolean), 4, 1, 1) := ⟨rfl, fun _ _ hr => chk_ok (l := rw_Re_readsPart) (chk_cut 40 (by decide +kernel) (chk_cut 40 (by decide +kernel) (by decide +kernel))) hr⟩
set_option maxRecDepth 100000 in
theorem ok_Re_wordAt : MOK (cd_Re_wordAt, 2, 0, 0) (⟨"DiffusingRoutes$Reader", "wordAt", "()I"⟩, prog_6_method_18_code, 2, (some .int), 4, 1, 0) := ⟨rfl, fun _ _ hr => chk_ok (l := rw_Re_wordAt) (chk_cut 40 (by decide +kernel) (chk_cut 40 (by decide +kernel) (by decide +kernel))) hr⟩
set_option maxRecDepth 100000 in
theorem ok_Ta_init : MOK (cd_Ta_init, 1, 1, 400) (⟨"DiffusingRoutes$Tape", "<init>", "()V"⟩, prog_7_method_1_code, 1, none, 5, 2, 0) := ⟨rfl, fun _ _ hr => chk_ok (l := rw_Ta_init) (by decide +kernel) hr⟩
set_option maxRecDepth 100000 in
theorem ok_Ta_hasRoom : MOK (cd_Ta_hasRoom, 1, 0, 0) (⟨"DiffusingRoutes$Tape", "hasRoom", "()Z"⟩, prog_7_method_2_code, 1, (some .boolean), 5, 1, 0) := ⟨rfl, fun _ _ hr => chk_ok (l := rw_Ta_hasRoom) (by decide +kernel) hr⟩
set_option maxRecDepth 100000 in
theorem ok_Ta_takes : MOK (cd_Ta_takes, 3, 0, 0) (⟨"DiffusingRoutes$Tape", "takes", "(I)V"⟩, prog_7_method_3_code, 3, none, 5, 1, 1) := ⟨rfl, fun _ _ hr => chk_ok (l := rw_Ta_takes) (by decide +kernel) hr⟩
set_option maxRecDepth 100000 in
theorem ok_Ta_starts : MOK (cd_Ta_starts, 1, 0, 0) (⟨"DiffusingRoutes$Tape", "starts", "()V"⟩, prog_7_method_4_code, 1, none, 5, 1, 0) := ⟨rfl, fun _ _ hr => chk_ok (l := rw_Ta_starts) (by decide +kernel) hr⟩
set_option maxRecDepth 100000 in
theorem ok_Ta_advances : MOK (cd_Ta_advances, 1, 0, 0) (⟨"DiffusingRoutes$Tape", "advances", "()V"⟩, prog_7_method_5_code, 1, none, 5, 1, 0) := ⟨rfl, fun _ _ hr => chk_ok (l := rw_Ta_advances) (chk_cut 40 (by decide +kernel) (chk_cut 40 (by decide +kernel) (chk_cut 40 (by decide +kernel) (by decide +kernel)))) hr⟩
set_option maxRecDepth 100000 in
theorem ok_Ta_isLetter : MOK (cd_Ta_isLetter, 1, 0, 0) (⟨"DiffusingRoutes$Tape", "isLetter", "(I)Z"⟩, prog_7_method_6_code, 1, (some .boolean), 5, 0, 1) := ⟨rfl, fun _ _ hr => chk_ok (l := rw_Ta_isLetter) (by decide +kernel) hr⟩
set_option maxRecDepth 100000 in
theorem ok_Ta_isDigit : MOK (cd_Ta_isDigit, 1, 0, 0) (⟨"DiffusingRoutes$Tape", "isDigit", "(I)Z"⟩, prog_7_method_7_code, 1, (some .boolean), 5, 0, 1) := ⟨rfl, fun _ _ hr => chk_ok (l := rw_Ta_isDigit) (by decide +kernel) hr⟩
set_option maxRecDepth 100000 in
theorem ok_Ta_hasWord : MOK (cd_Ta_hasWord, 3, 0, 0) (⟨"DiffusingRoutes$Tape", "hasWord", "(Ljava/lang/String;)Z"⟩, prog_7_method_8_code, 3, (some .boolean), 5, 1, 1) := ⟨rfl, fun _ _ hr => chk_ok (l := rw_Ta_hasWord) (by decide +kernel) hr⟩
set_option maxRecDepth 100000 in
theorem ok_Ta_hasSign : MOK (cd_Ta_hasSign, 2, 0, 0) (⟨"DiffusingRoutes$Tape", "hasSign", "(C)Z"⟩, prog_7_method_9_code, 2, (some .boolean), 5, 1, 1) := ⟨rfl, fun _ _ hr => chk_ok (l := rw_Ta_hasSign) (by decide +kernel) hr⟩
set_option maxRecDepth 100000 in
theorem ok_Ta_hasNumber : MOK (cd_Ta_hasNumber, 3, 0, 0) (⟨"DiffusingRoutes$Tape", "hasNumber", "(II)Z"⟩, prog_7_method_10_code, 3, (some .boolean), 5, 1, 2) := ⟨rfl, fun _ _ hr => chk_ok (l := rw_Ta_hasNumber) (by decide +kernel) hr⟩
set_option maxRecDepth 100000 in
theorem ok_Wo_init : MOK (cd_Wo_init, 1, 13, 591) (⟨"DiffusingRoutes$World", "<init>", "()V"⟩, prog_8_method_1_code, 1, none, 6, 2, 0) := ⟨rfl, fun _ _ hr => chk_ok (l := rw_Wo_init) (by decide +kernel) hr⟩
set_option maxRecDepth 100000 in
theorem ok_Wo_copies : MOK (cd_Wo_copies, 3, 0, 0) (⟨"DiffusingRoutes$World", "copies", "(LDiffusingRoutes$World;)V"⟩, prog_8_method_2_code, 3, none, 6, 1, 1) := ⟨rfl, fun _ _ hr => chk_ok (l := rw_Wo_copies) (chk_cut 40 (by decide +kernel) (by decide +kernel)) hr⟩
set_option maxRecDepth 100000 in
theorem ok_Wo_lawAt : MOK (cd_Wo_lawAt, 2, 0, 0) (⟨"DiffusingRoutes$World", "lawAt", "(I)LDiffusingRoutes$Program;"⟩, prog_8_method_3_code, 2, (some (.object "DiffusingRoutes$Program")), 6, 1, 1) := ⟨rfl, fun _ _ hr => chk_ok (l := rw_Wo_lawAt) (by decide +kernel) hr⟩
set_option maxRecDepth 100000 in
theorem ok_Wo_term : MOK (cd_Wo_term, 2, 0, 0) (⟨"DiffusingRoutes$World", "term", "(I)I"⟩, prog_8_method_4_code, 2, (some .int), 6, 1, 1) := ⟨rfl, fun _ _ hr => chk_ok (l := rw_Wo_term) (by decide +kernel) hr⟩
set_option maxRecDepth 100000 in
theorem ok_Wo_setTerm : MOK (cd_Wo_setTerm, 3, 0, 0) (⟨"DiffusingRoutes$World", "setTerm", "(II)V"⟩, prog_8_method_5_code, 3, none, 6, 1, 2) := ⟨rfl, fun _ _ hr => chk_ok (l := rw_Wo_setTerm) (by decide +kernel) hr⟩
set_option maxRecDepth 100000 in
theorem ok_Di_init : MOK (cd_Di_init, 2, 248, 13784) (⟨"DiffusingRoutes", "<init>", "()V"⟩, prog_1_method_1_code, 2, none, 7, 2, 0) := ⟨rfl, fun _ _ hr => chk_ok (l := rw_Di_init) (chk_cut 40 (by decide +kernel) (by decide +kernel)) hr⟩
set_option maxRecDepth 100000 in
theorem ok_Di_router : MOK (cd_Di_router, 4, 0, 0) (⟨"DiffusingRoutes", "router", "(II)I"⟩, prog_1_method_2_code, 4, (some .int), 7, 1, 2) := ⟨rfl, fun _ _ hr => chk_ok (l := rw_Di_router) (chk_cut 40 (by decide +kernel) (by decide +kernel)) hr⟩
