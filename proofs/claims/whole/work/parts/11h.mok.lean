/-! ===== the rows are the bytes' own (by program: wip/whole/gen_mok.py) ===== -/
set_option maxRecDepth 100000 in
theorem ok_Mo_tells : MOK (cd_Mo_tells, 8, 0, 0) (⟨"DiffusingRoutesModel", "tells", "(IJ)J"⟩, prog_10_method_69_code, 8, (some .long), 8, 1, 2) := ⟨rfl, fun _ _ hr => chk_ok (l := rw_Mo_tells) (chk_cut 40 (by decide +kernel) (by decide +kernel)) hr⟩
set_option maxRecDepth 100000 in
theorem ok_Mo_rank : MOK (cd_Mo_rank, 4, 0, 0) (⟨"DiffusingRoutesModel", "rank", "(I)I"⟩, prog_10_method_70_code, 4, (some .int), 8, 1, 1) := ⟨rfl, fun _ _ hr => chk_ok (l := rw_Mo_rank) (by decide +kernel) hr⟩
set_option maxRecDepth 100000 in
theorem ok_Mo_rankOf : MOK (cd_Mo_rankOf, 3, 0, 0) (⟨"DiffusingRoutesModel", "rankOf", "()I"⟩, prog_10_method_71_code, 3, (some .int), 8, 1, 0) := ⟨rfl, fun _ _ hr => chk_ok (l := rw_Mo_rankOf) (chk_cut 40 (by decide +kernel) (by decide +kernel)) hr⟩
set_option maxRecDepth 100000 in
theorem ok_Mo_isBarred : MOK (cd_Mo_isBarred, 4, 0, 0) (⟨"DiffusingRoutesModel", "isBarred", "(III)Z"⟩, prog_10_method_72_code, 4, (some .boolean), 8, 1, 3) := ⟨rfl, fun _ _ hr => chk_ok (l := rw_Mo_isBarred) (chk_cut 40 (by decide +kernel) (by decide +kernel)) hr⟩
set_option maxRecDepth 100000 in
theorem ok_Mo_send : MOK (cd_Mo_send, 5, 0, 0) (⟨"DiffusingRoutesModel", "send", "(III)V"⟩, prog_10_method_73_code, 5, none, 8, 1, 3) := ⟨rfl, fun _ _ hr => chk_ok (l := rw_Mo_send) (chk_cut 40 (by decide +kernel) (by decide +kernel)) hr⟩
set_option maxRecDepth 100000 in
theorem ok_Mo_sendAll : MOK (cd_Mo_sendAll, 5, 0, 0) (⟨"DiffusingRoutesModel", "sendAll", "(III)V"⟩, prog_10_method_74_code, 5, none, 8, 1, 3) := ⟨rfl, fun _ _ hr => chk_ok (l := rw_Mo_sendAll) (by decide +kernel) hr⟩
set_option maxRecDepth 100000 in
theorem ok_Mo_take : MOK (cd_Mo_take, 4, 0, 0) (⟨"DiffusingRoutesModel", "take", "(II)V"⟩, prog_10_method_75_code, 4, none, 8, 1, 2) := ⟨rfl, fun _ _ hr => chk_ok (l := rw_Mo_take) (chk_cut 40 (by decide +kernel) (by decide +kernel)) hr⟩
set_option maxRecDepth 100000 in
theorem ok_Mo_decide : MOK (cd_Mo_decide, 6, 0, 0) (⟨"DiffusingRoutesModel", "decide", "(II)V"⟩, prog_10_method_76_code, 6, none, 8, 1, 2) := ⟨rfl, fun _ _ hr => chk_ok (l := rw_Mo_decide) (chk_cut 40 (by decide +kernel) (by decide +kernel)) hr⟩
set_option maxRecDepth 100000 in
theorem ok_Mo_goActive : MOK (cd_Mo_goActive, 5, 0, 0) (⟨"DiffusingRoutesModel", "goActive", "(II)V"⟩, prog_10_method_77_code, 5, none, 8, 1, 2) := ⟨rfl, fun _ _ hr => chk_ok (l := rw_Mo_goActive) (chk_cut 40 (by decide +kernel) (chk_cut 40 (by decide +kernel) (by decide +kernel))) hr⟩
set_option maxRecDepth 100000 in
theorem ok_Mo_lowestBy : MOK (cd_Mo_lowestBy, 5, 0, 0) (⟨"DiffusingRoutesModel", "lowestBy", "(II)I"⟩, prog_10_method_78_code, 5, (some .int), 8, 1, 2) := ⟨rfl, fun _ _ hr => chk_ok (l := rw_Mo_lowestBy) (by decide +kernel) hr⟩
set_option maxRecDepth 100000 in
theorem ok_Mo_ends : MOK (cd_Mo_ends, 5, 0, 0) (⟨"DiffusingRoutesModel", "ends", "(I)V"⟩, prog_10_method_79_code, 5, none, 8, 1, 1) := ⟨rfl, fun _ _ hr => chk_ok (l := rw_Mo_ends) (chk_cut 40 (by decide +kernel) (chk_cut 40 (by decide +kernel) (by decide +kernel))) hr⟩
set_option maxRecDepth 100000 in
theorem ok_Mo_lose : MOK (cd_Mo_lose, 8, 0, 0) (⟨"DiffusingRoutesModel", "lose", "(II)V"⟩, prog_10_method_80_code, 8, none, 8, 1, 2) := ⟨rfl, fun _ _ hr => chk_ok (l := rw_Mo_lose) (chk_cut 40 (by decide +kernel) (by decide +kernel)) hr⟩
set_option maxRecDepth 100000 in
theorem ok_Mo_takesLink : MOK (cd_Mo_takesLink, 4, 0, 0) (⟨"DiffusingRoutesModel", "takesLink", "(II)V"⟩, prog_10_method_81_code, 4, none, 8, 1, 2) := ⟨rfl, fun _ _ hr => chk_ok (l := rw_Mo_takesLink) (chk_cut 40 (by decide +kernel) (chk_cut 40 (by decide +kernel) (by decide +kernel))) hr⟩
set_option maxRecDepth 100000 in
theorem ok_Mo_linkNow : MOK (cd_Mo_linkNow, 5, 0, 0) (⟨"DiffusingRoutesModel", "linkNow", "(III)I"⟩, prog_10_method_82_code, 5, (some .int), 8, 1, 3) := ⟨rfl, fun _ _ hr => chk_ok (l := rw_Mo_linkNow) (chk_cut 40 (by decide +kernel) (chk_cut 40 (by decide +kernel) (by decide +kernel))) hr⟩
set_option maxRecDepth 100000 in
theorem ok_Mo_link : MOK (cd_Mo_link, 4, 0, 0) (⟨"DiffusingRoutesModel", "link", "(III)I"⟩, prog_10_method_83_code, 4, (some .int), 8, 1, 3) := ⟨rfl, fun _ _ hr => chk_ok (l := rw_Mo_link) (by decide +kernel) hr⟩
set_option maxRecDepth 100000 in
theorem ok_Mo_nextMessage : MOK (cd_Mo_nextMessage, 8, 0, 0) (⟨"DiffusingRoutesModel", "nextMessage", "()I"⟩, prog_10_method_84_code, 8, (some .int), 8, 1, 0) := ⟨rfl, fun _ _ hr => chk_ok (l := rw_Mo_nextMessage) (chk_cut 40 (by decide +kernel) (by decide +kernel)) hr⟩
set_option maxRecDepth 100000 in
theorem ok_Mo_takeOut : MOK (cd_Mo_takeOut, 3, 0, 0) (⟨"DiffusingRoutesModel", "takeOut", "(I)V"⟩, prog_10_method_85_code, 3, none, 8, 1, 1) := ⟨rfl, fun _ _ hr => chk_ok (l := rw_Mo_takeOut) (by decide +kernel) hr⟩
set_option maxRecDepth 100000 in
theorem ok_Mo_takesActive : MOK (cd_Mo_takesActive, 6, 0, 0) (⟨"DiffusingRoutesModel", "takesActive", "(III)V"⟩, prog_10_method_86_code, 6, none, 8, 1, 3) := ⟨rfl, fun _ _ hr => chk_ok (l := rw_Mo_takesActive) (chk_cut 40 (by decide +kernel) (chk_cut 40 (by decide +kernel) (by decide +kernel))) hr⟩
