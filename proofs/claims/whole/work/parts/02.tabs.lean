/-! ===== classes, links, methods, by program (wip/whole/gen_tbl.py): names and field tables as kit/claim NAMES prints them ===== -/
def RX0 : String := "DiffusingRoutes$History"
def TX0 : u_T := fun k => match k with
  | 0 => ("DiffusingRoutes$History", "nets", "[LDiffusingRoutes$Net;", true)
  | 1 => ("DiffusingRoutes$History", "kinds", "[I", true)
  | 2 => ("DiffusingRoutes$History", "next", "I", false)
  | _ => ("DiffusingRoutes$History", "kept", "I", false)
def tyX0 : Nat → FieldType := fun k => match k with
  | 0 => .array (.object "DiffusingRoutes$Net")
  | 1 => .array .int
  | 2 => .int
  | _ => .int
abbrev wsX00 : List Cond := u_ws RX0 TX0 4
theorem nmX0 : ∀ a, a < 4 → ∀ b, b < 4 → a ≠ b → (TX0 a).2.1 ≠ (TX0 b).2.1 := by decide +kernel
theorem tyX0_ok : ∀ k, k < 4 → parseFieldDescriptor (TX0 k).2.2.1 = some (tyX0 k) := by decide +kernel
def RX1 : String := "DiffusingRoutes$Judge"
def TX1 : u_T := fun k => match k with
  | 0 => ("DiffusingRoutes$Judge", "facts", "[I", true)
  | _ => ("DiffusingRoutes$Judge", "stack", "[I", true)
def tyX1 : Nat → FieldType := fun k => match k with
  | 0 => .array .int
  | _ => .array .int
abbrev wsX10 : List Cond := u_ws RX1 TX1 2
theorem nmX1 : ∀ a, a < 2 → ∀ b, b < 2 → a ≠ b → (TX1 a).2.1 ≠ (TX1 b).2.1 := by decide +kernel
theorem tyX1_ok : ∀ k, k < 2 → parseFieldDescriptor (TX1 k).2.2.1 = some (tyX1 k) := by decide +kernel
def RX2 : String := "DiffusingRoutes$Net"
def TX2 : u_T := fun k => match k with
  | 0 => ("DiffusingRoutes$Net", "cost", "[I", true)
  | 1 => ("DiffusingRoutes$Net", "told", "[I", true)
  | 2 => ("DiffusingRoutes$Net", "near", "[I", true)
  | 3 => ("DiffusingRoutes$Net", "distance", "[I", true)
  | 4 => ("DiffusingRoutes$Net", "bound", "[I", true)
  | 5 => ("DiffusingRoutes$Net", "successor", "[I", true)
  | 6 => ("DiffusingRoutes$Net", "out", "[I", true)
  | 7 => ("DiffusingRoutes$Net", "owed", "[I", true)
  | 8 => ("DiffusingRoutes$Net", "queue", "[I", true)
  | 9 => ("DiffusingRoutes$Net", "waits", "I", false)
  | 10 => ("DiffusingRoutes$Net", "active", "I", false)
  | 11 => ("DiffusingRoutes$Net", "worse", "I", false)
  | _ => ("DiffusingRoutes$Net", "time", "I", false)
def tyX2 : Nat → FieldType := fun k => match k with
  | 0 => .array .int
  | 1 => .array .int
  | 2 => .array .int
  | 3 => .array .int
  | 4 => .array .int
  | 5 => .array .int
  | 6 => .array .int
  | 7 => .array .int
  | 8 => .array .int
  | 9 => .int
  | 10 => .int
  | 11 => .int
  | _ => .int
abbrev wsX20 : List Cond := u_ws RX2 TX2 13
theorem nmX2 : ∀ a, a < 13 → ∀ b, b < 13 → a ≠ b → (TX2 a).2.1 ≠ (TX2 b).2.1 := by decide +kernel
theorem tyX2_ok : ∀ k, k < 13 → parseFieldDescriptor (TX2 k).2.2.1 = some (tyX2 k) := by decide +kernel
def RX3 : String := "DiffusingRoutes$Program"
def TX3 : u_T := fun k => match k with
  | 0 => ("DiffusingRoutes$Program", "code", "[I", true)
  | 1 => ("DiffusingRoutes$Program", "clauses", "[I", true)
  | _ => ("DiffusingRoutes$Program", "clauseCount", "I", true)
def tyX3 : Nat → FieldType := fun k => match k with
  | 0 => .array .int
  | 1 => .array .int
  | _ => .int
abbrev wsX30 : List Cond := u_ws RX3 TX3 3
theorem nmX3 : ∀ a, a < 3 → ∀ b, b < 3 → a ≠ b → (TX3 a).2.1 ≠ (TX3 b).2.1 := by decide +kernel
theorem tyX3_ok : ∀ k, k < 3 → parseFieldDescriptor (TX3 k).2.2.1 = some (tyX3 k) := by decide +kernel
def RX4 : String := "DiffusingRoutes$Reader"
def TX4 : u_T := fun k => match k with
  | 0 => ("DiffusingRoutes$Reader", "tape", "LDiffusingRoutes$Tape;", true)
  | 1 => ("DiffusingRoutes$Reader", "code", "[I", true)
  | 2 => ("DiffusingRoutes$Reader", "clauses", "[I", true)
  | 3 => ("DiffusingRoutes$Reader", "codeLength", "I", false)
  | 4 => ("DiffusingRoutes$Reader", "parts", "I", false)
  | 5 => ("DiffusingRoutes$Reader", "orders", "Z", false)
  | _ => ("DiffusingRoutes$Reader", "fault", "I", false)
def tyX4 : Nat → FieldType := fun k => match k with
  | 0 => .object "DiffusingRoutes$Tape"
  | 1 => .array .int
  | 2 => .array .int
  | 3 => .int
  | 4 => .int
  | 5 => .boolean
  | _ => .int
abbrev wsX40 : List Cond := u_ws RX4 TX4 7
theorem nmX4 : ∀ a, a < 7 → ∀ b, b < 7 → a ≠ b → (TX4 a).2.1 ≠ (TX4 b).2.1 := by decide +kernel
theorem tyX4_ok : ∀ k, k < 7 → parseFieldDescriptor (TX4 k).2.2.1 = some (tyX4 k) := by decide +kernel
def RX5 : String := "DiffusingRoutes$Tape"
def TX5 : u_T := fun k => match k with
  | 0 => ("DiffusingRoutes$Tape", "bytes", "[I", true)
  | 1 => ("DiffusingRoutes$Tape", "length", "I", false)
  | 2 => ("DiffusingRoutes$Tape", "at", "I", false)
  | 3 => ("DiffusingRoutes$Tape", "behind", "I", false)
  | 4 => ("DiffusingRoutes$Tape", "type", "I", false)
  | _ => ("DiffusingRoutes$Tape", "number", "I", false)
def tyX5 : Nat → FieldType := fun k => match k with
  | 0 => .array .int
  | 1 => .int
  | 2 => .int
  | 3 => .int
  | 4 => .int
  | _ => .int
abbrev wsX50 : List Cond := u_ws RX5 TX5 6
theorem nmX5 : ∀ a, a < 6 → ∀ b, b < 6 → a ≠ b → (TX5 a).2.1 ≠ (TX5 b).2.1 := by decide +kernel
theorem tyX5_ok : ∀ k, k < 6 → parseFieldDescriptor (TX5 k).2.2.1 = some (tyX5 k) := by decide +kernel
def RX6 : String := "DiffusingRoutes$World"
def TX6 : u_T := fun k => match k with
  | 0 => ("DiffusingRoutes$World", "net", "LDiffusingRoutes$Net;", true)
  | 1 => ("DiffusingRoutes$World", "laws", "[LDiffusingRoutes$Program;", true)
  | 2 => ("DiffusingRoutes$World", "seenFact", "[I", true)
  | 3 => ("DiffusingRoutes$World", "seenNumber", "[I", true)
  | 4 => ("DiffusingRoutes$World", "lawCount", "I", false)
  | 5 => ("DiffusingRoutes$World", "force", "I", false)
  | 6 => ("DiffusingRoutes$World", "seenCount", "I", false)
  | 7 => ("DiffusingRoutes$World", "slips", "I", false)
  | _ => ("DiffusingRoutes$World", "mood", "I", false)
def tyX6 : Nat → FieldType := fun k => match k with
  | 0 => .object "DiffusingRoutes$Net"
  | 1 => .array (.object "DiffusingRoutes$Program")
  | 2 => .array .int
  | 3 => .array .int
  | 4 => .int
  | 5 => .int
  | 6 => .int
  | 7 => .int
  | _ => .int
abbrev wsX60 : List Cond := u_ws RX6 TX6 9
theorem nmX6 : ∀ a, a < 9 → ∀ b, b < 9 → a ≠ b → (TX6 a).2.1 ≠ (TX6 b).2.1 := by decide +kernel
theorem tyX6_ok : ∀ k, k < 9 → parseFieldDescriptor (TX6 k).2.2.1 = some (tyX6 k) := by decide +kernel
def RX7 : String := "DiffusingRoutes"
def TX7 : u_T := fun k => match k with
  | 0 => ("DiffusingRoutes", "now", "LDiffusingRoutes$World;", true)
  | 1 => ("DiffusingRoutes", "images", "[LDiffusingRoutes$World;", true)
  | 2 => ("DiffusingRoutes", "imagesKept", "I", false)
  | 3 => ("DiffusingRoutes", "history", "LDiffusingRoutes$History;", true)
  | 4 => ("DiffusingRoutes", "reader", "LDiffusingRoutes$Reader;", true)
  | 5 => ("DiffusingRoutes", "judge", "LDiffusingRoutes$Judge;", true)
  | 6 => ("DiffusingRoutes", "paper", "LDiffusingRoutes$Net;", true)
  | 7 => ("DiffusingRoutes", "latestDays", "LDiffusingRoutes$Net;", true)
  | 8 => ("DiffusingRoutes", "daysWere", "Z", false)
  | 9 => ("DiffusingRoutes", "ways", "[I", true)
  | 10 => ("DiffusingRoutes", "chances", "[J", true)
  | 11 => ("DiffusingRoutes", "sums", "[I", true)
  | 12 => ("DiffusingRoutes", "refusals", "[I", true)
  | 13 => ("DiffusingRoutes", "latestRefusal", "I", false)
  | 14 => ("DiffusingRoutes", "blotCount", "I", false)
  | _ => ("DiffusingRoutes", "stoppedAt", "I", false)
def tyX7 : Nat → FieldType := fun k => match k with
  | 0 => .object "DiffusingRoutes$World"
  | 1 => .array (.object "DiffusingRoutes$World")
  | 2 => .int
  | 3 => .object "DiffusingRoutes$History"
  | 4 => .object "DiffusingRoutes$Reader"
  | 5 => .object "DiffusingRoutes$Judge"
  | 6 => .object "DiffusingRoutes$Net"
  | 7 => .object "DiffusingRoutes$Net"
  | 8 => .boolean
  | 9 => .array .int
  | 10 => .array .long
  | 11 => .array .int
  | 12 => .array .int
  | 13 => .int
  | 14 => .int
  | _ => .int
abbrev wsX70 : List Cond := u_ws RX7 TX7 16
theorem nmX7 : ∀ a, a < 16 → ∀ b, b < 16 → a ≠ b → (TX7 a).2.1 ≠ (TX7 b).2.1 := by decide +kernel
theorem tyX7_ok : ∀ k, k < 16 → parseFieldDescriptor (TX7 k).2.2.1 = some (tyX7 k) := by decide +kernel
def RX8 : String := "DiffusingRoutesModel"
def TX8 : u_T := fun k => match k with
  | 0 => ("DiffusingRoutesModel", "thrown", "I", false)
  | 1 => ("DiffusingRoutesModel", "status", "I", false)
  | 2 => ("DiffusingRoutesModel", "refusals", "[I", true)
  | 3 => ("DiffusingRoutesModel", "row", "[I", true)
  | 4 => ("DiffusingRoutesModel", "images", "[I", true)
  | 5 => ("DiffusingRoutesModel", "isKept", "[Z", true)
  | 6 => ("DiffusingRoutesModel", "undos", "[I", true)
  | 7 => ("DiffusingRoutesModel", "sorts", "[I", true)
  | 8 => ("DiffusingRoutesModel", "nUndo", "I", false)
  | 9 => ("DiffusingRoutesModel", "undosBefore", "[I", true)
  | 10 => ("DiffusingRoutesModel", "sortsBefore", "[I", true)
  | 11 => ("DiffusingRoutesModel", "blots", "I", false)
  | 12 => ("DiffusingRoutesModel", "tape", "[I", true)
  | 13 => ("DiffusingRoutesModel", "taped", "I", false)
  | 14 => ("DiffusingRoutesModel", "from", "I", false)
  | 15 => ("DiffusingRoutesModel", "to", "I", false)
  | 16 => ("DiffusingRoutesModel", "sort", "I", false)
  | 17 => ("DiffusingRoutesModel", "worth", "J", false)
  | 18 => ("DiffusingRoutesModel", "fault", "I", false)
  | 19 => ("DiffusingRoutesModel", "bad", "Z", false)
  | 20 => ("DiffusingRoutesModel", "ordered", "Z", false)
  | 21 => ("DiffusingRoutesModel", "nClauses", "I", false)
  | 22 => ("DiffusingRoutesModel", "nClause", "[I", true)
  | 23 => ("DiffusingRoutesModel", "nCode", "I", false)
  | 24 => ("DiffusingRoutesModel", "nOp", "[I", true)
  | 25 => ("DiffusingRoutesModel", "nArg", "[I", true)
  | 26 => ("DiffusingRoutesModel", "nLeaves", "I", false)
  | 27 => ("DiffusingRoutesModel", "pile", "[I", true)
  | 28 => ("DiffusingRoutesModel", "pileAt", "[I", true)
  | 29 => ("DiffusingRoutesModel", "piled", "I", false)
  | 30 => ("DiffusingRoutesModel", "opened", "I", false)
  | 31 => ("DiffusingRoutesModel", "words", "[J", true)
  | 32 => ("DiffusingRoutesModel", "orderWords", "[J", true)
  | 33 => ("DiffusingRoutesModel", "heads", "[J", true)
  | 34 => ("DiffusingRoutesModel", "law", "I", false)
  | 35 => ("DiffusingRoutesModel", "set", "[J", true)
  | 36 => ("DiffusingRoutesModel", "now", "[J", true)
  | 37 => ("DiffusingRoutesModel", "rest", "[J", true)
  | 38 => ("DiffusingRoutesModel", "broken", "Z", false)
  | 39 => ("DiffusingRoutesModel", "value", "J", false)
  | 40 => ("DiffusingRoutesModel", "sum", "J", false)
  | 41 => ("DiffusingRoutesModel", "sums", "[I", true)
  | 42 => ("DiffusingRoutesModel", "thens", "[I", true)
  | 43 => ("DiffusingRoutesModel", "parts", "[J", true)
  | 44 => ("DiffusingRoutesModel", "acts", "[J", true)
  | 45 => ("DiffusingRoutesModel", "nOrder", "[I", true)
  | 46 => ("DiffusingRoutesModel", "done", "I", false)
  | 47 => ("DiffusingRoutesModel", "latest", "I", false)
  | 48 => ("DiffusingRoutesModel", "stopped", "I", false)
  | 49 => ("DiffusingRoutesModel", "off", "Z", false)
  | 50 => ("DiffusingRoutesModel", "state", "J", false)
  | 51 => ("DiffusingRoutesModel", "drawn", "[I", true)
  | _ => ("DiffusingRoutesModel", "isDrawn", "Z", false)
def tyX8 : Nat → FieldType := fun k => match k with
  | 0 => .int
  | 1 => .int
  | 2 => .array .int
  | 3 => .array .int
  | 4 => .array .int
  | 5 => .array .boolean
  | 6 => .array .int
  | 7 => .array .int
  | 8 => .int
  | 9 => .array .int
  | 10 => .array .int
  | 11 => .int
  | 12 => .array .int
  | 13 => .int
  | 14 => .int
  | 15 => .int
  | 16 => .int
  | 17 => .long
  | 18 => .int
  | 19 => .boolean
  | 20 => .boolean
  | 21 => .int
  | 22 => .array .int
  | 23 => .int
  | 24 => .array .int
  | 25 => .array .int
  | 26 => .int
  | 27 => .array .int
  | 28 => .array .int
  | 29 => .int
  | 30 => .int
  | 31 => .array .long
  | 32 => .array .long
  | 33 => .array .long
  | 34 => .int
  | 35 => .array .long
  | 36 => .array .long
  | 37 => .array .long
  | 38 => .boolean
  | 39 => .long
  | 40 => .long
  | 41 => .array .int
  | 42 => .array .int
  | 43 => .array .long
  | 44 => .array .long
  | 45 => .array .int
  | 46 => .int
  | 47 => .int
  | 48 => .int
  | 49 => .boolean
  | 50 => .long
  | 51 => .array .int
  | _ => .boolean
abbrev wsX80 : List Cond := u_ws RX8 TX8 53
theorem nmX8 : ∀ a, a < 53 → ∀ b, b < 53 → a ≠ b → (TX8 a).2.1 ≠ (TX8 b).2.1 := by decide +kernel
theorem tyX8_ok : ∀ k, k < 53 → parseFieldDescriptor (TX8 k).2.2.1 = some (tyX8 k) := by decide +kernel
abbrev vwCl : List vw_C := [(RX0, TX0, 4), (RX1, TX1, 2), (RX2, TX2, 13), (RX3, TX3, 3), (RX4, TX4, 7), (RX5, TX5, 6), (RX6, TX6, 9), (RX7, TX7, 16), (RX8, TX8, 53)]
def onm (k : Nat) : String := (["DiffusingRoutes$History", "DiffusingRoutes$Judge", "DiffusingRoutes$Net", "DiffusingRoutes$Program", "DiffusingRoutes$Reader", "DiffusingRoutes$Tape", "DiffusingRoutes$World", "DiffusingRoutes", "DiffusingRoutesModel", "DiffusingRoutesLaw", "java/util/Arrays", "java/lang/Integer", "java/lang/Math"] : List String).getD k ""
def vwT (ci : Nat) : u_T := (vwCl.getD ci ("", TX0, 0)).2.1
/-- words that hold wherever a run of the law stands -/
def stw : Cond → Bool
  | .fieldLinkNest _ _ _ _ _ _ => true
  | .methodLinkNest _ _ _ _ => true
  | .arrayOver (.object _) => true
  | .castable _ _ => true
  | w => goodWord w
def inT {α : Type} (l : List α) (ps : List Nat) (w : α → Cond) : Bool := (l.zip ps).all (fun q => decide (lw_tbl[q.2]? = some (w q.1)) && stw (w q.1)) && decide (l.length = ps.length)
theorem inT_mem {α : Type} {l : List α} {ps : List Nat} {w : α → Cond} (h : inT l ps w = true) {e : α} (he : e ∈ l) : w e ∈ lw_tbl ∧ stw (w e) = true := by
  unfold inT at h
  rw [Bool.and_eq_true, decide_eq_true_eq] at h
  obtain ⟨h1, h2⟩ := h
  obtain ⟨i, hi⟩ := List.getElem?_of_mem he
  have hlt : i < l.length := (List.getElem?_eq_some_iff.mp hi).1
  have hz : (l.zip ps)[i]? = some (e, ps[i]'(by omega)) := by
    rw [List.getElem?_zip_eq_some]
    exact ⟨hi, List.getElem?_eq_getElem (by omega)⟩
  have h3 := List.all_eq_true.mp h1 _ (List.mem_of_getElem? hz)
  rw [Bool.and_eq_true, decide_eq_true_eq] at h3
  exact ⟨List.mem_of_getElem? h3.1, h3.2⟩
def fT : List (Nat × Nat × Nat × Nat × Nat) := [(2, 9, 2, 0, 0), (7, 110, 2, 0, 1), (2, 15, 2, 1, 0), (7, 113, 2, 1, 1), (2, 18, 2, 2, 0), (7, 103, 2, 2, 1), (2, 21, 2, 3, 0), (7, 78, 2, 3, 1), (1, 27, 2, 3, 1), (2, 24, 2, 4, 0), (7, 81, 2, 4, 1), (2, 27, 2, 5, 0), (7, 84, 2, 5, 1), (2, 30, 2, 6, 0), (7, 94, 2, 6, 1), (2, 33, 2, 7, 0), (7, 97, 2, 7, 1), (2, 36, 2, 8, 0), (7, 129, 2, 8, 1), (1, 41, 2, 8, 1), (1, 18, 2, 9, 1), (2, 51, 2, 9, 0), (7, 126, 2, 9, 1), (7, 87, 2, 10, 1), (2, 55, 2, 10, 0), (1, 30, 2, 10, 1), (7, 100, 2, 11, 1), (2, 58, 2, 11, 0), (1, 24, 2, 12, 1), (2, 61, 2, 12, 0), (6, 57, 2, 12, 1), (6, 12, 6, 0, 0), (7, 75, 6, 0, 1), (6, 20, 6, 1, 0), (7, 215, 6, 1, 1), (6, 24, 6, 2, 0), (7, 262, 6, 2, 1), (6, 28, 6, 3, 0), (7, 265, 6, 3, 1), (6, 48, 6, 4, 0), (7, 208, 6, 4, 1), (6, 31, 6, 5, 0), (7, 151, 6, 5, 1), (6, 51, 6, 6, 0), (7, 259, 6, 6, 1), (6, 35, 6, 7, 0), (7, 285, 6, 7, 1), (6, 54, 6, 8, 0), (7, 144, 6, 8, 1), (0, 13, 0, 0, 0), (0, 17, 0, 1, 0), (0, 22, 0, 2, 0), (0, 30, 0, 3, 0), (7, 236, 0, 3, 1), (5, 9, 5, 0, 0), (7, 198, 5, 0, 1), (5, 13, 5, 1, 0), (7, 195, 5, 1, 1), (4, 68, 5, 2, 1), (5, 23, 5, 2, 0), (5, 17, 5, 3, 0), (4, 48, 5, 4, 1), (5, 29, 5, 4, 0), (5, 26, 5, 5, 0), (4, 124, 5, 5, 1), (4, 16, 4, 0, 0), (7, 181, 4, 0, 1), (4, 20, 4, 1, 0), (4, 24, 4, 2, 0), (4, 35, 4, 3, 0), (4, 38, 4, 4, 0), (4, 31, 4, 5, 0), (4, 27, 4, 6, 0), (7, 227, 4, 6, 1), (1, 11, 1, 0, 0), (1, 15, 1, 1, 0), (7, 10, 7, 0, 0), (7, 16, 7, 1, 0), (7, 301, 7, 2, 0), (7, 23, 7, 3, 0), (7, 30, 7, 4, 0), (7, 37, 7, 5, 0), (7, 44, 7, 6, 0), (7, 48, 7, 7, 0), (7, 291, 7, 8, 0), (7, 51, 7, 9, 0), (7, 55, 7, 10, 0), (7, 61, 7, 11, 0), (7, 64, 7, 12, 0), (7, 312, 7, 13, 0), (7, 205, 7, 14, 0), (7, 67, 7, 15, 0), (3, 9, 3, 0, 0), (1, 91, 3, 0, 1), (3, 13, 3, 1, 0), (3, 16, 3, 2, 0), (1, 65, 3, 2, 1), (7, 346, 3, 2, 1), (8, 134, 8, 0, 0), (8, 137, 8, 1, 0), (8, 7, 8, 2, 0), (8, 13, 8, 3, 0), (8, 16, 8, 4, 0), (8, 19, 8, 5, 0), (8, 24, 8, 6, 0), (8, 27, 8, 7, 0), (8, 140, 8, 8, 0), (8, 30, 8, 9, 0), (8, 33, 8, 10, 0), (8, 211, 8, 11, 0), (8, 36, 8, 12, 0), (8, 208, 8, 13, 0), (8, 231, 8, 14, 0), (8, 221, 8, 15, 0), (8, 244, 8, 16, 0), (8, 234, 8, 17, 0), (8, 39, 8, 18, 0), (8, 224, 8, 19, 0), (8, 301, 8, 20, 0), (8, 353, 8, 21, 0), (8, 43, 8, 22, 0), (8, 261, 8, 23, 0), (8, 46, 8, 24, 0), (8, 49, 8, 25, 0), (8, 292, 8, 26, 0), (8, 52, 8, 27, 0), (8, 55, 8, 28, 0), (8, 264, 8, 29, 0), (8, 286, 8, 30, 0), (8, 72, 8, 31, 0), (8, 84, 8, 32, 0), (8, 91, 8, 33, 0), (8, 376, 8, 34, 0), (8, 94, 8, 35, 0), (8, 97, 8, 36, 0), (8, 100, 8, 37, 0), (8, 373, 8, 38, 0), (8, 387, 8, 39, 0), (8, 393, 8, 40, 0), (8, 103, 8, 41, 0), (8, 106, 8, 42, 0), (8, 109, 8, 43, 0), (8, 118, 8, 44, 0), (8, 121, 8, 45, 0), (8, 508, 8, 46, 0), (8, 511, 8, 47, 0), (8, 124, 8, 48, 0), (8, 505, 8, 49, 0), (8, 529, 8, 50, 0), (8, 127, 8, 51, 0), (8, 543, 8, 52, 0)]
def fTW (e : Nat × Nat × Nat × Nat × Nat) : Cond := match e with
  | (o, ix, ci, k, 0) => .fieldLink (onm o) ix (vwT ci k).1 (vwT ci k).2.1 (vwT ci k).2.2.1
  | (o, ix, ci, k, _) => .fieldLinkNest (onm o) ix (vwT ci k).1 (vwT ci k).2.1 (vwT ci k).2.2.1 "DiffusingRoutes"
set_option maxRecDepth 100000 in
theorem fT_ok : inT fT [193, 194, 195, 196, 197, 198, 199, 200, 201, 202, 203, 204, 205, 206, 207, 208, 209, 210, 211, 212, 213, 214, 215, 216, 217, 218, 219, 220, 221, 222, 223, 254, 255, 256, 257, 258, 259, 260, 261, 262, 263, 264, 265, 266, 267, 268, 269, 270, 271, 301, 302, 303, 304, 305, 327, 328, 329, 330, 331, 332, 333, 334, 335, 336, 337, 351, 352, 353, 354, 355, 356, 357, 358, 359, 381, 382, 390, 391, 392, 393, 394, 395, 396, 397, 398, 399, 400, 401, 402, 403, 404, 405, 876, 877, 878, 879, 880, 881, 1100, 1101, 1102, 1103, 1104, 1105, 1106, 1107, 1108, 1109, 1110, 1111, 1112, 1113, 1114, 1115, 1116, 1117, 1118, 1119, 1120, 1121, 1122, 1123, 1124, 1125, 1126, 1127, 1128, 1129, 1130, 1131, 1132, 1133, 1134, 1135, 1136, 1137, 1138, 1139, 1140, 1141, 1142, 1143, 1144, 1145, 1146, 1147, 1148, 1149, 1150, 1151, 1152] fTW = true := by decide +kernel
def mT : List (MethodName × ByteArray × Nat × Option FieldType × Nat × Nat × Nat) := [(⟨"DiffusingRoutes$History", "<init>", "()V"⟩, prog_2_method_1_code, 2, none, 0, 2, 0), (⟨"DiffusingRoutes$History", "prepares", "(LDiffusingRoutes$Net;)V"⟩, prog_2_method_2_code, 2, none, 0, 1, 1), (⟨"DiffusingRoutes$History", "putsBack", "(LDiffusingRoutes$Net;)V"⟩, prog_2_method_3_code, 2, none, 0, 1, 1), (⟨"DiffusingRoutes$History", "keeps", "(I)V"⟩, prog_2_method_4_code, 2, none, 0, 1, 1), (⟨"DiffusingRoutes$History", "takesBack", "(LDiffusingRoutes$Net;)I"⟩, prog_2_method_5_code, 2, (some .int), 0, 1, 1), (⟨"DiffusingRoutes$History", "clears", "()V"⟩, prog_2_method_6_code, 1, none, 0, 1, 0), (⟨"DiffusingRoutes$Judge", "<init>", "()V"⟩, prog_3_method_1_code, 1, none, 1, 2, 0), (⟨"DiffusingRoutes$Judge", "looksAt", "(LDiffusingRoutes$Net;I)V"⟩, prog_3_method_2_code, 3, none, 1, 1, 2), (⟨"DiffusingRoutes$Judge", "looksAtRun", "(LDiffusingRoutes$Net;II)V"⟩, prog_3_method_3_code, 5, none, 1, 1, 3), (⟨"DiffusingRoutes$Judge", "looksAtChange", "(IIII)V"⟩, prog_3_method_4_code, 5, none, 1, 1, 4), (⟨"DiffusingRoutes$Judge", "first", "(LDiffusingRoutes$Net;LDiffusingRoutes$Program;I)I"⟩, prog_3_method_5_code, 13, (some .int), 1, 1, 3), (⟨"DiffusingRoutes$Judge", "rank", "(LDiffusingRoutes$Program;I)I"⟩, prog_3_method_6_code, 5, (some .int), 1, 1, 2), (⟨"DiffusingRoutes$Judge", "bars", "(LDiffusingRoutes$Program;III)Z"⟩, prog_3_method_7_code, 6, (some .boolean), 1, 1, 4), (⟨"DiffusingRoutes$Judge", "tellsSums", "(LDiffusingRoutes$Program;I[I)Z"⟩, prog_3_method_8_code, 6, (some .boolean), 1, 1, 3), (⟨"DiffusingRoutes$Judge", "value", "(LDiffusingRoutes$Program;I)I"⟩, prog_3_method_9_code, 9, (some .int), 1, 1, 2), (⟨"DiffusingRoutes$Judge", "joins", "(III)I"⟩, prog_3_method_10_code, 5, (some .int), 1, 0, 3), (⟨"DiffusingRoutes$Net", "<init>", "()V"⟩, prog_4_method_1_code, 1, none, 2, 2, 0), (⟨"DiffusingRoutes$Net", "copies", "(LDiffusingRoutes$Net;)V"⟩, prog_4_method_2_code, 2, none, 2, 1, 1), (⟨"DiffusingRoutes$Net", "kindOf", "(I)I"⟩, prog_4_method_3_code, 1, (some .int), 2, 0, 1), (⟨"DiffusingRoutes$Net", "fromOf", "(I)I"⟩, prog_4_method_4_code, 1, (some .int), 2, 0, 1), (⟨"DiffusingRoutes$Net", "toOf", "(I)I"⟩, prog_4_method_5_code, 1, (some .int), 2, 0, 1), (⟨"DiffusingRoutes$Net", "distanceOf", "(I)I"⟩, prog_4_method_6_code, 1, (some .int), 2, 0, 1), (⟨"DiffusingRoutes$Net", "linkCount", "()I"⟩, prog_4_method_7_code, 3, (some .int), 2, 1, 0), (⟨"DiffusingRoutes$Net", "waitOn", "(II)I"⟩, prog_4_method_8_code, 5, (some .int), 2, 1, 2), (⟨"DiffusingRoutes$Net", "fact", "(II)I"⟩, prog_4_method_9_code, 3, (some .int), 2, 1, 2), (⟨"DiffusingRoutes$Net", "by", "(II)I"⟩, prog_4_method_10_code, 4, (some .int), 2, 1, 2), (⟨"DiffusingRoutes$Net", "leastBy", "(I)I"⟩, prog_4_method_11_code, 4, (some .int), 2, 1, 1), (⟨"DiffusingRoutes$Net", "feasible", "(I)I"⟩, prog_4_method_12_code, 5, (some .int), 2, 1, 1), (⟨"DiffusingRoutes$Net", "sends", "(III)V"⟩, prog_4_method_13_code, 5, none, 2, 1, 3), (⟨"DiffusingRoutes$Net", "relinks", "(III)I"⟩, prog_4_method_14_code, 5, (some .int), 2, 1, 3), (⟨"DiffusingRoutes$Net", "losesMessages", "(II)V"⟩, prog_4_method_15_code, 8, none, 2, 1, 2), (⟨"DiffusingRoutes$Net", "takesChange", "(II)V"⟩, prog_4_method_16_code, 3, none, 2, 1, 2), (⟨"DiffusingRoutes$Net", "looksAtSuccessor", "(II)V"⟩, prog_4_method_17_code, 3, none, 2, 1, 2), (⟨"DiffusingRoutes$Net", "delivers", "(I)I"⟩, prog_4_method_18_code, 6, (some .int), 2, 1, 1), (⟨"DiffusingRoutes$Net", "hears", "(III)V"⟩, prog_4_method_19_code, 4, none, 2, 1, 3), (⟨"DiffusingRoutes$Net", "cuts", "(I)I"⟩, prog_4_method_20_code, 4, (some .int), 2, 1, 1), (⟨"DiffusingRoutes$Net", "decides", "(II)V"⟩, prog_4_method_21_code, 4, none, 2, 1, 2), (⟨"DiffusingRoutes$Net", "takesLeast", "(II)Z"⟩, prog_4_method_22_code, 8, (some .boolean), 2, 1, 2), (⟨"DiffusingRoutes$Net", "goesActive", "(II)V"⟩, prog_4_method_23_code, 3, none, 2, 1, 2), (⟨"DiffusingRoutes$Net", "ends", "(I)V"⟩, prog_4_method_24_code, 3, none, 2, 1, 1), (⟨"DiffusingRoutes$Program", "<init>", "([I[II)V"⟩, prog_5_method_1_code, 4, none, 3, 2, 3), (⟨"DiffusingRoutes$Program", "kind", "(I)I"⟩, prog_5_method_2_code, 2, (some .int), 3, 1, 1), (⟨"DiffusingRoutes$Program", "times", "(I)I"⟩, prog_5_method_3_code, 2, (some .int), 3, 1, 1), (⟨"DiffusingRoutes$Program", "test", "(I)I"⟩, prog_5_method_4_code, 2, (some .int), 3, 1, 1), (⟨"DiffusingRoutes$Program", "sum", "(II)I"⟩, prog_5_method_5_code, 3, (some .int), 3, 1, 2), (⟨"DiffusingRoutes$Reader", "<init>", "()V"⟩, prog_6_method_1_code, 1, none, 4, 2, 0), (⟨"DiffusingRoutes$Reader", "reads", "(Z)LDiffusingRoutes$Program;"⟩, prog_6_method_2_code, 4, (some (.object "DiffusingRoutes$Program")), 4, 1, 1), (⟨"DiffusingRoutes$Reader", "fails", "()Z"⟩, prog_6_method_3_code, 1, (some .boolean), 4, 1, 0), (⟨"DiffusingRoutes$Reader", "takesSign", "(C)Z"⟩, prog_6_method_4_code, 2, (some .boolean), 4, 1, 1), (⟨"DiffusingRoutes$Reader", "takesWord", "(Ljava/lang/String;)Z"⟩, prog_6_method_5_code, 2, (some .boolean), 4, 1, 1), (⟨"DiffusingRoutes$Reader", "emits", "(II)V"⟩, prog_6_method_6_code, 3, none, 4, 1, 2), (⟨"DiffusingRoutes$Reader", "readsClause", "(I)Z"⟩, prog_6_method_7_code, 4, (some .boolean), 4, 1, 1), (⟨"DiffusingRoutes$Reader", "kindAt", "()I"⟩, prog_6_method_8_code, 1, (some .int), 4, 1, 0), (⟨"DiffusingRoutes$Reader", "readsSums", "(II)Z"⟩, prog_6_method_9_code, 5, (some .boolean), 4, 1, 2), (⟨"DiffusingRoutes$Reader", "readsTimes", "(I)Z"⟩, prog_6_method_10_code, 2, (some .boolean), 4, 1, 1), (⟨"DiffusingRoutes$Reader", "readsTest", "(I)Z"⟩, prog_6_method_11_code, 3, (some .boolean), 4, 1, 1), (⟨"DiffusingRoutes$Reader", "readsChain", "(II)Z"⟩, prog_6_method_12_code, 8, (some .boolean), 4, 1, 2), (⟨"DiffusingRoutes$Reader", "jointAt", "(I)I"⟩, prog_6_method_13_code, 2, (some .int), 4, 1, 1), (⟨"DiffusingRoutes$Reader", "readsPlain", "(I)Z"⟩, prog_6_method_14_code, 4, (some .boolean), 4, 1, 1), (⟨"DiffusingRoutes$Reader", "readsComparison", "(I)Z"⟩, prog_6_method_15_code, 4, (some .boolean), 4, 1, 1), (⟨"DiffusingRoutes$Reader", "readsBracket", "(ICI)Z"⟩, prog_6_method_16_code, 4, (some .boolean), 4, 1, 3), (⟨"DiffusingRoutes$Reader", "readsPart", "(I)Z"⟩, prog_6_method_17_code, 5, (some .boolean), 4, 1, 1), (⟨"DiffusingRoutes$Reader", "wordAt", "()I"⟩, prog_6_method_18_code, 2, (some .int), 4, 1, 0), (⟨"DiffusingRoutes$Tape", "<init>", "()V"⟩, prog_7_method_1_code, 1, none, 5, 2, 0), (⟨"DiffusingRoutes$Tape", "hasRoom", "()Z"⟩, prog_7_method_2_code, 1, (some .boolean), 5, 1, 0), (⟨"DiffusingRoutes$Tape", "takes", "(I)V"⟩, prog_7_method_3_code, 3, none, 5, 1, 1), (⟨"DiffusingRoutes$Tape", "starts", "()V"⟩, prog_7_method_4_code, 1, none, 5, 1, 0), (⟨"DiffusingRoutes$Tape", "advances", "()V"⟩, prog_7_method_5_code, 1, none, 5, 1, 0), (⟨"DiffusingRoutes$Tape", "isLetter", "(I)Z"⟩, prog_7_method_6_code, 1, (some .boolean), 5, 0, 1), (⟨"DiffusingRoutes$Tape", "isDigit", "(I)Z"⟩, prog_7_method_7_code, 1, (some .boolean), 5, 0, 1), (⟨"DiffusingRoutes$Tape", "hasWord", "(Ljava/lang/String;)Z"⟩, prog_7_method_8_code, 3, (some .boolean), 5, 1, 1), (⟨"DiffusingRoutes$Tape", "hasSign", "(C)Z"⟩, prog_7_method_9_code, 2, (some .boolean), 5, 1, 1), (⟨"DiffusingRoutes$Tape", "hasNumber", "(II)Z"⟩, prog_7_method_10_code, 3, (some .boolean), 5, 1, 2), (⟨"DiffusingRoutes$World", "<init>", "()V"⟩, prog_8_method_1_code, 1, none, 6, 2, 0), (⟨"DiffusingRoutes$World", "copies", "(LDiffusingRoutes$World;)V"⟩, prog_8_method_2_code, 3, none, 6, 1, 1), (⟨"DiffusingRoutes$World", "lawAt", "(I)LDiffusingRoutes$Program;"⟩, prog_8_method_3_code, 2, (some (.object "DiffusingRoutes$Program")), 6, 1, 1), (⟨"DiffusingRoutes$World", "term", "(I)I"⟩, prog_8_method_4_code, 2, (some .int), 6, 1, 1), (⟨"DiffusingRoutes$World", "setTerm", "(II)V"⟩, prog_8_method_5_code, 3, none, 6, 1, 2), (⟨"DiffusingRoutes", "<init>", "()V"⟩, prog_1_method_1_code, 2, none, 7, 2, 0), (⟨"DiffusingRoutes", "router", "(II)I"⟩, prog_1_method_2_code, 4, (some .int), 7, 1, 2), (⟨"DiffusingRoutes", "between", "(III)I"⟩, prog_1_method_3_code, 5, (some .int), 7, 1, 3), (⟨"DiffusingRoutes", "message", "(II)I"⟩, prog_1_method_4_code, 4, (some .int), 7, 1, 2), (⟨"DiffusingRoutes", "terms", "(II)I"⟩, prog_1_method_5_code, 4, (some .int), 7, 1, 2), (⟨"DiffusingRoutes", "feed", "(IIIII)I"⟩, prog_1_method_6_code, 7, (some .int), 7, 1, 5), (⟨"DiffusingRoutes", "end", "(I)I"⟩, prog_1_method_7_code, 2, (some .int), 7, 1, 1), (⟨"DiffusingRoutes", "row", "()I"⟩, prog_1_method_8_code, 7, (some .int), 7, 1, 0), (⟨"DiffusingRoutes", "blots", "()I"⟩, prog_1_method_9_code, 1, (some .int), 7, 1, 0), (⟨"DiffusingRoutes", "law", "()I"⟩, prog_1_method_10_code, 2, (some .int), 7, 1, 0), (⟨"DiffusingRoutes", "orders", "()I"⟩, prog_1_method_11_code, 2, (some .int), 7, 1, 0), (⟨"DiffusingRoutes", "fault", "()I"⟩, prog_1_method_12_code, 1, (some .int), 7, 1, 0), (⟨"DiffusingRoutes", "stopped", "()I"⟩, prog_1_method_13_code, 1, (some .int), 7, 1, 0), (⟨"DiffusingRoutes", "force", "(I)I"⟩, prog_1_method_14_code, 3, (some .int), 7, 1, 1), (⟨"DiffusingRoutes", "link", "(III)I"⟩, prog_1_method_15_code, 4, (some .int), 7, 1, 3), (⟨"DiffusingRoutes", "step", "()I"⟩, prog_1_method_16_code, 1, (some .int), 7, 1, 0), (⟨"DiffusingRoutes", "cut", "(I)I"⟩, prog_1_method_17_code, 2, (some .int), 7, 1, 1), (⟨"DiffusingRoutes", "undo", "()I"⟩, prog_1_method_18_code, 1, (some .int), 7, 1, 0), (⟨"DiffusingRoutes", "path", "(II)I"⟩, prog_1_method_19_code, 5, (some .int), 7, 1, 2), (⟨"DiffusingRoutes", "loops", "()I"⟩, prog_1_method_20_code, 3, (some .int), 7, 1, 0), (⟨"DiffusingRoutes", "least", "(I)I"⟩, prog_1_method_21_code, 3, (some .int), 7, 1, 1), (⟨"DiffusingRoutes", "quiet", "()I"⟩, prog_1_method_22_code, 1, (some .int), 7, 1, 0), (⟨"DiffusingRoutes", "then", "(I)I"⟩, prog_1_method_23_code, 2, (some .int), 7, 1, 1), (⟨"DiffusingRoutes", "seen", "(II)I"⟩, prog_1_method_24_code, 3, (some .int), 7, 1, 2), (⟨"DiffusingRoutes", "forget", "()I"⟩, prog_1_method_25_code, 2, (some .int), 7, 1, 0), (⟨"DiffusingRoutes", "canBe", "()I"⟩, prog_1_method_26_code, 3, (some .int), 7, 1, 0), (⟨"DiffusingRoutes", "ask", "(I)I"⟩, prog_1_method_27_code, 7, (some .int), 7, 1, 1), (⟨"DiffusingRoutes", "few", "(II)J"⟩, prog_1_method_28_code, 9, (some .long), 7, 1, 2), (⟨"DiffusingRoutes", "compare", "(I)I"⟩, prog_1_method_29_code, 2, (some .int), 7, 1, 1), (⟨"DiffusingRoutes", "days", "(II)I"⟩, prog_1_method_30_code, 9, (some .int), 7, 1, 2), (⟨"DiffusingRoutes", "drawn", "(II)I"⟩, prog_1_method_31_code, 3, (some .int), 7, 1, 2), (⟨"DiffusingRoutes", "image", "(I)I"⟩, prog_1_method_32_code, 2, (some .int), 7, 1, 1), (⟨"DiffusingRoutes", "back", "(I)I"⟩, prog_1_method_33_code, 2, (some .int), 7, 1, 1), (⟨"DiffusingRoutes", "count", "(I)I"⟩, prog_1_method_34_code, 2, (some .int), 7, 1, 1), (⟨"DiffusingRoutes", "status", "()I"⟩, prog_1_method_35_code, 1, (some .int), 7, 1, 0), (⟨"DiffusingRoutes", "isRouter", "(I)Z"⟩, prog_1_method_36_code, 1, (some .boolean), 7, 0, 1), (⟨"DiffusingRoutes", "arePair", "(II)Z"⟩, prog_1_method_37_code, 2, (some .boolean), 7, 0, 2), (⟨"DiffusingRoutes", "bit", "(II)I"⟩, prog_1_method_38_code, 2, (some .int), 7, 0, 2), (⟨"DiffusingRoutes", "isLawOrNone", "(I)Z"⟩, prog_1_method_39_code, 2, (some .boolean), 7, 1, 1), (⟨"DiffusingRoutes", "went", "(I)I"⟩, prog_1_method_40_code, 2, (some .int), 7, 1, 1), (⟨"DiffusingRoutes", "refused", "(I)I"⟩, prog_1_method_41_code, 3, (some .int), 7, 1, 1), (⟨"DiffusingRoutes", "answered", "(I)I"⟩, prog_1_method_42_code, 2, (some .int), 7, 1, 1), (⟨"DiffusingRoutes", "act", "(LDiffusingRoutes$Net;ZIIII)I"⟩, prog_1_method_43_code, 9, (some .int), 7, 1, 6), (⟨"DiffusingRoutes", "refusalOf", "(LDiffusingRoutes$Net;IIII)I"⟩, prog_1_method_44_code, 6, (some .int), 7, 1, 5), (⟨"DiffusingRoutes", "run", "(LDiffusingRoutes$Program;LDiffusingRoutes$Net;Z)I"⟩, prog_1_method_45_code, 11, (some .int), 7, 1, 3), (⟨"DiffusingRoutes", "comesToItself", "(I)Z"⟩, prog_1_method_46_code, 4, (some .boolean), 7, 1, 1), (⟨"DiffusingRoutes", "shortenWays", "()V"⟩, prog_1_method_47_code, 4, none, 7, 1, 0), (⟨"DiffusingRoutes", "stepsTillQuiet", "(LDiffusingRoutes$Program;)I"⟩, prog_1_method_48_code, 3, (some .int), 7, 1, 1), (⟨"DiffusingRoutes", "isAsSeen", "(I)Z"⟩, prog_1_method_49_code, 3, (some .boolean), 7, 1, 1), (⟨"DiffusingRoutes", "mostAlike", "(II)I"⟩, prog_1_method_50_code, 7, (some .int), 7, 1, 2), (⟨"DiffusingRoutes", "drawFrom", "(I)I"⟩, prog_1_method_51_code, 1, (some .int), 7, 0, 1), (⟨"DiffusingRoutesModel", "<init>", "()V"⟩, prog_10_method_1_code, 3, none, 8, 2, 0), (⟨"DiffusingRoutesModel", "in", "(JJJ)Z"⟩, prog_10_method_3_code, 6, (some .boolean), 8, 0, 3), (⟨"DiffusingRoutesModel", "is", "(II)Z"⟩, prog_10_method_4_code, 2, (some .boolean), 8, 0, 2), (⟨"DiffusingRoutesModel", "many", "(I)I"⟩, prog_10_method_5_code, 3, (some .int), 8, 0, 1), (⟨"DiffusingRoutesModel", "tell", "(I)I"⟩, prog_10_method_6_code, 2, (some .int), 8, 1, 1), (⟨"DiffusingRoutesModel", "change", "(II)I"⟩, prog_10_method_7_code, 4, (some .int), 8, 1, 2), (⟨"DiffusingRoutesModel", "keepAll", "(I)V"⟩, prog_10_method_8_code, 3, none, 8, 1, 1), (⟨"DiffusingRoutesModel", "putBack", "(I)V"⟩, prog_10_method_9_code, 3, none, 8, 1, 1), (⟨"DiffusingRoutesModel", "remember", "(I)V"⟩, prog_10_method_10_code, 3, none, 8, 1, 1), (⟨"DiffusingRoutesModel", "over", "(II)I"⟩, prog_10_method_11_code, 3, (some .int), 8, 1, 2), (⟨"DiffusingRoutesModel", "undo", "()I"⟩, prog_10_method_12_code, 1, (some .int), 8, 1, 0), (⟨"DiffusingRoutesModel", "image", "(I)I"⟩, prog_10_method_13_code, 3, (some .int), 8, 1, 1), (⟨"DiffusingRoutesModel", "back", "(I)I"⟩, prog_10_method_14_code, 3, (some .int), 8, 1, 1), (⟨"DiffusingRoutesModel", "routerAt", "(I)I"⟩, prog_10_method_15_code, 1, (some .int), 8, 0, 1), (⟨"DiffusingRoutesModel", "isRouter", "(I)Z"⟩, prog_10_method_16_code, 1, (some .boolean), 8, 0, 1), (⟨"DiffusingRoutesModel", "isPair", "(II)Z"⟩, prog_10_method_17_code, 2, (some .boolean), 8, 0, 2), (⟨"DiffusingRoutesModel", "cost", "(II)I"⟩, prog_10_method_18_code, 3, (some .int), 8, 1, 2), (⟨"DiffusingRoutesModel", "neighbours", "(I)I"⟩, prog_10_method_19_code, 4, (some .int), 8, 1, 1), (⟨"DiffusingRoutesModel", "by", "(II)I"⟩, prog_10_method_20_code, 4, (some .int), 8, 1, 2), (⟨"DiffusingRoutesModel", "isFeasible", "(II)Z"⟩, prog_10_method_21_code, 3, (some .boolean), 8, 1, 2), (⟨"DiffusingRoutesModel", "leastBy", "(I)I"⟩, prog_10_method_22_code, 4, (some .int), 8, 1, 1), (⟨"DiffusingRoutesModel", "best", "(I)I"⟩, prog_10_method_23_code, 5, (some .int), 8, 1, 1), (⟨"DiffusingRoutesModel", "router", "(II)I"⟩, prog_10_method_24_code, 3, (some .int), 8, 1, 2), (⟨"DiffusingRoutesModel", "waiting", "(II)I"⟩, prog_10_method_25_code, 5, (some .int), 8, 1, 2), (⟨"DiffusingRoutesModel", "between", "(III)I"⟩, prog_10_method_26_code, 4, (some .int), 8, 1, 3), (⟨"DiffusingRoutesModel", "messageAt", "(I)I"⟩, prog_10_method_27_code, 1, (some .int), 8, 0, 1), (⟨"DiffusingRoutesModel", "message", "(II)I"⟩, prog_10_method_28_code, 3, (some .int), 8, 1, 2), (⟨"DiffusingRoutesModel", "termAt", "(I)I"⟩, prog_10_method_29_code, 1, (some .int), 8, 0, 1), (⟨"DiffusingRoutesModel", "terms", "(II)I"⟩, prog_10_method_30_code, 4, (some .int), 8, 1, 2), (⟨"DiffusingRoutesModel", "row", "()I"⟩, prog_10_method_31_code, 4, (some .int), 8, 1, 0), (⟨"DiffusingRoutesModel", "blots", "()I"⟩, prog_10_method_32_code, 1, (some .int), 8, 1, 0), (⟨"DiffusingRoutesModel", "four", "(I)V"⟩, prog_10_method_33_code, 3, none, 8, 1, 1), (⟨"DiffusingRoutesModel", "feed", "(IIIII)I"⟩, prog_10_method_34_code, 6, (some .int), 8, 1, 5), (⟨"DiffusingRoutesModel", "end", "(I)I"⟩, prog_10_method_35_code, 2, (some .int), 8, 1, 1), (⟨"DiffusingRoutesModel", "isSmall", "(I)Z"⟩, prog_10_method_36_code, 1, (some .boolean), 8, 0, 1), (⟨"DiffusingRoutesModel", "isDigit", "(I)Z"⟩, prog_10_method_37_code, 1, (some .boolean), 8, 0, 1), (⟨"DiffusingRoutesModel", "beginTape", "()V"⟩, prog_10_method_38_code, 1, none, 8, 1, 0), (⟨"DiffusingRoutesModel", "next", "()V"⟩, prog_10_method_39_code, 1, none, 8, 1, 0), (⟨"DiffusingRoutesModel", "isWord", "(J)Z"⟩, prog_10_method_40_code, 3, (some .boolean), 8, 1, 1), (⟨"DiffusingRoutesModel", "isSign", "(I)Z"⟩, prog_10_method_41_code, 2, (some .boolean), 8, 1, 1), (⟨"DiffusingRoutesModel", "must", "(Z)V"⟩, prog_10_method_42_code, 2, none, 8, 1, 1), (⟨"DiffusingRoutesModel", "number", "(JJ)I"⟩, prog_10_method_43_code, 6, (some .int), 8, 1, 2), (⟨"DiffusingRoutesModel", "fault", "()I"⟩, prog_10_method_44_code, 1, (some .int), 8, 1, 0), (⟨"DiffusingRoutesModel", "emit", "(II)V"⟩, prog_10_method_45_code, 3, none, 8, 1, 2), (⟨"DiffusingRoutesModel", "push", "(II)V"⟩, prog_10_method_46_code, 3, none, 8, 1, 2), (⟨"DiffusingRoutesModel", "binds", "(I)I"⟩, prog_10_method_47_code, 1, (some .int), 8, 0, 1), (⟨"DiffusingRoutesModel", "settle", "(I)V"⟩, prog_10_method_48_code, 2, none, 8, 1, 1), (⟨"DiffusingRoutesModel", "inner", "()I"⟩, prog_10_method_49_code, 3, (some .int), 8, 1, 0), (⟨"DiffusingRoutesModel", "isCompared", "()Z"⟩, prog_10_method_50_code, 2, (some .boolean), 8, 1, 0), (⟨"DiffusingRoutesModel", "partAt", "()I"⟩, prog_10_method_51_code, 3, (some .int), 8, 1, 0), (⟨"DiffusingRoutesModel", "orderPartAt", "()I"⟩, prog_10_method_52_code, 3, (some .int), 8, 1, 0), (⟨"DiffusingRoutesModel", "openBracket", "(I)V"⟩, prog_10_method_53_code, 2, none, 8, 1, 1), (⟨"DiffusingRoutesModel", "leaf", "(ZII)V"⟩, prog_10_method_54_code, 4, none, 8, 1, 3), (⟨"DiffusingRoutesModel", "readPart", "()I"⟩, prog_10_method_55_code, 4, (some .int), 8, 1, 0), (⟨"DiffusingRoutesModel", "readPlain", "()I"⟩, prog_10_method_56_code, 1, (some .int), 8, 1, 0), (⟨"DiffusingRoutesModel", "behindSum", "(Z)I"⟩, prog_10_method_57_code, 4, (some .int), 8, 1, 1), (⟨"DiffusingRoutesModel", "behindTest", "()I"⟩, prog_10_method_58_code, 2, (some .int), 8, 1, 0), (⟨"DiffusingRoutesModel", "readExpression", "(Z)V"⟩, prog_10_method_59_code, 3, none, 8, 1, 1), (⟨"DiffusingRoutesModel", "beginText", "(Z)V"⟩, prog_10_method_60_code, 2, none, 8, 1, 1), (⟨"DiffusingRoutesModel", "endText", "()V"⟩, prog_10_method_61_code, 1, none, 8, 1, 0), (⟨"DiffusingRoutesModel", "readLaw", "()V"⟩, prog_10_method_62_code, 4, none, 8, 1, 0), (⟨"DiffusingRoutesModel", "law", "()I"⟩, prog_10_method_63_code, 3, (some .int), 8, 1, 0), (⟨"DiffusingRoutesModel", "isLaw", "(I)Z"⟩, prog_10_method_64_code, 2, (some .boolean), 8, 1, 1), (⟨"DiffusingRoutesModel", "force", "(I)I"⟩, prog_10_method_65_code, 2, (some .int), 8, 1, 1), (⟨"DiffusingRoutesModel", "reckon", "(IJJ)J"⟩, prog_10_method_66_code, 6, (some .long), 8, 1, 3), (⟨"DiffusingRoutesModel", "reckonAll", "(II)V"⟩, prog_10_method_67_code, 7, none, 8, 1, 2), (⟨"DiffusingRoutesModel", "isSo", "(I)Z"⟩, prog_10_method_68_code, 2, (some .boolean), 8, 1, 1), (⟨"DiffusingRoutesModel", "tells", "(IJ)J"⟩, prog_10_method_69_code, 8, (some .long), 8, 1, 2), (⟨"DiffusingRoutesModel", "rank", "(I)I"⟩, prog_10_method_70_code, 4, (some .int), 8, 1, 1), (⟨"DiffusingRoutesModel", "rankOf", "()I"⟩, prog_10_method_71_code, 3, (some .int), 8, 1, 0), (⟨"DiffusingRoutesModel", "isBarred", "(III)Z"⟩, prog_10_method_72_code, 4, (some .boolean), 8, 1, 3), (⟨"DiffusingRoutesModel", "send", "(III)V"⟩, prog_10_method_73_code, 5, none, 8, 1, 3), (⟨"DiffusingRoutesModel", "sendAll", "(III)V"⟩, prog_10_method_74_code, 5, none, 8, 1, 3), (⟨"DiffusingRoutesModel", "take", "(II)V"⟩, prog_10_method_75_code, 4, none, 8, 1, 2), (⟨"DiffusingRoutesModel", "decide", "(II)V"⟩, prog_10_method_76_code, 6, none, 8, 1, 2), (⟨"DiffusingRoutesModel", "goActive", "(II)V"⟩, prog_10_method_77_code, 5, none, 8, 1, 2), (⟨"DiffusingRoutesModel", "lowestBy", "(II)I"⟩, prog_10_method_78_code, 5, (some .int), 8, 1, 2), (⟨"DiffusingRoutesModel", "ends", "(I)V"⟩, prog_10_method_79_code, 5, none, 8, 1, 1), (⟨"DiffusingRoutesModel", "lose", "(II)V"⟩, prog_10_method_80_code, 8, none, 8, 1, 2), (⟨"DiffusingRoutesModel", "takesLink", "(II)V"⟩, prog_10_method_81_code, 4, none, 8, 1, 2), (⟨"DiffusingRoutesModel", "linkNow", "(III)I"⟩, prog_10_method_82_code, 5, (some .int), 8, 1, 3), (⟨"DiffusingRoutesModel", "link", "(III)I"⟩, prog_10_method_83_code, 4, (some .int), 8, 1, 3), (⟨"DiffusingRoutesModel", "nextMessage", "()I"⟩, prog_10_method_84_code, 8, (some .int), 8, 1, 0), (⟨"DiffusingRoutesModel", "takeOut", "(I)V"⟩, prog_10_method_85_code, 3, none, 8, 1, 1), (⟨"DiffusingRoutesModel", "takesActive", "(III)V"⟩, prog_10_method_86_code, 6, none, 8, 1, 3), (⟨"DiffusingRoutesModel", "deliver", "()I"⟩, prog_10_method_87_code, 5, (some .int), 8, 1, 0), (⟨"DiffusingRoutesModel", "stepNow", "()I"⟩, prog_10_method_88_code, 2, (some .int), 8, 1, 0), (⟨"DiffusingRoutesModel", "step", "()I"⟩, prog_10_method_89_code, 1, (some .int), 8, 1, 0), (⟨"DiffusingRoutesModel", "cutNow", "(I)I"⟩, prog_10_method_90_code, 5, (some .int), 8, 1, 1), (⟨"DiffusingRoutesModel", "cut", "(I)I"⟩, prog_10_method_91_code, 2, (some .int), 8, 1, 1), (⟨"DiffusingRoutesModel", "behind", "(I)I"⟩, prog_10_method_92_code, 2, (some .int), 8, 1, 1), (⟨"DiffusingRoutesModel", "path", "(II)I"⟩, prog_10_method_93_code, 5, (some .int), 8, 1, 2), (⟨"DiffusingRoutesModel", "loops", "()I"⟩, prog_10_method_94_code, 5, (some .int), 8, 1, 0), (⟨"DiffusingRoutesModel", "least", "(I)I"⟩, prog_10_method_95_code, 6, (some .int), 8, 1, 1), (⟨"DiffusingRoutesModel", "quietBy", "(I)I"⟩, prog_10_method_96_code, 5, (some .int), 8, 1, 1), (⟨"DiffusingRoutesModel", "quiet", "()I"⟩, prog_10_method_97_code, 1, (some .int), 8, 1, 0), (⟨"DiffusingRoutesModel", "then", "(I)I"⟩, prog_10_method_98_code, 2, (some .int), 8, 1, 1), (⟨"DiffusingRoutesModel", "compare", "(I)I"⟩, prog_10_method_99_code, 2, (some .int), 8, 1, 1), (⟨"DiffusingRoutesModel", "factOf", "(II)I"⟩, prog_10_method_100_code, 4, (some .int), 8, 1, 2), (⟨"DiffusingRoutesModel", "seen", "(II)I"⟩, prog_10_method_101_code, 4, (some .int), 8, 1, 2), (⟨"DiffusingRoutesModel", "forget", "()I"⟩, prog_10_method_102_code, 2, (some .int), 8, 1, 0), (⟨"DiffusingRoutesModel", "thatCanBe", "()I"⟩, prog_10_method_103_code, 5, (some .int), 8, 1, 0), (⟨"DiffusingRoutesModel", "canBe", "()I"⟩, prog_10_method_104_code, 1, (some .int), 8, 1, 0), (⟨"DiffusingRoutesModel", "mostAlike", "(II)I"⟩, prog_10_method_105_code, 7, (some .int), 8, 1, 2), (⟨"DiffusingRoutesModel", "ask", "(I)I"⟩, prog_10_method_106_code, 7, (some .int), 8, 1, 1), (⟨"DiffusingRoutesModel", "few", "(II)J"⟩, prog_10_method_107_code, 8, (some .long), 8, 1, 2), (⟨"DiffusingRoutesModel", "readSum", "(I)V"⟩, prog_10_method_108_code, 2, none, 8, 1, 1), (⟨"DiffusingRoutesModel", "readBehind", "(JI)V"⟩, prog_10_method_109_code, 4, none, 8, 1, 2), (⟨"DiffusingRoutesModel", "readOrder", "()V"⟩, prog_10_method_110_code, 4, none, 8, 1, 0), (⟨"DiffusingRoutesModel", "sumOf", "(I)I"⟩, prog_10_method_111_code, 2, (some .int), 8, 1, 1), (⟨"DiffusingRoutesModel", "run", "(I)I"⟩, prog_10_method_112_code, 7, (some .int), 8, 1, 1), (⟨"DiffusingRoutesModel", "orders", "()I"⟩, prog_10_method_113_code, 4, (some .int), 8, 1, 0), (⟨"DiffusingRoutesModel", "keepOrders", "()I"⟩, prog_10_method_114_code, 2, (some .int), 8, 1, 0), (⟨"DiffusingRoutesModel", "giveBack", "(I)V"⟩, prog_10_method_115_code, 3, none, 8, 1, 1), (⟨"DiffusingRoutesModel", "stopped", "()I"⟩, prog_10_method_116_code, 1, (some .int), 8, 1, 0), (⟨"DiffusingRoutesModel", "draw", "(I)I"⟩, prog_10_method_117_code, 2, (some .int), 8, 1, 1), (⟨"DiffusingRoutesModel", "days", "(II)I"⟩, prog_10_method_118_code, 9, (some .int), 8, 1, 2), (⟨"DiffusingRoutesModel", "drawn", "(II)I"⟩, prog_10_method_119_code, 3, (some .int), 8, 1, 2), (⟨"DiffusingRoutesModel", "links", "()I"⟩, prog_10_method_120_code, 3, (some .int), 8, 1, 0), (⟨"DiffusingRoutesModel", "actives", "()I"⟩, prog_10_method_121_code, 3, (some .int), 8, 1, 0), (⟨"DiffusingRoutesModel", "count", "(I)I"⟩, prog_10_method_122_code, 2, (some .int), 8, 1, 1), (⟨"DiffusingRoutesModel", "status", "()I"⟩, prog_10_method_123_code, 1, (some .int), 8, 1, 0), (⟨"java/lang/Math", "min", "(II)I"⟩, prog_13_method_69_code, 2, (some .int), 12, 0, 2), (⟨"java/lang/Math", "max", "(II)I"⟩, prog_13_method_65_code, 2, (some .int), 12, 0, 2), (⟨"java/lang/Integer", "bitCount", "(I)I"⟩, prog_12_method_49_code, 1, (some .int), 11, 0, 1), (⟨"java/util/Arrays", "fill", "([II)V"⟩, prog_18_method_103_code, 4, none, 10, 0, 2), (⟨"java/util/Arrays", "fill", "([JJ)V"⟩, prog_18_method_101_code, 5, none, 10, 0, 2), (⟨"java/util/Arrays", "copyOf", "([II)[I"⟩, prog_18_method_123_code, 3, (some (.array .int)), 10, 0, 2)]
theorem tin1 {w : Cond} (h : w ∈ tables_1_1) : w ∈ lw_tbl := List.mem_append_right _ (List.mem_append_left _ h)
theorem tin2 {w : Cond} (h : w ∈ tables_1_2) : w ∈ lw_tbl := List.mem_append_right _ (List.mem_append_right _ (List.mem_append_left _ h))
theorem tin3 {w : Cond} (h : w ∈ tables_1_3) : w ∈ lw_tbl := List.mem_append_right _ (List.mem_append_right _ (List.mem_append_right _ (List.mem_append_left _ h)))
theorem tin4 {w : Cond} (h : w ∈ tables_1_4) : w ∈ lw_tbl := List.mem_append_right _ (List.mem_append_right _ (List.mem_append_right _ (List.mem_append_right _ (List.mem_append_left _ h))))
theorem tin5 {w : Cond} (h : w ∈ tables_1_5) : w ∈ lw_tbl := List.mem_append_right _ (List.mem_append_right _ (List.mem_append_right _ (List.mem_append_right _ (List.mem_append_right _ (List.mem_append_left _ h)))))
theorem tin6 {w : Cond} (h : w ∈ tables_1_6) : w ∈ lw_tbl := List.mem_append_right _ (List.mem_append_right _ (List.mem_append_right _ (List.mem_append_right _ (List.mem_append_right _ (List.mem_append_right _ (List.mem_append_left _ h))))))
theorem tin7 {w : Cond} (h : w ∈ tables_1_7) : w ∈ lw_tbl := List.mem_append_right _ (List.mem_append_right _ (List.mem_append_right _ (List.mem_append_right _ (List.mem_append_right _ (List.mem_append_right _ (List.mem_append_right _ (h)))))))
theorem mw_Hi_init : Cond.code ⟨"DiffusingRoutes$History", "<init>", "()V"⟩ prog_2_method_1_code 2 none ∈ lw_tbl := tin1 (List.mem_of_getElem? (i := 144) rfl)
theorem mw_Hi_prepares : Cond.code ⟨"DiffusingRoutes$History", "prepares", "(LDiffusingRoutes$Net;)V"⟩ prog_2_method_2_code 2 none ∈ lw_tbl := tin2 (List.mem_of_getElem? (i := 207) rfl)
theorem mw_Hi_putsBack : Cond.code ⟨"DiffusingRoutes$History", "putsBack", "(LDiffusingRoutes$Net;)V"⟩ prog_2_method_3_code 2 none ∈ lw_tbl := tin3 (List.mem_of_getElem? (i := 47) rfl)
theorem mw_Hi_keeps : Cond.code ⟨"DiffusingRoutes$History", "keeps", "(I)V"⟩ prog_2_method_4_code 2 none ∈ lw_tbl := tin3 (List.mem_of_getElem? (i := 51) rfl)
theorem mw_Hi_takesBack : Cond.code ⟨"DiffusingRoutes$History", "takesBack", "(LDiffusingRoutes$Net;)I"⟩ prog_2_method_5_code 2 (some .int) ∈ lw_tbl := tin4 (List.mem_of_getElem? (i := 82) rfl)
theorem mw_Hi_clears : Cond.code ⟨"DiffusingRoutes$History", "clears", "()V"⟩ prog_2_method_6_code 1 none ∈ lw_tbl := tin2 (List.mem_of_getElem? (i := 167) rfl)
theorem mw_Ju_init : Cond.code ⟨"DiffusingRoutes$Judge", "<init>", "()V"⟩ prog_3_method_1_code 1 none ∈ lw_tbl := tin1 (List.mem_of_getElem? (i := 227) rfl)
theorem mw_Ju_looksAt : Cond.code ⟨"DiffusingRoutes$Judge", "looksAt", "(LDiffusingRoutes$Net;I)V"⟩ prog_3_method_2_code 3 none ∈ lw_tbl := tin2 (List.mem_of_getElem? (i := 101) rfl)
theorem mw_Ju_looksAtRun : Cond.code ⟨"DiffusingRoutes$Judge", "looksAtRun", "(LDiffusingRoutes$Net;II)V"⟩ prog_3_method_3_code 5 none ∈ lw_tbl := tin4 (List.mem_of_getElem? (i := 35) rfl)
theorem mw_Ju_looksAtChange : Cond.code ⟨"DiffusingRoutes$Judge", "looksAtChange", "(IIII)V"⟩ prog_3_method_4_code 5 none ∈ lw_tbl := tin2 (List.mem_of_getElem? (i := 117) rfl)
theorem mw_Ju_first : Cond.code ⟨"DiffusingRoutes$Judge", "first", "(LDiffusingRoutes$Net;LDiffusingRoutes$Program;I)I"⟩ prog_3_method_5_code 13 (some .int) ∈ lw_tbl := tin3 (List.mem_of_getElem? (i := 21) rfl)
theorem mw_Ju_rank : Cond.code ⟨"DiffusingRoutes$Judge", "rank", "(LDiffusingRoutes$Program;I)I"⟩ prog_3_method_6_code 5 (some .int) ∈ lw_tbl := tin2 (List.mem_of_getElem? (i := 109) rfl)
theorem mw_Ju_bars : Cond.code ⟨"DiffusingRoutes$Judge", "bars", "(LDiffusingRoutes$Program;III)Z"⟩ prog_3_method_7_code 6 (some .boolean) ∈ lw_tbl := tin2 (List.mem_of_getElem? (i := 203) rfl)
theorem mw_Ju_tellsSums : Cond.code ⟨"DiffusingRoutes$Judge", "tellsSums", "(LDiffusingRoutes$Program;I[I)Z"⟩ prog_3_method_8_code 6 (some .boolean) ∈ lw_tbl := tin4 (List.mem_of_getElem? (i := 42) rfl)
theorem mw_Ju_value : Cond.code ⟨"DiffusingRoutes$Judge", "value", "(LDiffusingRoutes$Program;I)I"⟩ prog_3_method_9_code 9 (some .int) ∈ lw_tbl := tin2 (List.mem_of_getElem? (i := 130) rfl)
theorem mw_Ju_joins : Cond.code ⟨"DiffusingRoutes$Judge", "joins", "(III)I"⟩ prog_3_method_10_code 5 (some .int) ∈ lw_tbl := tin2 (List.mem_of_getElem? (i := 137) rfl)
theorem mw_Ne_init : Cond.code ⟨"DiffusingRoutes$Net", "<init>", "()V"⟩ prog_4_method_1_code 1 none ∈ lw_tbl := tin1 (List.mem_of_getElem? (i := 36) rfl)
theorem mw_Ne_copies : Cond.code ⟨"DiffusingRoutes$Net", "copies", "(LDiffusingRoutes$Net;)V"⟩ prog_4_method_2_code 2 none ∈ lw_tbl := tin2 (List.mem_of_getElem? (i := 211) rfl)
theorem mw_Ne_kindOf : Cond.code ⟨"DiffusingRoutes$Net", "kindOf", "(I)I"⟩ prog_4_method_3_code 1 (some .int) ∈ lw_tbl := tin2 (List.mem_of_getElem? (i := 92) rfl)
theorem mw_Ne_fromOf : Cond.code ⟨"DiffusingRoutes$Net", "fromOf", "(I)I"⟩ prog_4_method_4_code 1 (some .int) ∈ lw_tbl := tin2 (List.mem_of_getElem? (i := 82) rfl)
theorem mw_Ne_toOf : Cond.code ⟨"DiffusingRoutes$Net", "toOf", "(I)I"⟩ prog_4_method_5_code 1 (some .int) ∈ lw_tbl := tin2 (List.mem_of_getElem? (i := 85) rfl)
theorem mw_Ne_distanceOf : Cond.code ⟨"DiffusingRoutes$Net", "distanceOf", "(I)I"⟩ prog_4_method_6_code 1 (some .int) ∈ lw_tbl := tin2 (List.mem_of_getElem? (i := 97) rfl)
theorem mw_Ne_linkCount : Cond.code ⟨"DiffusingRoutes$Net", "linkCount", "()I"⟩ prog_4_method_7_code 3 (some .int) ∈ lw_tbl := tin4 (List.mem_of_getElem? (i := 196) rfl)
theorem mw_Ne_waitOn : Cond.code ⟨"DiffusingRoutes$Net", "waitOn", "(II)I"⟩ prog_4_method_8_code 5 (some .int) ∈ lw_tbl := tin2 (List.mem_of_getElem? (i := 79) rfl)
theorem mw_Ne_fact : Cond.code ⟨"DiffusingRoutes$Net", "fact", "(II)I"⟩ prog_4_method_9_code 3 (some .int) ∈ lw_tbl := tin4 (List.mem_of_getElem? (i := 135) rfl)
theorem mw_Ne_by : Cond.code ⟨"DiffusingRoutes$Net", "by", "(II)I"⟩ prog_4_method_10_code 4 (some .int) ∈ lw_tbl := tin2 (List.mem_of_getElem? (i := 68) rfl)
theorem mw_Ne_leastBy : Cond.code ⟨"DiffusingRoutes$Net", "leastBy", "(I)I"⟩ prog_4_method_11_code 4 (some .int) ∈ lw_tbl := tin3 (List.mem_of_getElem? (i := 5) rfl)
theorem mw_Ne_feasible : Cond.code ⟨"DiffusingRoutes$Net", "feasible", "(I)I"⟩ prog_4_method_12_code 5 (some .int) ∈ lw_tbl := tin2 (List.mem_of_getElem? (i := 75) rfl)
theorem mw_Ne_sends : Cond.code ⟨"DiffusingRoutes$Net", "sends", "(III)V"⟩ prog_4_method_13_code 5 none ∈ lw_tbl := tin2 (List.mem_of_getElem? (i := 222) rfl)
theorem mw_Ne_relinks : Cond.code ⟨"DiffusingRoutes$Net", "relinks", "(III)I"⟩ prog_4_method_14_code 5 (some .int) ∈ lw_tbl := tin2 (List.mem_of_getElem? (i := 218) rfl)
theorem mw_Ne_losesMessages : Cond.code ⟨"DiffusingRoutes$Net", "losesMessages", "(II)V"⟩ prog_4_method_15_code 8 none ∈ lw_tbl := tin2 (List.mem_of_getElem? (i := 226) rfl)
theorem mw_Ne_takesChange : Cond.code ⟨"DiffusingRoutes$Net", "takesChange", "(II)V"⟩ prog_4_method_16_code 3 none ∈ lw_tbl := tin2 (List.mem_of_getElem? (i := 230) rfl)
theorem mw_Ne_looksAtSuccessor : Cond.code ⟨"DiffusingRoutes$Net", "looksAtSuccessor", "(II)V"⟩ prog_4_method_17_code 3 none ∈ lw_tbl := tin3 (List.mem_of_getElem? (i := 13) rfl)
theorem mw_Ne_delivers : Cond.code ⟨"DiffusingRoutes$Net", "delivers", "(I)I"⟩ prog_4_method_18_code 6 (some .int) ∈ lw_tbl := tin3 (List.mem_of_getElem? (i := 27) rfl)
theorem mw_Ne_hears : Cond.code ⟨"DiffusingRoutes$Net", "hears", "(III)V"⟩ prog_4_method_19_code 4 none ∈ lw_tbl := tin3 (List.mem_of_getElem? (i := 33) rfl)
theorem mw_Ne_cuts : Cond.code ⟨"DiffusingRoutes$Net", "cuts", "(I)I"⟩ prog_4_method_20_code 4 (some .int) ∈ lw_tbl := tin3 (List.mem_of_getElem? (i := 37) rfl)
theorem mw_Ne_decides : Cond.code ⟨"DiffusingRoutes$Net", "decides", "(II)V"⟩ prog_4_method_21_code 4 none ∈ lw_tbl := tin2 (List.mem_of_getElem? (i := 235) rfl)
theorem mw_Ne_takesLeast : Cond.code ⟨"DiffusingRoutes$Net", "takesLeast", "(II)Z"⟩ prog_4_method_22_code 8 (some .boolean) ∈ lw_tbl := tin3 (List.mem_of_getElem? (i := 0) rfl)
theorem mw_Ne_goesActive : Cond.code ⟨"DiffusingRoutes$Net", "goesActive", "(II)V"⟩ prog_4_method_23_code 3 none ∈ lw_tbl := tin3 (List.mem_of_getElem? (i := 9) rfl)
theorem mw_Ne_ends : Cond.code ⟨"DiffusingRoutes$Net", "ends", "(I)V"⟩ prog_4_method_24_code 3 none ∈ lw_tbl := tin3 (List.mem_of_getElem? (i := 17) rfl)
theorem mw_Pr_init : Cond.code ⟨"DiffusingRoutes$Program", "<init>", "([I[II)V"⟩ prog_5_method_1_code 4 none ∈ lw_tbl := tin4 (List.mem_of_getElem? (i := 2) rfl)
theorem mw_Pr_kind : Cond.code ⟨"DiffusingRoutes$Program", "kind", "(I)I"⟩ prog_5_method_2_code 2 (some .int) ∈ lw_tbl := tin2 (List.mem_of_getElem? (i := 122) rfl)
theorem mw_Pr_times : Cond.code ⟨"DiffusingRoutes$Program", "times", "(I)I"⟩ prog_5_method_3_code 2 (some .int) ∈ lw_tbl := tin4 (List.mem_of_getElem? (i := 31) rfl)
theorem mw_Pr_test : Cond.code ⟨"DiffusingRoutes$Program", "test", "(I)I"⟩ prog_5_method_4_code 2 (some .int) ∈ lw_tbl := tin2 (List.mem_of_getElem? (i := 126) rfl)
theorem mw_Pr_sum : Cond.code ⟨"DiffusingRoutes$Program", "sum", "(II)I"⟩ prog_5_method_5_code 3 (some .int) ∈ lw_tbl := tin2 (List.mem_of_getElem? (i := 144) rfl)
theorem mw_Re_init : Cond.code ⟨"DiffusingRoutes$Reader", "<init>", "()V"⟩ prog_6_method_1_code 1 none ∈ lw_tbl := tin1 (List.mem_of_getElem? (i := 167) rfl)
theorem mw_Re_reads : Cond.code ⟨"DiffusingRoutes$Reader", "reads", "(Z)LDiffusingRoutes$Program;"⟩ prog_6_method_2_code 4 (some (.object "DiffusingRoutes$Program")) ∈ lw_tbl := tin3 (List.mem_of_getElem? (i := 64) rfl)
theorem mw_Re_fails : Cond.code ⟨"DiffusingRoutes$Reader", "fails", "()Z"⟩ prog_6_method_3_code 1 (some .boolean) ∈ lw_tbl := tin3 (List.mem_of_getElem? (i := 148) rfl)
theorem mw_Re_takesSign : Cond.code ⟨"DiffusingRoutes$Reader", "takesSign", "(C)Z"⟩ prog_6_method_4_code 2 (some .boolean) ∈ lw_tbl := tin3 (List.mem_of_getElem? (i := 184) rfl)
theorem mw_Re_takesWord : Cond.code ⟨"DiffusingRoutes$Reader", "takesWord", "(Ljava/lang/String;)Z"⟩ prog_6_method_5_code 2 (some .boolean) ∈ lw_tbl := tin3 (List.mem_of_getElem? (i := 159) rfl)
theorem mw_Re_emits : Cond.code ⟨"DiffusingRoutes$Reader", "emits", "(II)V"⟩ prog_6_method_6_code 3 none ∈ lw_tbl := tin3 (List.mem_of_getElem? (i := 167) rfl)
theorem mw_Re_readsClause : Cond.code ⟨"DiffusingRoutes$Reader", "readsClause", "(I)Z"⟩ prog_6_method_7_code 4 (some .boolean) ∈ lw_tbl := tin3 (List.mem_of_getElem? (i := 83) rfl)
theorem mw_Re_kindAt : Cond.code ⟨"DiffusingRoutes$Reader", "kindAt", "()I"⟩ prog_6_method_8_code 1 (some .int) ∈ lw_tbl := tin3 (List.mem_of_getElem? (i := 87) rfl)
theorem mw_Re_readsSums : Cond.code ⟨"DiffusingRoutes$Reader", "readsSums", "(II)Z"⟩ prog_6_method_9_code 5 (some .boolean) ∈ lw_tbl := tin3 (List.mem_of_getElem? (i := 153) rfl)
theorem mw_Re_readsTimes : Cond.code ⟨"DiffusingRoutes$Reader", "readsTimes", "(I)Z"⟩ prog_6_method_10_code 2 (some .boolean) ∈ lw_tbl := tin3 (List.mem_of_getElem? (i := 220) rfl)
theorem mw_Re_readsTest : Cond.code ⟨"DiffusingRoutes$Reader", "readsTest", "(I)Z"⟩ prog_6_method_11_code 3 (some .boolean) ∈ lw_tbl := tin3 (List.mem_of_getElem? (i := 225) rfl)
theorem mw_Re_readsChain : Cond.code ⟨"DiffusingRoutes$Reader", "readsChain", "(II)Z"⟩ prog_6_method_12_code 8 (some .boolean) ∈ lw_tbl := tin3 (List.mem_of_getElem? (i := 163) rfl)
theorem mw_Re_jointAt : Cond.code ⟨"DiffusingRoutes$Reader", "jointAt", "(I)I"⟩ prog_6_method_13_code 2 (some .int) ∈ lw_tbl := tin3 (List.mem_of_getElem? (i := 214) rfl)
theorem mw_Re_readsPlain : Cond.code ⟨"DiffusingRoutes$Reader", "readsPlain", "(I)Z"⟩ prog_6_method_14_code 4 (some .boolean) ∈ lw_tbl := tin3 (List.mem_of_getElem? (i := 171) rfl)
theorem mw_Re_readsComparison : Cond.code ⟨"DiffusingRoutes$Reader", "readsComparison", "(I)Z"⟩ prog_6_method_15_code 4 (some .boolean) ∈ lw_tbl := tin3 (List.mem_of_getElem? (i := 188) rfl)
theorem mw_Re_readsBracket : Cond.code ⟨"DiffusingRoutes$Reader", "readsBracket", "(ICI)Z"⟩ prog_6_method_16_code 4 (some .boolean) ∈ lw_tbl := tin3 (List.mem_of_getElem? (i := 180) rfl)
theorem mw_Re_readsPart : Cond.code ⟨"DiffusingRoutes$Reader", "readsPart", "(I)Z"⟩ prog_6_method_17_code 5 (some .boolean) ∈ lw_tbl := tin3 (List.mem_of_getElem? (i := 192) rfl)
theorem mw_Re_wordAt : Cond.code ⟨"DiffusingRoutes$Reader", "wordAt", "()I"⟩ prog_6_method_18_code 2 (some .int) ∈ lw_tbl := tin3 (List.mem_of_getElem? (i := 200) rfl)
theorem mw_Ta_init : Cond.code ⟨"DiffusingRoutes$Tape", "<init>", "()V"⟩ prog_7_method_1_code 1 none ∈ lw_tbl := tin1 (List.mem_of_getElem? (i := 173) rfl)
theorem mw_Ta_hasRoom : Cond.code ⟨"DiffusingRoutes$Tape", "hasRoom", "()Z"⟩ prog_7_method_2_code 1 (some .boolean) ∈ lw_tbl := tin2 (List.mem_of_getElem? (i := 179) rfl)
theorem mw_Ta_takes : Cond.code ⟨"DiffusingRoutes$Tape", "takes", "(I)V"⟩ prog_7_method_3_code 3 none ∈ lw_tbl := tin2 (List.mem_of_getElem? (i := 183) rfl)
theorem mw_Ta_starts : Cond.code ⟨"DiffusingRoutes$Tape", "starts", "()V"⟩ prog_7_method_4_code 1 none ∈ lw_tbl := tin3 (List.mem_of_getElem? (i := 68) rfl)
theorem mw_Ta_advances : Cond.code ⟨"DiffusingRoutes$Tape", "advances", "()V"⟩ prog_7_method_5_code 1 none ∈ lw_tbl := tin3 (List.mem_of_getElem? (i := 72) rfl)
theorem mw_Ta_isLetter : Cond.code ⟨"DiffusingRoutes$Tape", "isLetter", "(I)Z"⟩ prog_7_method_6_code 1 (some .boolean) ∈ lw_tbl := tin3 (List.mem_of_getElem? (i := 75) rfl)
theorem mw_Ta_isDigit : Cond.code ⟨"DiffusingRoutes$Tape", "isDigit", "(I)Z"⟩ prog_7_method_7_code 1 (some .boolean) ∈ lw_tbl := tin3 (List.mem_of_getElem? (i := 78) rfl)
theorem mw_Ta_hasWord : Cond.code ⟨"DiffusingRoutes$Tape", "hasWord", "(Ljava/lang/String;)Z"⟩ prog_7_method_8_code 3 (some .boolean) ∈ lw_tbl := tin3 (List.mem_of_getElem? (i := 92) rfl)
theorem mw_Ta_hasSign : Cond.code ⟨"DiffusingRoutes$Tape", "hasSign", "(C)Z"⟩ prog_7_method_9_code 2 (some .boolean) ∈ lw_tbl := tin3 (List.mem_of_getElem? (i := 176) rfl)
theorem mw_Ta_hasNumber : Cond.code ⟨"DiffusingRoutes$Tape", "hasNumber", "(II)Z"⟩ prog_7_method_10_code 3 (some .boolean) ∈ lw_tbl := tin3 (List.mem_of_getElem? (i := 196) rfl)
theorem mw_Wo_init : Cond.code ⟨"DiffusingRoutes$World", "<init>", "()V"⟩ prog_8_method_1_code 1 none ∈ lw_tbl := tin1 (List.mem_of_getElem? (i := 30) rfl)
theorem mw_Wo_copies : Cond.code ⟨"DiffusingRoutes$World", "copies", "(LDiffusingRoutes$World;)V"⟩ prog_8_method_2_code 3 none ∈ lw_tbl := tin4 (List.mem_of_getElem? (i := 182) rfl)
theorem mw_Wo_lawAt : Cond.code ⟨"DiffusingRoutes$World", "lawAt", "(I)LDiffusingRoutes$Program;"⟩ prog_8_method_3_code 2 (some (.object "DiffusingRoutes$Program")) ∈ lw_tbl := tin2 (List.mem_of_getElem? (i := 105) rfl)
theorem mw_Wo_term : Cond.code ⟨"DiffusingRoutes$World", "term", "(I)I"⟩ prog_8_method_4_code 2 (some .int) ∈ lw_tbl := tin2 (List.mem_of_getElem? (i := 159) rfl)
theorem mw_Wo_setTerm : Cond.code ⟨"DiffusingRoutes$World", "setTerm", "(II)V"⟩ prog_8_method_5_code 3 none ∈ lw_tbl := tin2 (List.mem_of_getElem? (i := 163) rfl)
theorem mw_Di_init : Cond.code ⟨"DiffusingRoutes", "<init>", "()V"⟩ prog_1_method_1_code 2 none ∈ lw_tbl := tin1 (List.mem_of_getElem? (i := 22) rfl)
theorem mw_Di_router : Cond.code ⟨"DiffusingRoutes", "router", "(II)I"⟩ prog_1_method_2_code 4 (some .int) ∈ lw_tbl := tin2 (List.mem_of_getElem? (i := 51) rfl)
theorem mw_Di_between : Cond.code ⟨"DiffusingRoutes", "between", "(III)I"⟩ prog_1_method_3_code 5 (some .int) ∈ lw_tbl := tin2 (List.mem_of_getElem? (i := 61) rfl)
theorem mw_Di_message : Cond.code ⟨"DiffusingRoutes", "message", "(II)I"⟩ prog_1_method_4_code 4 (some .int) ∈ lw_tbl := tin2 (List.mem_of_getElem? (i := 89) rfl)
theorem mw_Di_terms : Cond.code ⟨"DiffusingRoutes", "terms", "(II)I"⟩ prog_1_method_5_code 4 (some .int) ∈ lw_tbl := tin2 (List.mem_of_getElem? (i := 149) rfl)
theorem mw_Di_feed : Cond.code ⟨"DiffusingRoutes", "feed", "(IIIII)I"⟩ prog_1_method_6_code 7 (some .int) ∈ lw_tbl := tin2 (List.mem_of_getElem? (i := 175) rfl)
theorem mw_Di_end : Cond.code ⟨"DiffusingRoutes", "end", "(I)I"⟩ prog_1_method_7_code 2 (some .int) ∈ lw_tbl := tin2 (List.mem_of_getElem? (i := 187) rfl)
theorem mw_Di_row : Cond.code ⟨"DiffusingRoutes", "row", "()I"⟩ prog_1_method_8_code 7 (some .int) ∈ lw_tbl := tin2 (List.mem_of_getElem? (i := 191) rfl)
theorem mw_Di_blots : Cond.code ⟨"DiffusingRoutes", "blots", "()I"⟩ prog_1_method_9_code 1 (some .int) ∈ lw_tbl := tin3 (List.mem_of_getElem? (i := 56) rfl)
theorem mw_Di_law : Cond.code ⟨"DiffusingRoutes", "law", "()I"⟩ prog_1_method_10_code 2 (some .int) ∈ lw_tbl := tin3 (List.mem_of_getElem? (i := 60) rfl)
theorem mw_Di_orders : Cond.code ⟨"DiffusingRoutes", "orders", "()I"⟩ prog_1_method_11_code 2 (some .int) ∈ lw_tbl := tin4 (List.mem_of_getElem? (i := 21) rfl)
theorem mw_Di_fault : Cond.code ⟨"DiffusingRoutes", "fault", "()I"⟩ prog_1_method_12_code 1 (some .int) ∈ lw_tbl := tin4 (List.mem_of_getElem? (i := 46) rfl)
theorem mw_Di_stopped : Cond.code ⟨"DiffusingRoutes", "stopped", "()I"⟩ prog_1_method_13_code 1 (some .int) ∈ lw_tbl := tin4 (List.mem_of_getElem? (i := 50) rfl)
theorem mw_Di_force : Cond.code ⟨"DiffusingRoutes", "force", "(I)I"⟩ prog_1_method_14_code 3 (some .int) ∈ lw_tbl := tin4 (List.mem_of_getElem? (i := 54) rfl)
theorem mw_Di_link : Cond.code ⟨"DiffusingRoutes", "link", "(III)I"⟩ prog_1_method_15_code 4 (some .int) ∈ lw_tbl := tin4 (List.mem_of_getElem? (i := 62) rfl)
theorem mw_Di_step : Cond.code ⟨"DiffusingRoutes", "step", "()I"⟩ prog_1_method_16_code 1 (some .int) ∈ lw_tbl := tin4 (List.mem_of_getElem? (i := 70) rfl)
theorem mw_Di_cut : Cond.code ⟨"DiffusingRoutes", "cut", "(I)I"⟩ prog_1_method_17_code 2 (some .int) ∈ lw_tbl := tin4 (List.mem_of_getElem? (i := 74) rfl)
theorem mw_Di_undo : Cond.code ⟨"DiffusingRoutes", "undo", "()I"⟩ prog_1_method_18_code 1 (some .int) ∈ lw_tbl := tin4 (List.mem_of_getElem? (i := 78) rfl)
theorem mw_Di_path : Cond.code ⟨"DiffusingRoutes", "path", "(II)I"⟩ prog_1_method_19_code 5 (some .int) ∈ lw_tbl := tin4 (List.mem_of_getElem? (i := 86) rfl)
theorem mw_Di_loops : Cond.code ⟨"DiffusingRoutes", "loops", "()I"⟩ prog_1_method_20_code 3 (some .int) ∈ lw_tbl := tin4 (List.mem_of_getElem? (i := 90) rfl)
theorem mw_Di_least : Cond.code ⟨"DiffusingRoutes", "least", "(I)I"⟩ prog_1_method_21_code 3 (some .int) ∈ lw_tbl := tin4 (List.mem_of_getElem? (i := 98) rfl)
theorem mw_Di_quiet : Cond.code ⟨"DiffusingRoutes", "quiet", "()I"⟩ prog_1_method_22_code 1 (some .int) ∈ lw_tbl := tin4 (List.mem_of_getElem? (i := 107) rfl)
theorem mw_Di_then : Cond.code ⟨"DiffusingRoutes", "then", "(I)I"⟩ prog_1_method_23_code 2 (some .int) ∈ lw_tbl := tin4 (List.mem_of_getElem? (i := 115) rfl)
theorem mw_Di_seen : Cond.code ⟨"DiffusingRoutes", "seen", "(II)I"⟩ prog_1_method_24_code 3 (some .int) ∈ lw_tbl := tin4 (List.mem_of_getElem? (i := 119) rfl)
theorem mw_Di_forget : Cond.code ⟨"DiffusingRoutes", "forget", "()I"⟩ prog_1_method_25_code 2 (some .int) ∈ lw_tbl := tin4 (List.mem_of_getElem? (i := 123) rfl)
theorem mw_Di_canBe : Cond.code ⟨"DiffusingRoutes", "canBe", "()I"⟩ prog_1_method_26_code 3 (some .int) ∈ lw_tbl := tin4 (List.mem_of_getElem? (i := 127) rfl)
theorem mw_Di_ask : Cond.code ⟨"DiffusingRoutes", "ask", "(I)I"⟩ prog_1_method_27_code 7 (some .int) ∈ lw_tbl := tin4 (List.mem_of_getElem? (i := 139) rfl)
theorem mw_Di_few : Cond.code ⟨"DiffusingRoutes", "few", "(II)J"⟩ prog_1_method_28_code 9 (some .long) ∈ lw_tbl := tin4 (List.mem_of_getElem? (i := 149) rfl)
theorem mw_Di_compare : Cond.code ⟨"DiffusingRoutes", "compare", "(I)I"⟩ prog_1_method_29_code 2 (some .int) ∈ lw_tbl := tin4 (List.mem_of_getElem? (i := 159) rfl)
theorem mw_Di_days : Cond.code ⟨"DiffusingRoutes", "days", "(II)I"⟩ prog_1_method_30_code 9 (some .int) ∈ lw_tbl := tin4 (List.mem_of_getElem? (i := 163) rfl)
theorem mw_Di_drawn : Cond.code ⟨"DiffusingRoutes", "drawn", "(II)I"⟩ prog_1_method_31_code 3 (some .int) ∈ lw_tbl := tin4 (List.mem_of_getElem? (i := 174) rfl)
theorem mw_Di_image : Cond.code ⟨"DiffusingRoutes", "image", "(I)I"⟩ prog_1_method_32_code 2 (some .int) ∈ lw_tbl := tin4 (List.mem_of_getElem? (i := 178) rfl)
theorem mw_Di_back : Cond.code ⟨"DiffusingRoutes", "back", "(I)I"⟩ prog_1_method_33_code 2 (some .int) ∈ lw_tbl := tin4 (List.mem_of_getElem? (i := 188) rfl)
theorem mw_Di_count : Cond.code ⟨"DiffusingRoutes", "count", "(I)I"⟩ prog_1_method_34_code 2 (some .int) ∈ lw_tbl := tin4 (List.mem_of_getElem? (i := 192) rfl)
theorem mw_Di_status : Cond.code ⟨"DiffusingRoutes", "status", "()I"⟩ prog_1_method_35_code 1 (some .int) ∈ lw_tbl := tin4 (List.mem_of_getElem? (i := 201) rfl)
theorem mw_Di_isRouter : Cond.code ⟨"DiffusingRoutes", "isRouter", "(I)Z"⟩ prog_1_method_36_code 1 (some .boolean) ∈ lw_tbl := tin2 (List.mem_of_getElem? (i := 54) rfl)
theorem mw_Di_arePair : Cond.code ⟨"DiffusingRoutes", "arePair", "(II)Z"⟩ prog_1_method_37_code 2 (some .boolean) ∈ lw_tbl := tin2 (List.mem_of_getElem? (i := 64) rfl)
theorem mw_Di_bit : Cond.code ⟨"DiffusingRoutes", "bit", "(II)I"⟩ prog_1_method_38_code 2 (some .int) ∈ lw_tbl := tin2 (List.mem_of_getElem? (i := 57) rfl)
theorem mw_Di_isLawOrNone : Cond.code ⟨"DiffusingRoutes", "isLawOrNone", "(I)Z"⟩ prog_1_method_39_code 2 (some .boolean) ∈ lw_tbl := tin4 (List.mem_of_getElem? (i := 58) rfl)
theorem mw_Di_went : Cond.code ⟨"DiffusingRoutes", "went", "(I)I"⟩ prog_1_method_40_code 2 (some .int) ∈ lw_tbl := tin2 (List.mem_of_getElem? (i := 171) rfl)
theorem mw_Di_refused : Cond.code ⟨"DiffusingRoutes", "refused", "(I)I"⟩ prog_1_method_41_code 3 (some .int) ∈ lw_tbl := tin2 (List.mem_of_getElem? (i := 155) rfl)
theorem mw_Di_answered : Cond.code ⟨"DiffusingRoutes", "answered", "(I)I"⟩ prog_1_method_42_code 2 (some .int) ∈ lw_tbl := tin4 (List.mem_of_getElem? (i := 66) rfl)
theorem mw_Di_act : Cond.code ⟨"DiffusingRoutes", "act", "(LDiffusingRoutes$Net;ZIIII)I"⟩ prog_1_method_43_code 9 (some .int) ∈ lw_tbl := tin2 (List.mem_of_getElem? (i := 195) rfl)
theorem mw_Di_refusalOf : Cond.code ⟨"DiffusingRoutes", "refusalOf", "(LDiffusingRoutes$Net;IIII)I"⟩ prog_1_method_44_code 6 (some .int) ∈ lw_tbl := tin2 (List.mem_of_getElem? (i := 199) rfl)
theorem mw_Di_run : Cond.code ⟨"DiffusingRoutes", "run", "(LDiffusingRoutes$Program;LDiffusingRoutes$Net;Z)I"⟩ prog_1_method_45_code 11 (some .int) ∈ lw_tbl := tin4 (List.mem_of_getElem? (i := 26) rfl)
theorem mw_Di_comesToItself : Cond.code ⟨"DiffusingRoutes", "comesToItself", "(I)Z"⟩ prog_1_method_46_code 4 (some .boolean) ∈ lw_tbl := tin4 (List.mem_of_getElem? (i := 94) rfl)
theorem mw_Di_shortenWays : Cond.code ⟨"DiffusingRoutes", "shortenWays", "()V"⟩ prog_1_method_47_code 4 none ∈ lw_tbl := tin4 (List.mem_of_getElem? (i := 103) rfl)
theorem mw_Di_stepsTillQuiet : Cond.code ⟨"DiffusingRoutes", "stepsTillQuiet", "(LDiffusingRoutes$Program;)I"⟩ prog_1_method_48_code 3 (some .int) ∈ lw_tbl := tin4 (List.mem_of_getElem? (i := 111) rfl)
theorem mw_Di_isAsSeen : Cond.code ⟨"DiffusingRoutes", "isAsSeen", "(I)Z"⟩ prog_1_method_49_code 3 (some .boolean) ∈ lw_tbl := tin4 (List.mem_of_getElem? (i := 131) rfl)
theorem mw_Di_mostAlike : Cond.code ⟨"DiffusingRoutes", "mostAlike", "(II)I"⟩ prog_1_method_50_code 7 (some .int) ∈ lw_tbl := tin4 (List.mem_of_getElem? (i := 144) rfl)
theorem mw_Di_drawFrom : Cond.code ⟨"DiffusingRoutes", "drawFrom", "(I)I"⟩ prog_1_method_51_code 1 (some .int) ∈ lw_tbl := tin4 (List.mem_of_getElem? (i := 167) rfl)
theorem mw_Mo_init : Cond.code ⟨"DiffusingRoutesModel", "<init>", "()V"⟩ prog_10_method_1_code 3 none ∈ lw_tbl := tin4 (List.mem_of_getElem? (i := 206) rfl)
theorem mw_Mo_in : Cond.code ⟨"DiffusingRoutesModel", "in", "(JJJ)Z"⟩ prog_10_method_3_code 6 (some .boolean) ∈ lw_tbl := tin5 (List.mem_of_getElem? (i := 167) rfl)
theorem mw_Mo_is : Cond.code ⟨"DiffusingRoutesModel", "is", "(II)Z"⟩ prog_10_method_4_code 2 (some .boolean) ∈ lw_tbl := tin6 (List.mem_of_getElem? (i := 69) rfl)
theorem mw_Mo_many : Cond.code ⟨"DiffusingRoutesModel", "many", "(I)I"⟩ prog_10_method_5_code 3 (some .int) ∈ lw_tbl := tin7 (List.mem_of_getElem? (i := 34) rfl)
theorem mw_Mo_tell : Cond.code ⟨"DiffusingRoutesModel", "tell", "(I)I"⟩ prog_10_method_6_code 2 (some .int) ∈ lw_tbl := tin5 (List.mem_of_getElem? (i := 156) rfl)
theorem mw_Mo_change : Cond.code ⟨"DiffusingRoutesModel", "change", "(II)I"⟩ prog_10_method_7_code 4 (some .int) ∈ lw_tbl := tin6 (List.mem_of_getElem? (i := 16) rfl)
theorem mw_Mo_keepAll : Cond.code ⟨"DiffusingRoutesModel", "keepAll", "(I)V"⟩ prog_10_method_8_code 3 none ∈ lw_tbl := tin6 (List.mem_of_getElem? (i := 34) rfl)
theorem mw_Mo_putBack : Cond.code ⟨"DiffusingRoutesModel", "putBack", "(I)V"⟩ prog_10_method_9_code 3 none ∈ lw_tbl := tin5 (List.mem_of_getElem? (i := 160) rfl)
theorem mw_Mo_remember : Cond.code ⟨"DiffusingRoutesModel", "remember", "(I)V"⟩ prog_10_method_10_code 3 none ∈ lw_tbl := tin6 (List.mem_of_getElem? (i := 89) rfl)
theorem mw_Mo_over : Cond.code ⟨"DiffusingRoutesModel", "over", "(II)I"⟩ prog_10_method_11_code 3 (some .int) ∈ lw_tbl := tin6 (List.mem_of_getElem? (i := 85) rfl)
theorem mw_Mo_undo : Cond.code ⟨"DiffusingRoutesModel", "undo", "()I"⟩ prog_10_method_12_code 1 (some .int) ∈ lw_tbl := tin5 (List.mem_of_getElem? (i := 152) rfl)
theorem mw_Mo_image : Cond.code ⟨"DiffusingRoutesModel", "image", "(I)I"⟩ prog_10_method_13_code 3 (some .int) ∈ lw_tbl := tin5 (List.mem_of_getElem? (i := 164) rfl)
theorem mw_Mo_back : Cond.code ⟨"DiffusingRoutesModel", "back", "(I)I"⟩ prog_10_method_14_code 3 (some .int) ∈ lw_tbl := tin5 (List.mem_of_getElem? (i := 171) rfl)
theorem mw_Mo_routerAt : Cond.code ⟨"DiffusingRoutesModel", "routerAt", "(I)I"⟩ prog_10_method_15_code 1 (some .int) ∈ lw_tbl := tin4 (List.mem_of_getElem? (i := 227) rfl)
theorem mw_Mo_isRouter : Cond.code ⟨"DiffusingRoutesModel", "isRouter", "(I)Z"⟩ prog_10_method_16_code 1 (some .boolean) ∈ lw_tbl := tin5 (List.mem_of_getElem? (i := 178) rfl)
theorem mw_Mo_isPair : Cond.code ⟨"DiffusingRoutesModel", "isPair", "(II)Z"⟩ prog_10_method_17_code 2 (some .boolean) ∈ lw_tbl := tin5 (List.mem_of_getElem? (i := 195) rfl)
theorem mw_Mo_cost : Cond.code ⟨"DiffusingRoutesModel", "cost", "(II)I"⟩ prog_10_method_18_code 3 (some .int) ∈ lw_tbl := tin5 (List.mem_of_getElem? (i := 188) rfl)
theorem mw_Mo_neighbours : Cond.code ⟨"DiffusingRoutesModel", "neighbours", "(I)I"⟩ prog_10_method_19_code 4 (some .int) ∈ lw_tbl := tin5 (List.mem_of_getElem? (i := 184) rfl)
theorem mw_Mo_by : Cond.code ⟨"DiffusingRoutesModel", "by", "(II)I"⟩ prog_10_method_20_code 4 (some .int) ∈ lw_tbl := tin5 (List.mem_of_getElem? (i := 199) rfl)
theorem mw_Mo_isFeasible : Cond.code ⟨"DiffusingRoutesModel", "isFeasible", "(II)Z"⟩ prog_10_method_21_code 3 (some .boolean) ∈ lw_tbl := tin5 (List.mem_of_getElem? (i := 203) rfl)
theorem mw_Mo_leastBy : Cond.code ⟨"DiffusingRoutesModel", "leastBy", "(I)I"⟩ prog_10_method_22_code 4 (some .int) ∈ lw_tbl := tin6 (List.mem_of_getElem? (i := 58) rfl)
theorem mw_Mo_best : Cond.code ⟨"DiffusingRoutesModel", "best", "(I)I"⟩ prog_10_method_23_code 5 (some .int) ∈ lw_tbl := tin6 (List.mem_of_getElem? (i := 54) rfl)
theorem mw_Mo_router : Cond.code ⟨"DiffusingRoutesModel", "router", "(II)I"⟩ prog_10_method_24_code 3 (some .int) ∈ lw_tbl := tin5 (List.mem_of_getElem? (i := 175) rfl)
theorem mw_Mo_waiting : Cond.code ⟨"DiffusingRoutesModel", "waiting", "(II)I"⟩ prog_10_method_25_code 5 (some .int) ∈ lw_tbl := tin5 (List.mem_of_getElem? (i := 207) rfl)
theorem mw_Mo_between : Cond.code ⟨"DiffusingRoutesModel", "between", "(III)I"⟩ prog_10_method_26_code 4 (some .int) ∈ lw_tbl := tin5 (List.mem_of_getElem? (i := 192) rfl)
theorem mw_Mo_messageAt : Cond.code ⟨"DiffusingRoutesModel", "messageAt", "(I)I"⟩ prog_10_method_27_code 1 (some .int) ∈ lw_tbl := tin5 (List.mem_of_getElem? (i := 210) rfl)
theorem mw_Mo_message : Cond.code ⟨"DiffusingRoutesModel", "message", "(II)I"⟩ prog_10_method_28_code 3 (some .int) ∈ lw_tbl := tin5 (List.mem_of_getElem? (i := 214) rfl)
theorem mw_Mo_termAt : Cond.code ⟨"DiffusingRoutesModel", "termAt", "(I)I"⟩ prog_10_method_29_code 1 (some .int) ∈ lw_tbl := tin6 (List.mem_of_getElem? (i := 12) rfl)
theorem mw_Mo_terms : Cond.code ⟨"DiffusingRoutesModel", "terms", "(II)I"⟩ prog_10_method_30_code 4 (some .int) ∈ lw_tbl := tin6 (List.mem_of_getElem? (i := 6) rfl)
theorem mw_Mo_row : Cond.code ⟨"DiffusingRoutesModel", "row", "()I"⟩ prog_10_method_31_code 4 (some .int) ∈ lw_tbl := tin6 (List.mem_of_getElem? (i := 20) rfl)
theorem mw_Mo_blots : Cond.code ⟨"DiffusingRoutesModel", "blots", "()I"⟩ prog_10_method_32_code 1 (some .int) ∈ lw_tbl := tin6 (List.mem_of_getElem? (i := 93) rfl)
theorem mw_Mo_four : Cond.code ⟨"DiffusingRoutesModel", "four", "(I)V"⟩ prog_10_method_33_code 3 none ∈ lw_tbl := tin6 (List.mem_of_getElem? (i := 101) rfl)
theorem mw_Mo_feed : Cond.code ⟨"DiffusingRoutesModel", "feed", "(IIIII)I"⟩ prog_10_method_34_code 6 (some .int) ∈ lw_tbl := tin6 (List.mem_of_getElem? (i := 97) rfl)
theorem mw_Mo_end : Cond.code ⟨"DiffusingRoutesModel", "end", "(I)I"⟩ prog_10_method_35_code 2 (some .int) ∈ lw_tbl := tin6 (List.mem_of_getElem? (i := 105) rfl)
theorem mw_Mo_isSmall : Cond.code ⟨"DiffusingRoutesModel", "isSmall", "(I)Z"⟩ prog_10_method_36_code 1 (some .boolean) ∈ lw_tbl := tin6 (List.mem_of_getElem? (i := 128) rfl)
theorem mw_Mo_isDigit : Cond.code ⟨"DiffusingRoutesModel", "isDigit", "(I)Z"⟩ prog_10_method_37_code 1 (some .boolean) ∈ lw_tbl := tin6 (List.mem_of_getElem? (i := 131) rfl)
theorem mw_Mo_beginTape : Cond.code ⟨"DiffusingRoutesModel", "beginTape", "()V"⟩ prog_10_method_38_code 1 none ∈ lw_tbl := tin6 (List.mem_of_getElem? (i := 121) rfl)
theorem mw_Mo_next : Cond.code ⟨"DiffusingRoutesModel", "next", "()V"⟩ prog_10_method_39_code 1 none ∈ lw_tbl := tin6 (List.mem_of_getElem? (i := 125) rfl)
theorem mw_Mo_isWord : Cond.code ⟨"DiffusingRoutesModel", "isWord", "(J)Z"⟩ prog_10_method_40_code 3 (some .boolean) ∈ lw_tbl := tin6 (List.mem_of_getElem? (i := 143) rfl)
theorem mw_Mo_isSign : Cond.code ⟨"DiffusingRoutesModel", "isSign", "(I)Z"⟩ prog_10_method_41_code 2 (some .boolean) ∈ lw_tbl := tin6 (List.mem_of_getElem? (i := 164) rfl)
theorem mw_Mo_must : Cond.code ⟨"DiffusingRoutesModel", "must", "(Z)V"⟩ prog_10_method_42_code 2 none ∈ lw_tbl := tin6 (List.mem_of_getElem? (i := 147) rfl)
theorem mw_Mo_number : Cond.code ⟨"DiffusingRoutesModel", "number", "(JJ)I"⟩ prog_10_method_43_code 6 (some .int) ∈ lw_tbl := tin6 (List.mem_of_getElem? (i := 193) rfl)
theorem mw_Mo_fault : Cond.code ⟨"DiffusingRoutesModel", "fault", "()I"⟩ prog_10_method_44_code 1 (some .int) ∈ lw_tbl := tin6 (List.mem_of_getElem? (i := 109) rfl)
theorem mw_Mo_emit : Cond.code ⟨"DiffusingRoutesModel", "emit", "(II)V"⟩ prog_10_method_45_code 3 none ∈ lw_tbl := tin6 (List.mem_of_getElem? (i := 189) rfl)
theorem mw_Mo_push : Cond.code ⟨"DiffusingRoutesModel", "push", "(II)V"⟩ prog_10_method_46_code 3 none ∈ lw_tbl := tin6 (List.mem_of_getElem? (i := 160) rfl)
theorem mw_Mo_binds : Cond.code ⟨"DiffusingRoutesModel", "binds", "(I)I"⟩ prog_10_method_47_code 1 (some .int) ∈ lw_tbl := tin6 (List.mem_of_getElem? (i := 200) rfl)
theorem mw_Mo_settle : Cond.code ⟨"DiffusingRoutesModel", "settle", "(I)V"⟩ prog_10_method_48_code 2 none ∈ lw_tbl := tin6 (List.mem_of_getElem? (i := 204) rfl)
theorem mw_Mo_inner : Cond.code ⟨"DiffusingRoutesModel", "inner", "()I"⟩ prog_10_method_49_code 3 (some .int) ∈ lw_tbl := tin6 (List.mem_of_getElem? (i := 208) rfl)
theorem mw_Mo_isCompared : Cond.code ⟨"DiffusingRoutesModel", "isCompared", "()Z"⟩ prog_10_method_50_code 2 (some .boolean) ∈ lw_tbl := tin6 (List.mem_of_getElem? (i := 212) rfl)
theorem mw_Mo_partAt : Cond.code ⟨"DiffusingRoutesModel", "partAt", "()I"⟩ prog_10_method_51_code 3 (some .int) ∈ lw_tbl := tin6 (List.mem_of_getElem? (i := 180) rfl)
theorem mw_Mo_orderPartAt : Cond.code ⟨"DiffusingRoutesModel", "orderPartAt", "()I"⟩ prog_10_method_52_code 3 (some .int) ∈ lw_tbl := tin6 (List.mem_of_getElem? (i := 176) rfl)
theorem mw_Mo_openBracket : Cond.code ⟨"DiffusingRoutesModel", "openBracket", "(I)V"⟩ prog_10_method_53_code 2 none ∈ lw_tbl := tin6 (List.mem_of_getElem? (i := 168) rfl)
theorem mw_Mo_leaf : Cond.code ⟨"DiffusingRoutesModel", "leaf", "(ZII)V"⟩ prog_10_method_54_code 4 none ∈ lw_tbl := tin6 (List.mem_of_getElem? (i := 185) rfl)
theorem mw_Mo_readPart : Cond.code ⟨"DiffusingRoutesModel", "readPart", "()I"⟩ prog_10_method_55_code 4 (some .int) ∈ lw_tbl := tin6 (List.mem_of_getElem? (i := 172) rfl)
theorem mw_Mo_readPlain : Cond.code ⟨"DiffusingRoutesModel", "readPlain", "()I"⟩ prog_10_method_56_code 1 (some .int) ∈ lw_tbl := tin6 (List.mem_of_getElem? (i := 155) rfl)
theorem mw_Mo_behindSum : Cond.code ⟨"DiffusingRoutesModel", "behindSum", "(Z)I"⟩ prog_10_method_57_code 4 (some .int) ∈ lw_tbl := tin6 (List.mem_of_getElem? (i := 197) rfl)
theorem mw_Mo_behindTest : Cond.code ⟨"DiffusingRoutesModel", "behindTest", "()I"⟩ prog_10_method_58_code 2 (some .int) ∈ lw_tbl := tin6 (List.mem_of_getElem? (i := 220) rfl)
theorem mw_Mo_readExpression : Cond.code ⟨"DiffusingRoutesModel", "readExpression", "(Z)V"⟩ prog_10_method_59_code 3 none ∈ lw_tbl := tin6 (List.mem_of_getElem? (i := 151) rfl)
theorem mw_Mo_beginText : Cond.code ⟨"DiffusingRoutesModel", "beginText", "(Z)V"⟩ prog_10_method_60_code 2 none ∈ lw_tbl := tin6 (List.mem_of_getElem? (i := 117) rfl)
theorem mw_Mo_endText : Cond.code ⟨"DiffusingRoutesModel", "endText", "()V"⟩ prog_10_method_61_code 1 none ∈ lw_tbl := tin6 (List.mem_of_getElem? (i := 227) rfl)
theorem mw_Mo_readLaw : Cond.code ⟨"DiffusingRoutesModel", "readLaw", "()V"⟩ prog_10_method_62_code 4 none ∈ lw_tbl := tin6 (List.mem_of_getElem? (i := 139) rfl)
theorem mw_Mo_law : Cond.code ⟨"DiffusingRoutesModel", "law", "()I"⟩ prog_10_method_63_code 3 (some .int) ∈ lw_tbl := tin6 (List.mem_of_getElem? (i := 113) rfl)
theorem mw_Mo_isLaw : Cond.code ⟨"DiffusingRoutesModel", "isLaw", "(I)Z"⟩ prog_10_method_64_code 2 (some .boolean) ∈ lw_tbl := tin6 (List.mem_of_getElem? (i := 235) rfl)
theorem mw_Mo_force : Cond.code ⟨"DiffusingRoutesModel", "force", "(I)I"⟩ prog_10_method_65_code 2 (some .int) ∈ lw_tbl := tin6 (List.mem_of_getElem? (i := 231) rfl)
theorem mw_Mo_reckon : Cond.code ⟨"DiffusingRoutesModel", "reckon", "(IJJ)J"⟩ prog_10_method_66_code 6 (some .long) ∈ lw_tbl := tin5 (List.mem_of_getElem? (i := 239) rfl)
theorem mw_Mo_reckonAll : Cond.code ⟨"DiffusingRoutesModel", "reckonAll", "(II)V"⟩ prog_10_method_67_code 7 none ∈ lw_tbl := tin5 (List.mem_of_getElem? (i := 235) rfl)
theorem mw_Mo_isSo : Cond.code ⟨"DiffusingRoutesModel", "isSo", "(I)Z"⟩ prog_10_method_68_code 2 (some .boolean) ∈ lw_tbl := tin5 (List.mem_of_getElem? (i := 231) rfl)
theorem mw_Mo_tells : Cond.code ⟨"DiffusingRoutesModel", "tells", "(IJ)J"⟩ prog_10_method_69_code 8 (some .long) ∈ lw_tbl := tin5 (List.mem_of_getElem? (i := 227) rfl)
theorem mw_Mo_rank : Cond.code ⟨"DiffusingRoutesModel", "rank", "(I)I"⟩ prog_10_method_70_code 4 (some .int) ∈ lw_tbl := tin5 (List.mem_of_getElem? (i := 219) rfl)
theorem mw_Mo_rankOf : Cond.code ⟨"DiffusingRoutesModel", "rankOf", "()I"⟩ prog_10_method_71_code 3 (some .int) ∈ lw_tbl := tin5 (List.mem_of_getElem? (i := 223) rfl)
theorem mw_Mo_isBarred : Cond.code ⟨"DiffusingRoutesModel", "isBarred", "(III)Z"⟩ prog_10_method_72_code 4 (some .boolean) ∈ lw_tbl := tin6 (List.mem_of_getElem? (i := 29) rfl)
theorem mw_Mo_send : Cond.code ⟨"DiffusingRoutesModel", "send", "(III)V"⟩ prog_10_method_73_code 5 none ∈ lw_tbl := tin6 (List.mem_of_getElem? (i := 38) rfl)
theorem mw_Mo_sendAll : Cond.code ⟨"DiffusingRoutesModel", "sendAll", "(III)V"⟩ prog_10_method_74_code 5 none ∈ lw_tbl := tin6 (List.mem_of_getElem? (i := 66) rfl)
theorem mw_Mo_take : Cond.code ⟨"DiffusingRoutesModel", "take", "(II)V"⟩ prog_10_method_75_code 4 none ∈ lw_tbl := tin6 (List.mem_of_getElem? (i := 62) rfl)
theorem mw_Mo_decide : Cond.code ⟨"DiffusingRoutesModel", "decide", "(II)V"⟩ prog_10_method_76_code 6 none ∈ lw_tbl := tin6 (List.mem_of_getElem? (i := 50) rfl)
theorem mw_Mo_goActive : Cond.code ⟨"DiffusingRoutesModel", "goActive", "(II)V"⟩ prog_10_method_77_code 5 none ∈ lw_tbl := tin6 (List.mem_of_getElem? (i := 73) rfl)
theorem mw_Mo_lowestBy : Cond.code ⟨"DiffusingRoutesModel", "lowestBy", "(II)I"⟩ prog_10_method_78_code 5 (some .int) ∈ lw_tbl := tin6 (List.mem_of_getElem? (i := 81) rfl)
theorem mw_Mo_ends : Cond.code ⟨"DiffusingRoutesModel", "ends", "(I)V"⟩ prog_10_method_79_code 5 none ∈ lw_tbl := tin6 (List.mem_of_getElem? (i := 77) rfl)
theorem mw_Mo_lose : Cond.code ⟨"DiffusingRoutesModel", "lose", "(II)V"⟩ prog_10_method_80_code 8 none ∈ lw_tbl := tin6 (List.mem_of_getElem? (i := 42) rfl)
theorem mw_Mo_takesLink : Cond.code ⟨"DiffusingRoutesModel", "takesLink", "(II)V"⟩ prog_10_method_81_code 4 none ∈ lw_tbl := tin6 (List.mem_of_getElem? (i := 46) rfl)
theorem mw_Mo_linkNow : Cond.code ⟨"DiffusingRoutesModel", "linkNow", "(III)I"⟩ prog_10_method_82_code 5 (some .int) ∈ lw_tbl := tin6 (List.mem_of_getElem? (i := 24) rfl)
theorem mw_Mo_link : Cond.code ⟨"DiffusingRoutesModel", "link", "(III)I"⟩ prog_10_method_83_code 4 (some .int) ∈ lw_tbl := tin6 (List.mem_of_getElem? (i := 239) rfl)
theorem mw_Mo_nextMessage : Cond.code ⟨"DiffusingRoutesModel", "nextMessage", "()I"⟩ prog_10_method_84_code 8 (some .int) ∈ lw_tbl := tin7 (List.mem_of_getElem? (i := 15) rfl)
theorem mw_Mo_takeOut : Cond.code ⟨"DiffusingRoutesModel", "takeOut", "(I)V"⟩ prog_10_method_85_code 3 none ∈ lw_tbl := tin7 (List.mem_of_getElem? (i := 19) rfl)
theorem mw_Mo_takesActive : Cond.code ⟨"DiffusingRoutesModel", "takesActive", "(III)V"⟩ prog_10_method_86_code 6 none ∈ lw_tbl := tin7 (List.mem_of_getElem? (i := 23) rfl)
theorem mw_Mo_deliver : Cond.code ⟨"DiffusingRoutesModel", "deliver", "()I"⟩ prog_10_method_87_code 5 (some .int) ∈ lw_tbl := tin7 (List.mem_of_getElem? (i := 11) rfl)
theorem mw_Mo_stepNow : Cond.code ⟨"DiffusingRoutesModel", "stepNow", "()I"⟩ prog_10_method_88_code 2 (some .int) ∈ lw_tbl := tin7 (List.mem_of_getElem? (i := 7) rfl)
theorem mw_Mo_step : Cond.code ⟨"DiffusingRoutesModel", "step", "()I"⟩ prog_10_method_89_code 1 (some .int) ∈ lw_tbl := tin7 (List.mem_of_getElem? (i := 3) rfl)
theorem mw_Mo_cutNow : Cond.code ⟨"DiffusingRoutesModel", "cutNow", "(I)I"⟩ prog_10_method_90_code 5 (some .int) ∈ lw_tbl := tin7 (List.mem_of_getElem? (i := 31) rfl)
theorem mw_Mo_cut : Cond.code ⟨"DiffusingRoutesModel", "cut", "(I)I"⟩ prog_10_method_91_code 2 (some .int) ∈ lw_tbl := tin7 (List.mem_of_getElem? (i := 27) rfl)
theorem mw_Mo_behind : Cond.code ⟨"DiffusingRoutesModel", "behind", "(I)I"⟩ prog_10_method_92_code 2 (some .int) ∈ lw_tbl := tin7 (List.mem_of_getElem? (i := 42) rfl)
theorem mw_Mo_path : Cond.code ⟨"DiffusingRoutesModel", "path", "(II)I"⟩ prog_10_method_93_code 5 (some .int) ∈ lw_tbl := tin7 (List.mem_of_getElem? (i := 38) rfl)
theorem mw_Mo_loops : Cond.code ⟨"DiffusingRoutesModel", "loops", "()I"⟩ prog_10_method_94_code 5 (some .int) ∈ lw_tbl := tin7 (List.mem_of_getElem? (i := 46) rfl)
theorem mw_Mo_least : Cond.code ⟨"DiffusingRoutesModel", "least", "(I)I"⟩ prog_10_method_95_code 6 (some .int) ∈ lw_tbl := tin7 (List.mem_of_getElem? (i := 50) rfl)
theorem mw_Mo_quietBy : Cond.code ⟨"DiffusingRoutesModel", "quietBy", "(I)I"⟩ prog_10_method_96_code 5 (some .int) ∈ lw_tbl := tin7 (List.mem_of_getElem? (i := 58) rfl)
theorem mw_Mo_quiet : Cond.code ⟨"DiffusingRoutesModel", "quiet", "()I"⟩ prog_10_method_97_code 1 (some .int) ∈ lw_tbl := tin7 (List.mem_of_getElem? (i := 54) rfl)
theorem mw_Mo_then : Cond.code ⟨"DiffusingRoutesModel", "then", "(I)I"⟩ prog_10_method_98_code 2 (some .int) ∈ lw_tbl := tin7 (List.mem_of_getElem? (i := 62) rfl)
theorem mw_Mo_compare : Cond.code ⟨"DiffusingRoutesModel", "compare", "(I)I"⟩ prog_10_method_99_code 2 (some .int) ∈ lw_tbl := tin7 (List.mem_of_getElem? (i := 66) rfl)
theorem mw_Mo_factOf : Cond.code ⟨"DiffusingRoutesModel", "factOf", "(II)I"⟩ prog_10_method_100_code 4 (some .int) ∈ lw_tbl := tin7 (List.mem_of_getElem? (i := 87) rfl)
theorem mw_Mo_seen : Cond.code ⟨"DiffusingRoutesModel", "seen", "(II)I"⟩ prog_10_method_101_code 4 (some .int) ∈ lw_tbl := tin7 (List.mem_of_getElem? (i := 70) rfl)
theorem mw_Mo_forget : Cond.code ⟨"DiffusingRoutesModel", "forget", "()I"⟩ prog_10_method_102_code 2 (some .int) ∈ lw_tbl := tin7 (List.mem_of_getElem? (i := 75) rfl)
theorem mw_Mo_thatCanBe : Cond.code ⟨"DiffusingRoutesModel", "thatCanBe", "()I"⟩ prog_10_method_103_code 5 (some .int) ∈ lw_tbl := tin7 (List.mem_of_getElem? (i := 83) rfl)
theorem mw_Mo_canBe : Cond.code ⟨"DiffusingRoutesModel", "canBe", "()I"⟩ prog_10_method_104_code 1 (some .int) ∈ lw_tbl := tin7 (List.mem_of_getElem? (i := 79) rfl)
theorem mw_Mo_mostAlike : Cond.code ⟨"DiffusingRoutesModel", "mostAlike", "(II)I"⟩ prog_10_method_105_code 7 (some .int) ∈ lw_tbl := tin7 (List.mem_of_getElem? (i := 95) rfl)
theorem mw_Mo_ask : Cond.code ⟨"DiffusingRoutesModel", "ask", "(I)I"⟩ prog_10_method_106_code 7 (some .int) ∈ lw_tbl := tin7 (List.mem_of_getElem? (i := 91) rfl)
theorem mw_Mo_few : Cond.code ⟨"DiffusingRoutesModel", "few", "(II)J"⟩ prog_10_method_107_code 8 (some .long) ∈ lw_tbl := tin7 (List.mem_of_getElem? (i := 99) rfl)
theorem mw_Mo_readSum : Cond.code ⟨"DiffusingRoutesModel", "readSum", "(I)V"⟩ prog_10_method_108_code 2 none ∈ lw_tbl := tin7 (List.mem_of_getElem? (i := 112) rfl)
theorem mw_Mo_readBehind : Cond.code ⟨"DiffusingRoutesModel", "readBehind", "(JI)V"⟩ prog_10_method_109_code 4 none ∈ lw_tbl := tin7 (List.mem_of_getElem? (i := 116) rfl)
theorem mw_Mo_readOrder : Cond.code ⟨"DiffusingRoutesModel", "readOrder", "()V"⟩ prog_10_method_110_code 4 none ∈ lw_tbl := tin7 (List.mem_of_getElem? (i := 108) rfl)
theorem mw_Mo_sumOf : Cond.code ⟨"DiffusingRoutesModel", "sumOf", "(I)I"⟩ prog_10_method_111_code 2 (some .int) ∈ lw_tbl := tin7 (List.mem_of_getElem? (i := 130) rfl)
theorem mw_Mo_run : Cond.code ⟨"DiffusingRoutesModel", "run", "(I)I"⟩ prog_10_method_112_code 7 (some .int) ∈ lw_tbl := tin7 (List.mem_of_getElem? (i := 126) rfl)
theorem mw_Mo_orders : Cond.code ⟨"DiffusingRoutesModel", "orders", "()I"⟩ prog_10_method_113_code 4 (some .int) ∈ lw_tbl := tin7 (List.mem_of_getElem? (i := 104) rfl)
theorem mw_Mo_keepOrders : Cond.code ⟨"DiffusingRoutesModel", "keepOrders", "()I"⟩ prog_10_method_114_code 2 (some .int) ∈ lw_tbl := tin7 (List.mem_of_getElem? (i := 122) rfl)
theorem mw_Mo_giveBack : Cond.code ⟨"DiffusingRoutesModel", "giveBack", "(I)V"⟩ prog_10_method_115_code 3 none ∈ lw_tbl := tin7 (List.mem_of_getElem? (i := 134) rfl)
theorem mw_Mo_stopped : Cond.code ⟨"DiffusingRoutesModel", "stopped", "()I"⟩ prog_10_method_116_code 1 (some .int) ∈ lw_tbl := tin7 (List.mem_of_getElem? (i := 138) rfl)
theorem mw_Mo_draw : Cond.code ⟨"DiffusingRoutesModel", "draw", "(I)I"⟩ prog_10_method_117_code 2 (some .int) ∈ lw_tbl := tin7 (List.mem_of_getElem? (i := 147) rfl)
theorem mw_Mo_days : Cond.code ⟨"DiffusingRoutesModel", "days", "(II)I"⟩ prog_10_method_118_code 9 (some .int) ∈ lw_tbl := tin7 (List.mem_of_getElem? (i := 142) rfl)
theorem mw_Mo_drawn : Cond.code ⟨"DiffusingRoutesModel", "drawn", "(II)I"⟩ prog_10_method_119_code 3 (some .int) ∈ lw_tbl := tin7 (List.mem_of_getElem? (i := 154) rfl)
theorem mw_Mo_links : Cond.code ⟨"DiffusingRoutesModel", "links", "()I"⟩ prog_10_method_120_code 3 (some .int) ∈ lw_tbl := tin7 (List.mem_of_getElem? (i := 163) rfl)
theorem mw_Mo_actives : Cond.code ⟨"DiffusingRoutesModel", "actives", "()I"⟩ prog_10_method_121_code 3 (some .int) ∈ lw_tbl := tin7 (List.mem_of_getElem? (i := 167) rfl)
theorem mw_Mo_count : Cond.code ⟨"DiffusingRoutesModel", "count", "(I)I"⟩ prog_10_method_122_code 2 (some .int) ∈ lw_tbl := tin7 (List.mem_of_getElem? (i := 159) rfl)
theorem mw_Mo_status : Cond.code ⟨"DiffusingRoutesModel", "status", "()I"⟩ prog_10_method_123_code 1 (some .int) ∈ lw_tbl := tin7 (List.mem_of_getElem? (i := 173) rfl)
theorem mw_J_min : Cond.code ⟨"java/lang/Math", "min", "(II)I"⟩ prog_13_method_69_code 2 (some .int) ∈ lw_tbl := tin2 (List.mem_of_getElem? (i := 71) rfl)
theorem mw_J_max : Cond.code ⟨"java/lang/Math", "max", "(II)I"⟩ prog_13_method_65_code 2 (some .int) ∈ lw_tbl := tin2 (List.mem_of_getElem? (i := 134) rfl)
theorem mw_J_bits : Cond.code ⟨"java/lang/Integer", "bitCount", "(I)I"⟩ prog_12_method_49_code 1 (some .int) ∈ lw_tbl := tin3 (List.mem_of_getElem? (i := 40) rfl)
theorem mw_J_fillI : Cond.code ⟨"java/util/Arrays", "fill", "([II)V"⟩ prog_18_method_103_code 4 none ∈ lw_tbl := tin1 (List.mem_of_getElem? (i := 40) rfl)
theorem mw_J_fillJ : Cond.code ⟨"java/util/Arrays", "fill", "([JJ)V"⟩ prog_18_method_101_code 5 none ∈ lw_tbl := tin4 (List.mem_of_getElem? (i := 153) rfl)
theorem mw_J_copyOf : Cond.code ⟨"java/util/Arrays", "copyOf", "([II)[I"⟩ prog_18_method_123_code 3 (some (.array .int)) ∈ lw_tbl := tin3 (List.mem_of_getElem? (i := 230) rfl)
def mN (y : Nat) : MethodName := (mT.getD y (⟨"", "", ""⟩, code, 0, none, 0, 0, 0)).1
def sT : List (Nat) := [15, 18, 19, 20, 21, 68, 69, 113, 114, 115, 128, 130, 131, 132, 142, 143, 144, 154, 156, 163, 164, 174, 251, 252, 253, 254, 255, 256]
def sTW (y : Nat) : Cond := .static (mN y)
set_option maxRecDepth 100000 in
theorem sT_ok : inT sT [528, 483, 473, 476, 488, 706, 709, 445, 455, 448, 1038, 1278, 1420, 1625, 1098, 1289, 1306, 1321, 1363, 1479, 1482, 1551, 462, 525, 671, 191, 1024, 861] sTW = true := by decide +kernel
def nT : List (Nat) := [0, 1, 2, 3, 4, 5, 6, 7, 8, 9, 10, 11, 12, 13, 14, 16, 17, 22, 23, 24, 25, 26, 27, 28, 29, 30, 31, 32, 33, 34, 35, 36, 37, 38, 39, 40, 41, 42, 43, 44, 45, 46, 47, 48, 49, 50, 51, 52, 53, 54, 55, 56, 57, 58, 59, 60, 61, 62, 63, 64, 65, 66, 67, 70, 71, 72, 73, 74, 75, 76, 77, 78, 79, 80, 81, 82, 83, 84, 85, 86, 87, 88, 89, 90, 91, 92, 93, 94, 95, 96, 97, 98, 99, 100, 101, 102, 103, 104, 105, 106, 107, 108, 109, 110, 111, 112, 116, 117, 118, 119, 120, 121, 122, 123, 124, 125, 126, 127, 129, 133, 134, 135, 136, 137, 138, 139, 140, 141, 145, 146, 147, 148, 149, 150, 151, 152, 153, 155, 157, 158, 159, 160, 161, 162, 165, 166, 167, 168, 169, 170, 171, 172, 173, 175, 176, 177, 178, 179, 180, 181, 182, 183, 184, 185, 186, 187, 188, 189, 190, 191, 192, 193, 194, 195, 196, 197, 198, 199, 200, 201, 202, 203, 204, 205, 206, 207, 208, 209, 210, 211, 212, 213, 214, 215, 216, 217, 218, 219, 220, 221, 222, 223, 224, 225, 226, 227, 228, 229, 230, 231, 232, 233, 234, 235, 236, 237, 238, 239, 240, 241, 242, 243, 244, 245, 246, 247, 248, 249, 250]
def nTW (y : Nat) : Cond := .instanceMethod (mN y)
set_option maxRecDepth 100000 in
theorem nT_ok : inT nT [295, 598, 678, 682, 953, 558, 378, 492, 906, 508, 652, 500, 594, 913, 521, 187, 602, 1067, 470, 1006, 459, 636, 466, 613, 609, 617, 621, 644, 658, 664, 668, 626, 631, 640, 648, 873, 512, 902, 517, 535, 318, 695, 779, 815, 790, 798, 714, 718, 784, 851, 856, 794, 845, 802, 819, 811, 823, 831, 324, 570, 574, 699, 703, 723, 807, 827, 181, 1053, 496, 550, 554, 173, 441, 451, 479, 539, 565, 577, 581, 686, 690, 891, 916, 920, 924, 932, 940, 944, 948, 956, 960, 968, 977, 985, 989, 993, 997, 1009, 1019, 1029, 1033, 1044, 1048, 1058, 1062, 1071, 929, 562, 546, 937, 586, 590, 897, 965, 974, 982, 1002, 1015, 1077, 1267, 1367, 1385, 1271, 1440, 1436, 1262, 1274, 1281, 1299, 1295, 1310, 1314, 1409, 1405, 1285, 1318, 1302, 1324, 1356, 1370, 1443, 1452, 1447, 1455, 1472, 1476, 1494, 1515, 1498, 1544, 1459, 1540, 1511, 1555, 1559, 1563, 1531, 1527, 1519, 1536, 1523, 1506, 1548, 1571, 1502, 1468, 1578, 1490, 1463, 1586, 1581, 1350, 1346, 1342, 1338, 1330, 1334, 1380, 1389, 1417, 1413, 1401, 1424, 1432, 1428, 1393, 1397, 1375, 1589, 1606, 1610, 1614, 1602, 1598, 1593, 1622, 1617, 1633, 1628, 1636, 1640, 1649, 1644, 1652, 1656, 1678, 1660, 1665, 1674, 1669, 1686, 1681, 1689, 1703, 1707, 1699, 1721, 1717, 1694, 1713, 1725, 1728, 1738, 1732, 1744, 1754, 1758, 1749, 1763] nTW = true := by decide +kernel
def vT : List (Nat) := [1, 2, 3, 4, 5, 7, 8, 9, 10, 11, 12, 13, 14, 17, 22, 23, 24, 25, 26, 27, 28, 29, 30, 31, 32, 33, 34, 35, 36, 37, 38, 39, 41, 42, 43, 44, 46, 47, 48, 49, 50, 51, 52, 53, 54, 55, 56, 57, 58, 59, 60, 61, 62, 64, 65, 66, 67, 70, 71, 72, 74, 75, 76, 77, 79, 80, 81, 82, 83, 84, 85, 86, 87, 88, 89, 90, 91, 92, 93, 94, 95, 96, 97, 98, 99, 100, 101, 102, 103, 104, 105, 106, 107, 108, 109, 110, 111, 112, 116, 117, 118, 119, 120, 121, 122, 123, 124, 125, 126, 127, 133, 134, 135, 136, 137, 138, 139, 140, 141, 145, 146, 147, 148, 149, 150, 151, 152, 153, 155, 157, 158, 159, 160, 161, 162, 165, 166, 167, 168, 169, 170, 171, 172, 173, 175, 176, 177, 178, 179, 180, 181, 182, 183, 184, 185, 186, 187, 188, 189, 190, 191, 192, 193, 194, 195, 196, 197, 198, 199, 200, 201, 202, 203, 204, 205, 206, 207, 208, 209, 210, 211, 212, 213, 214, 215, 216, 217, 218, 219, 220, 221, 222, 223, 224, 225, 226, 227, 228, 229, 230, 231, 232, 233, 234, 235, 236, 237, 238, 239, 240, 241, 242, 243, 244, 245, 246, 247, 248, 249, 250]
def vTW (y : Nat) : Cond := .selects (mN y).cls (mN y) (mN y)
set_option maxRecDepth 100000 in
theorem vT_ok : inT vT [21, 37, 38, 67, 14, 3, 63, 6, 33, 5, 20, 64, 9, 22, 75, 2, 72, 0, 29, 1, 24, 23, 25, 26, 31, 34, 35, 36, 27, 28, 30, 32, 7, 62, 8, 10, 39, 45, 53, 47, 49, 42, 43, 46, 59, 60, 48, 58, 50, 54, 52, 55, 57, 16, 17, 40, 41, 44, 51, 56, 74, 4, 12, 13, 442, 452, 480, 540, 566, 578, 582, 687, 691, 892, 917, 921, 925, 933, 941, 945, 949, 957, 961, 969, 978, 986, 990, 994, 998, 1010, 1020, 1030, 1034, 1045, 1049, 1059, 1063, 1072, 65, 15, 11, 66, 18, 19, 61, 68, 69, 70, 71, 73, 76, 89, 92, 77, 105, 104, 1263, 1275, 1282, 79, 78, 80, 81, 98, 97, 1286, 82, 1303, 1325, 1357, 1371, 1444, 106, 1448, 1456, 108, 109, 111, 116, 112, 123, 1460, 122, 115, 125, 126, 127, 120, 119, 117, 121, 118, 114, 124, 128, 113, 107, 129, 110, 1464, 130, 1582, 88, 87, 86, 85, 83, 84, 91, 93, 100, 99, 96, 101, 103, 102, 94, 95, 90, 1590, 133, 134, 135, 132, 131, 1594, 136, 1618, 137, 1629, 1637, 1641, 138, 1645, 1653, 1657, 140, 1661, 1666, 139, 1670, 141, 1682, 1690, 143, 144, 142, 147, 146, 1695, 145, 148, 1729, 149, 1733, 1745, 150, 151, 1750, 1764] vTW = true := by decide +kernel
def oT : List (Nat) := [0, 1, 2, 3, 4, 5, 6, 7, 8, 9, 10, 11, 12]
def oTW (o : Nat) : Cond := .initialized (onm o)
set_option maxRecDepth 100000 in
theorem oT_ok : inT oT [157, 160, 155, 169, 158, 159, 154, 153, 161, 152, 156, 164, 162] oTW = true := by decide +kernel
def cT : List (Nat × Nat × Nat × Nat) := [(9, 9, 78, 0), (7, 9, 73, 1), (6, 11, 16, 1), (2, 39, 254, 0), (7, 22, 0, 1), (0, 21, 16, 1), (7, 29, 45, 1), (4, 15, 63, 1), (7, 36, 6, 1), (7, 43, 16, 1), (9, 13, 79, 0), (7, 71, 113, 0), (7, 90, 115, 0), (9, 18, 80, 0), (7, 106, 114, 0), (7, 116, 25, 1), (2, 80, 251, 0), (7, 119, 27, 1), (7, 123, 23, 1), (2, 70, 19, 0), (2, 73, 20, 0), (9, 23, 81, 0), (7, 132, 18, 1), (7, 135, 19, 1), (7, 138, 20, 1), (7, 141, 21, 1), (7, 147, 7, 1), (7, 154, 75, 1), (7, 158, 11, 1), (1, 55, 18, 1), (1, 44, 19, 1), (1, 48, 20, 1), (1, 58, 21, 1), (1, 61, 9, 0), (1, 70, 41, 1), (1, 73, 43, 1), (1, 76, 14, 0), (1, 88, 252, 0), (1, 94, 15, 0), (1, 79, 44, 1), (1, 83, 251, 0), (9, 27, 82, 0), (7, 165, 118, 0), (7, 168, 76, 1), (7, 171, 77, 1), (7, 175, 5, 1), (7, 178, 117, 0), (9, 31, 83, 0), (7, 185, 64, 1), (7, 191, 65, 1), (9, 36, 84, 0), (9, 41, 85, 0), (7, 201, 120, 0), (7, 315, 121, 0), (7, 342, 12, 1), (7, 319, 1, 1), (0, 26, 17, 1), (7, 322, 29, 1), (2, 88, 28, 0), (2, 92, 30, 0), (2, 96, 31, 0), (2, 76, 115, 1), (2, 99, 36, 0), (2, 118, 27, 0), (2, 121, 37, 0), (2, 85, 25, 0), (2, 125, 26, 0), (2, 128, 38, 0), (2, 102, 32, 0), (2, 105, 39, 0), (7, 326, 10, 1), (1, 37, 7, 0), (1, 51, 11, 0), (7, 330, 33, 1), (2, 109, 18, 0), (2, 112, 21, 0), (2, 115, 34, 0), (7, 333, 35, 1), (2, 64, 253, 0), (7, 336, 2, 1), (7, 339, 3, 1), (0, 33, 251, 0), (9, 46, 86, 0), (9, 50, 87, 0), (7, 211, 46, 1), (4, 41, 66, 1), (5, 20, 67, 0), (5, 32, 68, 0), (5, 36, 69, 0), (5, 39, 251, 0), (4, 44, 51, 0), (4, 81, 52, 0), (4, 77, 70, 1), (4, 64, 47, 0), (4, 74, 67, 1), (4, 85, 53, 0), (4, 109, 49, 0), (4, 112, 56, 0), (4, 115, 50, 0), (4, 129, 58, 0), (4, 71, 71, 1), (4, 145, 60, 0), (4, 60, 48, 0), (4, 149, 59, 0), (4, 132, 61, 0), (4, 121, 72, 1), (4, 152, 62, 0), (4, 135, 57, 0), (4, 89, 54, 0), (4, 92, 55, 0), (4, 51, 256, 0), (10, 304, 251, 0), (4, 57, 40, 1), (9, 54, 88, 0), (7, 219, 17, 1), (7, 223, 122, 0), (7, 349, 41, 1), (7, 352, 42, 1), (7, 355, 8, 1), (1, 33, 115, 1), (7, 359, 43, 1), (7, 362, 14, 1), (7, 365, 13, 1), (9, 58, 89, 0), (9, 62, 90, 0), (9, 66, 91, 0), (7, 230, 116, 0), (9, 70, 92, 0), (7, 233, 119, 0), (9, 74, 93, 0), (9, 78, 94, 0), (9, 82, 95, 0), (7, 239, 4, 1), (9, 86, 96, 0), (9, 90, 97, 0), (7, 243, 123, 0), (9, 94, 98, 0), (7, 246, 254, 0), (7, 252, 124, 0), (9, 98, 99, 0), (7, 255, 125, 0), (9, 102, 100, 0), (9, 106, 101, 0), (9, 110, 102, 0), (9, 114, 103, 0), (7, 268, 126, 0), (7, 369, 24, 1), (9, 118, 104, 0), (7, 271, 103, 0), (7, 275, 127, 0), (7, 372, 252, 0), (9, 122, 105, 0), (7, 280, 255, 0), (9, 127, 106, 0), (9, 131, 107, 0), (7, 295, 128, 0), (9, 135, 108, 0), (9, 139, 109, 0), (7, 298, 74, 1), (6, 38, 17, 1), (9, 143, 110, 0), (9, 147, 111, 0), (7, 304, 22, 1), (7, 307, 253, 0), (9, 151, 112, 0), (9, 12, 129, 0), (8, 130, 142, 0), (9, 85, 139, 0), (8, 150, 133, 0), (8, 143, 136, 0), (9, 142, 140, 0), (8, 153, 130, 0), (9, 146, 141, 0), (9, 17, 151, 0), (8, 159, 143, 0), (8, 179, 146, 0), (8, 163, 145, 0), (9, 22, 153, 0), (8, 185, 144, 0), (8, 167, 147, 0), (8, 173, 148, 0), (8, 188, 152, 0), (8, 182, 154, 0), (9, 26, 155, 0), (8, 193, 197, 0), (8, 399, 198, 0), (8, 402, 196, 0), (8, 396, 195, 0), (8, 390, 194, 0), (8, 379, 193, 0), (9, 30, 157, 0), (8, 202, 156, 0), (8, 205, 134, 0), (9, 45, 158, 0), (8, 214, 209, 0), (8, 438, 199, 0), (8, 442, 135, 0), (8, 411, 200, 0), (8, 445, 207, 0), (8, 448, 208, 0), (8, 433, 203, 0), (8, 415, 150, 0), (8, 170, 149, 0), (8, 418, 202, 0), (8, 421, 201, 0), (8, 408, 131, 0), (8, 424, 204, 0), (8, 427, 206, 0), (8, 430, 205, 0), (8, 451, 138, 0), (8, 147, 137, 0), (9, 49, 159, 0), (9, 35, 161, 0), (8, 218, 160, 0), (9, 40, 162, 0), (9, 61, 171, 0), (9, 53, 190, 0), (8, 361, 187, 0), (8, 350, 165, 0), (8, 228, 166, 0), (8, 238, 163, 0), (8, 241, 164, 0), (8, 364, 189, 0), (8, 282, 167, 0), (8, 257, 169, 0), (8, 356, 186, 0), (8, 340, 183, 0), (8, 289, 173, 0), (8, 295, 168, 0), (8, 298, 180, 0), (8, 323, 182, 0), (8, 304, 179, 0), (8, 308, 178, 0), (8, 313, 181, 0), (8, 270, 172, 0), (8, 317, 170, 0), (8, 343, 184, 0), (8, 267, 174, 0), (8, 326, 175, 0), (8, 329, 176, 0), (8, 332, 177, 0), (8, 347, 185, 0), (8, 367, 188, 0), (9, 69, 192, 0), (8, 370, 191, 0), (9, 73, 210, 0), (9, 77, 216, 0), (8, 466, 215, 0), (8, 463, 214, 0), (8, 454, 211, 0), (8, 457, 212, 0), (8, 460, 213, 0), (9, 81, 218, 0), (8, 472, 217, 0), (8, 469, 132, 0), (9, 89, 220, 0), (8, 475, 219, 0), (9, 93, 221, 0), (9, 97, 222, 0), (9, 101, 224, 0), (8, 478, 223, 0), (9, 105, 225, 0), (9, 130, 226, 0), (9, 109, 228, 0), (9, 113, 229, 0), (9, 117, 231, 0), (8, 486, 230, 0), (8, 483, 227, 0), (9, 121, 233, 0), (8, 489, 232, 0), (9, 126, 234, 0), (9, 57, 240, 0), (8, 517, 237, 0), (8, 494, 235, 0), (8, 497, 236, 0), (8, 520, 241, 0), (8, 523, 239, 0), (8, 514, 238, 0), (8, 526, 242, 0), (9, 65, 243, 0), (9, 134, 245, 0), (8, 540, 244, 0), (9, 138, 246, 0), (9, 150, 249, 0), (8, 548, 247, 0), (8, 551, 248, 0), (9, 154, 250, 0)]
def cTW (e : Nat × Nat × Nat × Nat) : Cond := match e with
  | (o, ix, y, 0) => .methodLink (onm o) ix (mN y)
  | (o, ix, y, _) => .methodLinkNest (onm o) ix (mN y) "DiffusingRoutes"
set_option maxRecDepth 100000 in
theorem cT_ok : inT cT [172, 180, 186, 190, 294, 300, 317, 323, 377, 389, 440, 444, 447, 450, 454, 457, 461, 464, 468, 472, 475, 478, 482, 485, 486, 487, 490, 494, 498, 502, 503, 504, 505, 506, 510, 515, 519, 524, 527, 533, 537, 538, 544, 548, 552, 556, 560, 564, 568, 572, 576, 580, 584, 588, 592, 596, 600, 607, 611, 615, 619, 623, 624, 628, 629, 633, 634, 638, 642, 646, 650, 654, 655, 656, 660, 661, 662, 666, 670, 676, 680, 684, 685, 689, 693, 697, 701, 705, 708, 711, 712, 716, 721, 777, 781, 782, 788, 792, 796, 800, 805, 809, 813, 817, 821, 825, 829, 843, 849, 854, 860, 870, 872, 890, 894, 895, 899, 900, 904, 908, 909, 910, 911, 915, 919, 923, 927, 931, 935, 939, 943, 947, 951, 955, 959, 963, 967, 971, 972, 976, 980, 984, 988, 992, 996, 1000, 1004, 1008, 1012, 1013, 1017, 1018, 1023, 1028, 1032, 1037, 1043, 1047, 1051, 1055, 1057, 1061, 1065, 1069, 1070, 1076, 1097, 1261, 1265, 1269, 1273, 1277, 1280, 1284, 1288, 1293, 1297, 1301, 1305, 1308, 1312, 1316, 1320, 1323, 1328, 1332, 1336, 1340, 1344, 1348, 1355, 1362, 1365, 1369, 1373, 1378, 1383, 1387, 1391, 1395, 1399, 1403, 1407, 1411, 1415, 1419, 1422, 1426, 1430, 1434, 1438, 1442, 1446, 1450, 1454, 1458, 1462, 1466, 1470, 1474, 1478, 1481, 1488, 1492, 1496, 1500, 1504, 1509, 1513, 1517, 1521, 1525, 1529, 1534, 1538, 1542, 1546, 1550, 1553, 1557, 1561, 1569, 1576, 1580, 1584, 1588, 1592, 1596, 1600, 1604, 1608, 1612, 1616, 1620, 1624, 1627, 1631, 1635, 1639, 1643, 1647, 1651, 1655, 1659, 1664, 1668, 1672, 1676, 1680, 1684, 1688, 1693, 1697, 1701, 1705, 1711, 1715, 1719, 1723, 1727, 1731, 1736, 1743, 1748, 1752, 1756, 1762] cTW = true := by decide +kernel
def bT : List (Nat × Nat) := [(7, 1), (6, 3), (2, 3), (0, 3), (4, 9), (5, 1), (1, 5), (3, 3), (8, 1)]
def bTW (e : Nat × Nat) : Cond := .methodLink (onm e.1) e.2 objectInit
set_option maxRecDepth 100000 in
theorem bT_ok : inT bT [175, 183, 189, 297, 320, 326, 380, 875, 1079] bTW = true := by decide +kernel
def aT : List (Nat × Nat) := [(2, 45), (10, 150), (6, 42)]
def aTW (e : Nat × Nat) : Cond := .methodLink (onm e.1) e.2 arraycopyName
set_option maxRecDepth 100000 in
theorem aT_ok : inT aT [604, 871, 1056] aTW = true := by decide +kernel
def kT : List (Nat × Nat × Nat) := [(9, 7, 7), (7, 7, 6), (6, 9, 2), (6, 18, 3), (7, 20, 0), (0, 11, 2), (7, 27, 4), (4, 1, 5), (7, 34, 1), (7, 41, 2), (4, 5, 3), (9, 10, 8)]
def kTW (e : Nat × Nat × Nat) : Cond := .classLink (onm e.1) e.2.1 (onm e.2.2)
set_option maxRecDepth 100000 in
theorem kT_ok : inT kT [170, 178, 184, 252, 292, 298, 315, 321, 375, 388, 859, 1074] kTW = true := by decide +kernel
def zT : List (Nat) := [0, 1, 2, 3, 4, 5, 6, 7, 8]
def zTW (c : Nat) : Cond := .instantiable (onm c) (vwCl.getD c ("", TX0, 0)).2.2
set_option maxRecDepth 100000 in
theorem zT_ok : inT zT [293, 376, 185, 513, 316, 322, 179, 171, 1075] zTW = true := by decide +kernel
def iT : List (Nat × Nat × Int32) := [(1, 82, 2000000000), (11, 265, 1431655765), (11, 266, 858993459), (11, 267, 252645135), (7, 290, 1000000), (8, 23, 33231)]
def iTW (e : Nat × Nat × Int32) : Cond := .constant (onm e.1) e.2.1 e.2.2
set_option maxRecDepth 100000 in
theorem iT_ok : inT iT [523, 673, 674, 675, 1036, 1080] iTW = true := by decide +kernel
def jT : List (Nat × Nat × Int64) := [(1, 98, 2000000000), (1, 100, (-1000000000)), (1, 102, 1000000000), (7, 278, (-1)), (7, 283, 1000000000000), (7, 288, 10), (7, 377, 1103), (7, 379, 12345), (7, 381, 1000003), (8, 58, 370116), (8, 60, 215533), (8, 62, 655), (8, 64, 6194), (8, 66, 24159891), (8, 68, 664997), (8, 70, 441828), (8, 76, 146885), (8, 78, 404362868), (8, 80, 147761182821), (8, 82, 37365445), (8, 87, 18921843), (8, 89, 67155), (8, 112, 402891), (8, 114, 643248), (8, 116, 3764), (8, 157, 6), (8, 177, 7), (8, 191, 4), (8, 383, (-1000000000)), (8, 385, 1000000000), (8, 406, 99), (8, 196, 999), (8, 198, 10), (8, 200, 9), (8, 436, 50), (8, 251, (-1)), (8, 247, 32), (8, 249, 96), (8, 253, 1000000), (8, 255, 48), (8, 321, 14836), (8, 311, 1000), (8, 274, 20), (8, 276, 24), (8, 278, 25), (8, 280, 27), (8, 336, 1476), (8, 338, 498), (8, 359, 294), (8, 481, 3), (8, 492, 1000000000000), (8, 501, 51), (8, 503, 21279923), (8, 538, 60), (8, 532, 1103), (8, 534, 12345), (8, 536, 1000003), (8, 546, 2), (8, 554, 13), (8, 556, 15)]
def jTW (e : Nat × Nat × Int64) : Cond := .constantLong (onm e.1) e.2.1 e.2.2
set_option maxRecDepth 100000 in
theorem jT_ok : inT jT [530, 531, 532, 1022, 1026, 1027, 1040, 1041, 1042, 1081, 1082, 1083, 1084, 1085, 1086, 1087, 1088, 1089, 1090, 1091, 1092, 1093, 1094, 1095, 1096, 1291, 1292, 1327, 1352, 1353, 1354, 1359, 1360, 1361, 1377, 1382, 1484, 1485, 1486, 1487, 1508, 1533, 1565, 1566, 1567, 1568, 1573, 1574, 1575, 1663, 1692, 1709, 1710, 1735, 1740, 1741, 1742, 1747, 1760, 1761] jTW = true := by decide +kernel
set_option maxRecDepth 100000 in
theorem lay0_ok : inT (List.range 4) [306, 308, 310, 312] (u_lay RX0 TX0) = true := by decide +kernel
set_option maxRecDepth 100000 in
theorem lay1_ok : inT (List.range 2) [383, 385] (u_lay RX1 TX1) = true := by decide +kernel
set_option maxRecDepth 100000 in
theorem lay2_ok : inT (List.range 13) [224, 226, 228, 230, 232, 234, 236, 238, 240, 242, 244, 246, 248] (u_lay RX2 TX2) = true := by decide +kernel
set_option maxRecDepth 100000 in
theorem lay3_ok : inT (List.range 3) [882, 884, 886] (u_lay RX3 TX3) = true := by decide +kernel
set_option maxRecDepth 100000 in
theorem lay4_ok : inT (List.range 7) [360, 362, 364, 366, 368, 370, 372] (u_lay RX4 TX4) = true := by decide +kernel
set_option maxRecDepth 100000 in
theorem lay5_ok : inT (List.range 6) [338, 340, 342, 344, 346, 348] (u_lay RX5 TX5) = true := by decide +kernel
set_option maxRecDepth 100000 in
theorem lay6_ok : inT (List.range 9) [272, 274, 276, 278, 280, 282, 284, 286, 288] (u_lay RX6 TX6) = true := by decide +kernel
set_option maxRecDepth 100000 in
theorem lay7_ok : inT (List.range 16) [406, 408, 410, 412, 414, 416, 418, 420, 422, 424, 426, 428, 430, 432, 434, 436] (u_lay RX7 TX7) = true := by decide +kernel
set_option maxRecDepth 100000 in
theorem lay8_ok : inT (List.range 53) [1153, 1155, 1157, 1159, 1161, 1163, 1165, 1167, 1169, 1171, 1173, 1175, 1177, 1179, 1181, 1183, 1185, 1187, 1189, 1191, 1193, 1195, 1197, 1199, 1201, 1203, 1205, 1207, 1209, 1211, 1213, 1215, 1217, 1219, 1221, 1223, 1225, 1227, 1229, 1231, 1233, 1235, 1237, 1239, 1241, 1243, 1245, 1247, 1249, 1251, 1253, 1255, 1257] (u_lay RX8 TX8) = true := by decide +kernel
def qT : List (Nat × Nat × Nat) := [(4, 95, 2), (4, 97, 3), (4, 99, 4), (4, 101, 5), (4, 103, 6), (4, 105, 7), (4, 107, 8), (4, 143, 9), (4, 157, 10), (4, 159, 11), (4, 161, 12), (4, 163, 13), (4, 165, 14), (4, 167, 15), (4, 169, 16), (4, 171, 17), (4, 173, 18), (4, 175, 19), (4, 139, 20), (4, 141, 21), (4, 119, 22), (4, 127, 23)]
def qTx (k : Nat) : String := (["link", "step", "cut", "ranks", "bars", "to", "as", "not", "time", "waits", "done", "latest", "distance", "active", "kind", "from", "far", "mood", "or", "and", "times", "if"] : List String).getD k ""
set_option maxRecDepth 100000 in
theorem mall : ∀ q ∈ mT, Cond.code q.1 q.2.1 q.2.2.1 q.2.2.2.1 ∈ lw_tbl := List.forall_mem_cons.mpr ⟨mw_Hi_init, List.forall_mem_cons.mpr ⟨mw_Hi_prepares, List.forall_mem_cons.mpr ⟨mw_Hi_putsBack, List.forall_mem_cons.mpr ⟨mw_Hi_keeps, List.forall_mem_cons.mpr ⟨mw_Hi_takesBack, List.forall_mem_cons.mpr ⟨mw_Hi_clears, List.forall_mem_cons.mpr ⟨mw_Ju_init, List.forall_mem_cons.mpr ⟨mw_Ju_looksAt, List.forall_mem_cons.mpr ⟨mw_Ju_looksAtRun, List.forall_mem_cons.mpr ⟨mw_Ju_looksAtChange, List.forall_mem_cons.mpr ⟨mw_Ju_first, List.forall_mem_cons.mpr ⟨mw_Ju_rank, List.forall_mem_cons.mpr ⟨mw_Ju_bars, List.forall_mem_cons.mpr ⟨mw_Ju_tellsSums, List.forall_mem_cons.mpr ⟨mw_Ju_value, List.forall_mem_cons.mpr ⟨mw_Ju_joins, List.forall_mem_cons.mpr ⟨mw_Ne_init, List.forall_mem_cons.mpr ⟨mw_Ne_copies, List.forall_mem_cons.mpr ⟨mw_Ne_kindOf, List.forall_mem_cons.mpr ⟨mw_Ne_fromOf, List.forall_mem_cons.mpr ⟨mw_Ne_toOf, List.forall_mem_cons.mpr ⟨mw_Ne_distanceOf, List.forall_mem_cons.mpr ⟨mw_Ne_linkCount, List.forall_mem_cons.mpr ⟨mw_Ne_waitOn, List.forall_mem_cons.mpr ⟨mw_Ne_fact, List.forall_mem_cons.mpr ⟨mw_Ne_by, List.forall_mem_cons.mpr ⟨mw_Ne_leastBy, List.forall_mem_cons.mpr ⟨mw_Ne_feasible, List.forall_mem_cons.mpr ⟨mw_Ne_sends, List.forall_mem_cons.mpr ⟨mw_Ne_relinks, List.forall_mem_cons.mpr ⟨mw_Ne_losesMessages, List.forall_mem_cons.mpr ⟨mw_Ne_takesChange, List.forall_mem_cons.mpr ⟨mw_Ne_looksAtSuccessor, List.forall_mem_cons.mpr ⟨mw_Ne_delivers, List.forall_mem_cons.mpr ⟨mw_Ne_hears, List.forall_mem_cons.mpr ⟨mw_Ne_cuts, List.forall_mem_cons.mpr ⟨mw_Ne_decides, List.forall_mem_cons.mpr ⟨mw_Ne_takesLeast, List.forall_mem_cons.mpr ⟨mw_Ne_goesActive, List.forall_mem_cons.mpr ⟨mw_Ne_ends, List.forall_mem_cons.mpr ⟨mw_Pr_init, List.forall_mem_cons.mpr ⟨mw_Pr_kind, List.forall_mem_cons.mpr ⟨mw_Pr_times, List.forall_mem_cons.mpr ⟨mw_Pr_test, List.forall_mem_cons.mpr ⟨mw_Pr_sum, List.forall_mem_cons.mpr ⟨mw_Re_init, List.forall_mem_cons.mpr ⟨mw_Re_reads, List.forall_mem_cons.mpr ⟨mw_Re_fails, List.forall_mem_cons.mpr ⟨mw_Re_takesSign, List.forall_mem_cons.mpr ⟨mw_Re_takesWord, List.forall_mem_cons.mpr ⟨mw_Re_emits, List.forall_mem_cons.mpr ⟨mw_Re_readsClause, List.forall_mem_cons.mpr ⟨mw_Re_kindAt, List.forall_mem_cons.mpr ⟨mw_Re_readsSums, List.forall_mem_cons.mpr ⟨mw_Re_readsTimes, List.forall_mem_cons.mpr ⟨mw_Re_readsTest, List.forall_mem_cons.mpr ⟨mw_Re_readsChain, List.forall_mem_cons.mpr ⟨mw_Re_jointAt, List.forall_mem_cons.mpr ⟨mw_Re_readsPlain, List.forall_mem_cons.mpr ⟨mw_Re_readsComparison, List.forall_mem_cons.mpr ⟨mw_Re_readsBracket, List.forall_mem_cons.mpr ⟨mw_Re_readsPart, List.forall_mem_cons.mpr ⟨mw_Re_wordAt, List.forall_mem_cons.mpr ⟨mw_Ta_init, List.forall_mem_cons.mpr ⟨mw_Ta_hasRoom, List.forall_mem_cons.mpr ⟨mw_Ta_takes, List.forall_mem_cons.mpr ⟨mw_Ta_starts, List.forall_mem_cons.mpr ⟨mw_Ta_advances, List.forall_mem_cons.mpr ⟨mw_Ta_isLetter, List.forall_mem_cons.mpr ⟨mw_Ta_isDigit, List.forall_mem_cons.mpr ⟨mw_Ta_hasWord, List.forall_mem_cons.mpr ⟨mw_Ta_hasSign, List.forall_mem_cons.mpr ⟨mw_Ta_hasNumber, List.forall_mem_cons.mpr ⟨mw_Wo_init, List.forall_mem_cons.mpr ⟨mw_Wo_copies, List.forall_mem_cons.mpr ⟨mw_Wo_lawAt, List.forall_mem_cons.mpr ⟨mw_Wo_term, List.forall_mem_cons.mpr ⟨mw_Wo_setTerm, List.forall_mem_cons.mpr ⟨mw_Di_init, List.forall_mem_cons.mpr ⟨mw_Di_router, List.forall_mem_cons.mpr ⟨mw_Di_between, List.forall_mem_cons.mpr ⟨mw_Di_message, List.forall_mem_cons.mpr ⟨mw_Di_terms, List.forall_mem_cons.mpr ⟨mw_Di_feed, List.forall_mem_cons.mpr ⟨mw_Di_end, List.forall_mem_cons.mpr ⟨mw_Di_row, List.forall_mem_cons.mpr ⟨mw_Di_blots, List.forall_mem_cons.mpr ⟨mw_Di_law, List.forall_mem_cons.mpr ⟨mw_Di_orders, List.forall_mem_cons.mpr ⟨mw_Di_fault, List.forall_mem_cons.mpr ⟨mw_Di_stopped, List.forall_mem_cons.mpr ⟨mw_Di_force, List.forall_mem_cons.mpr ⟨mw_Di_link, List.forall_mem_cons.mpr ⟨mw_Di_step, List.forall_mem_cons.mpr ⟨mw_Di_cut, List.forall_mem_cons.mpr ⟨mw_Di_undo, List.forall_mem_cons.mpr ⟨mw_Di_path, List.forall_mem_cons.mpr ⟨mw_Di_loops, List.forall_mem_cons.mpr ⟨mw_Di_least, List.forall_mem_cons.mpr ⟨mw_Di_quiet, List.forall_mem_cons.mpr ⟨mw_Di_then, List.forall_mem_cons.mpr ⟨mw_Di_seen, List.forall_mem_cons.mpr ⟨mw_Di_forget, List.forall_mem_cons.mpr ⟨mw_Di_canBe, List.forall_mem_cons.mpr ⟨mw_Di_ask, List.forall_mem_cons.mpr ⟨mw_Di_few, List.forall_mem_cons.mpr ⟨mw_Di_compare, List.forall_mem_cons.mpr ⟨mw_Di_days, List.forall_mem_cons.mpr ⟨mw_Di_drawn, List.forall_mem_cons.mpr ⟨mw_Di_image, List.forall_mem_cons.mpr ⟨mw_Di_back, List.forall_mem_cons.mpr ⟨mw_Di_count, List.forall_mem_cons.mpr ⟨mw_Di_status, List.forall_mem_cons.mpr ⟨mw_Di_isRouter, List.forall_mem_cons.mpr ⟨mw_Di_arePair, List.forall_mem_cons.mpr ⟨mw_Di_bit, List.forall_mem_cons.mpr ⟨mw_Di_isLawOrNone, List.forall_mem_cons.mpr ⟨mw_Di_went, List.forall_mem_cons.mpr ⟨mw_Di_refused, List.forall_mem_cons.mpr ⟨mw_Di_answered, List.forall_mem_cons.mpr ⟨mw_Di_act, List.forall_mem_cons.mpr ⟨mw_Di_refusalOf, List.forall_mem_cons.mpr ⟨mw_Di_run, List.forall_mem_cons.mpr ⟨mw_Di_comesToItself, List.forall_mem_cons.mpr ⟨mw_Di_shortenWays, List.forall_mem_cons.mpr ⟨mw_Di_stepsTillQuiet, List.forall_mem_cons.mpr ⟨mw_Di_isAsSeen, List.forall_mem_cons.mpr ⟨mw_Di_mostAlike, List.forall_mem_cons.mpr ⟨mw_Di_drawFrom, List.forall_mem_cons.mpr ⟨mw_Mo_init, List.forall_mem_cons.mpr ⟨mw_Mo_in, List.forall_mem_cons.mpr ⟨mw_Mo_is, List.forall_mem_cons.mpr ⟨mw_Mo_many, List.forall_mem_cons.mpr ⟨mw_Mo_tell, List.forall_mem_cons.mpr ⟨mw_Mo_change, List.forall_mem_cons.mpr ⟨mw_Mo_keepAll, List.forall_mem_cons.mpr ⟨mw_Mo_putBack, List.forall_mem_cons.mpr ⟨mw_Mo_remember, List.forall_mem_cons.mpr ⟨mw_Mo_over, List.forall_mem_cons.mpr ⟨mw_Mo_undo, List.forall_mem_cons.mpr ⟨mw_Mo_image, List.forall_mem_cons.mpr ⟨mw_Mo_back, List.forall_mem_cons.mpr ⟨mw_Mo_routerAt, List.forall_mem_cons.mpr ⟨mw_Mo_isRouter, List.forall_mem_cons.mpr ⟨mw_Mo_isPair, List.forall_mem_cons.mpr ⟨mw_Mo_cost, List.forall_mem_cons.mpr ⟨mw_Mo_neighbours, List.forall_mem_cons.mpr ⟨mw_Mo_by, List.forall_mem_cons.mpr ⟨mw_Mo_isFeasible, List.forall_mem_cons.mpr ⟨mw_Mo_leastBy, List.forall_mem_cons.mpr ⟨mw_Mo_best, List.forall_mem_cons.mpr ⟨mw_Mo_router, List.forall_mem_cons.mpr ⟨mw_Mo_waiting, List.forall_mem_cons.mpr ⟨mw_Mo_between, List.forall_mem_cons.mpr ⟨mw_Mo_messageAt, List.forall_mem_cons.mpr ⟨mw_Mo_message, List.forall_mem_cons.mpr ⟨mw_Mo_termAt, List.forall_mem_cons.mpr ⟨mw_Mo_terms, List.forall_mem_cons.mpr ⟨mw_Mo_row, List.forall_mem_cons.mpr ⟨mw_Mo_blots, List.forall_mem_cons.mpr ⟨mw_Mo_four, List.forall_mem_cons.mpr ⟨mw_Mo_feed, List.forall_mem_cons.mpr ⟨mw_Mo_end, List.forall_mem_cons.mpr ⟨mw_Mo_isSmall, List.forall_mem_cons.mpr ⟨mw_Mo_isDigit, List.forall_mem_cons.mpr ⟨mw_Mo_beginTape, List.forall_mem_cons.mpr ⟨mw_Mo_next, List.forall_mem_cons.mpr ⟨mw_Mo_isWord, List.forall_mem_cons.mpr ⟨mw_Mo_isSign, List.forall_mem_cons.mpr ⟨mw_Mo_must, List.forall_mem_cons.mpr ⟨mw_Mo_number, List.forall_mem_cons.mpr ⟨mw_Mo_fault, List.forall_mem_cons.mpr ⟨mw_Mo_emit, List.forall_mem_cons.mpr ⟨mw_Mo_push, List.forall_mem_cons.mpr ⟨mw_Mo_binds, List.forall_mem_cons.mpr ⟨mw_Mo_settle, List.forall_mem_cons.mpr ⟨mw_Mo_inner, List.forall_mem_cons.mpr ⟨mw_Mo_isCompared, List.forall_mem_cons.mpr ⟨mw_Mo_partAt, List.forall_mem_cons.mpr ⟨mw_Mo_orderPartAt, List.forall_mem_cons.mpr ⟨mw_Mo_openBracket, List.forall_mem_cons.mpr ⟨mw_Mo_leaf, List.forall_mem_cons.mpr ⟨mw_Mo_readPart, List.forall_mem_cons.mpr ⟨mw_Mo_readPlain, List.forall_mem_cons.mpr ⟨mw_Mo_behindSum, List.forall_mem_cons.mpr ⟨mw_Mo_behindTest, List.forall_mem_cons.mpr ⟨mw_Mo_readExpression, List.forall_mem_cons.mpr ⟨mw_Mo_beginText, List.forall_mem_cons.mpr ⟨mw_Mo_endText, List.forall_mem_cons.mpr ⟨mw_Mo_readLaw, List.forall_mem_cons.mpr ⟨mw_Mo_law, List.forall_mem_cons.mpr ⟨mw_Mo_isLaw, List.forall_mem_cons.mpr ⟨mw_Mo_force, List.forall_mem_cons.mpr ⟨mw_Mo_reckon, List.forall_mem_cons.mpr ⟨mw_Mo_reckonAll, List.forall_mem_cons.mpr ⟨mw_Mo_isSo, List.forall_mem_cons.mpr ⟨mw_Mo_tells, List.forall_mem_cons.mpr ⟨mw_Mo_rank, List.forall_mem_cons.mpr ⟨mw_Mo_rankOf, List.forall_mem_cons.mpr ⟨mw_Mo_isBarred, List.forall_mem_cons.mpr ⟨mw_Mo_send, List.forall_mem_cons.mpr ⟨mw_Mo_sendAll, List.forall_mem_cons.mpr ⟨mw_Mo_take, List.forall_mem_cons.mpr ⟨mw_Mo_decide, List.forall_mem_cons.mpr ⟨mw_Mo_goActive, List.forall_mem_cons.mpr ⟨mw_Mo_lowestBy, List.forall_mem_cons.mpr ⟨mw_Mo_ends, List.forall_mem_cons.mpr ⟨mw_Mo_lose, List.forall_mem_cons.mpr ⟨mw_Mo_takesLink, List.forall_mem_cons.mpr ⟨mw_Mo_linkNow, List.forall_mem_cons.mpr ⟨mw_Mo_link, List.forall_mem_cons.mpr ⟨mw_Mo_nextMessage, List.forall_mem_cons.mpr ⟨mw_Mo_takeOut, List.forall_mem_cons.mpr ⟨mw_Mo_takesActive, List.forall_mem_cons.mpr ⟨mw_Mo_deliver, List.forall_mem_cons.mpr ⟨mw_Mo_stepNow, List.forall_mem_cons.mpr ⟨mw_Mo_step, List.forall_mem_cons.mpr ⟨mw_Mo_cutNow, List.forall_mem_cons.mpr ⟨mw_Mo_cut, List.forall_mem_cons.mpr ⟨mw_Mo_behind, List.forall_mem_cons.mpr ⟨mw_Mo_path, List.forall_mem_cons.mpr ⟨mw_Mo_loops, List.forall_mem_cons.mpr ⟨mw_Mo_least, List.forall_mem_cons.mpr ⟨mw_Mo_quietBy, List.forall_mem_cons.mpr ⟨mw_Mo_quiet, List.forall_mem_cons.mpr ⟨mw_Mo_then, List.forall_mem_cons.mpr ⟨mw_Mo_compare, List.forall_mem_cons.mpr ⟨mw_Mo_factOf, List.forall_mem_cons.mpr ⟨mw_Mo_seen, List.forall_mem_cons.mpr ⟨mw_Mo_forget, List.forall_mem_cons.mpr ⟨mw_Mo_thatCanBe, List.forall_mem_cons.mpr ⟨mw_Mo_canBe, List.forall_mem_cons.mpr ⟨mw_Mo_mostAlike, List.forall_mem_cons.mpr ⟨mw_Mo_ask, List.forall_mem_cons.mpr ⟨mw_Mo_few, List.forall_mem_cons.mpr ⟨mw_Mo_readSum, List.forall_mem_cons.mpr ⟨mw_Mo_readBehind, List.forall_mem_cons.mpr ⟨mw_Mo_readOrder, List.forall_mem_cons.mpr ⟨mw_Mo_sumOf, List.forall_mem_cons.mpr ⟨mw_Mo_run, List.forall_mem_cons.mpr ⟨mw_Mo_orders, List.forall_mem_cons.mpr ⟨mw_Mo_keepOrders, List.forall_mem_cons.mpr ⟨mw_Mo_giveBack, List.forall_mem_cons.mpr ⟨mw_Mo_stopped, List.forall_mem_cons.mpr ⟨mw_Mo_draw, List.forall_mem_cons.mpr ⟨mw_Mo_days, List.forall_mem_cons.mpr ⟨mw_Mo_drawn, List.forall_mem_cons.mpr ⟨mw_Mo_links, List.forall_mem_cons.mpr ⟨mw_Mo_actives, List.forall_mem_cons.mpr ⟨mw_Mo_count, List.forall_mem_cons.mpr ⟨mw_Mo_status, List.forall_mem_cons.mpr ⟨mw_J_min, List.forall_mem_cons.mpr ⟨mw_J_max, List.forall_mem_cons.mpr ⟨mw_J_bits, List.forall_mem_cons.mpr ⟨mw_J_fillI, List.forall_mem_cons.mpr ⟨mw_J_fillJ, List.forall_mem_cons.mpr ⟨mw_J_copyOf, fun _ h => absurd h List.not_mem_nil⟩⟩⟩⟩⟩⟩⟩⟩⟩⟩⟩⟩⟩⟩⟩⟩⟩⟩⟩⟩⟩⟩⟩⟩⟩⟩⟩⟩⟩⟩⟩⟩⟩⟩⟩⟩⟩⟩⟩⟩⟩⟩⟩⟩⟩⟩⟩⟩⟩⟩⟩⟩⟩⟩⟩⟩⟩⟩⟩⟩⟩⟩⟩⟩⟩⟩⟩⟩⟩⟩⟩⟩⟩⟩⟩⟩⟩⟩⟩⟩⟩⟩⟩⟩⟩⟩⟩⟩⟩⟩⟩⟩⟩⟩⟩⟩⟩⟩⟩⟩⟩⟩⟩⟩⟩⟩⟩⟩⟩⟩⟩⟩⟩⟩⟩⟩⟩⟩⟩⟩⟩⟩⟩⟩⟩⟩⟩⟩⟩⟩⟩⟩⟩⟩⟩⟩⟩⟩⟩⟩⟩⟩⟩⟩⟩⟩⟩⟩⟩⟩⟩⟩⟩⟩⟩⟩⟩⟩⟩⟩⟩⟩⟩⟩⟩⟩⟩⟩⟩⟩⟩⟩⟩⟩⟩⟩⟩⟩⟩⟩⟩⟩⟩⟩⟩⟩⟩⟩⟩⟩⟩⟩⟩⟩⟩⟩⟩⟩⟩⟩⟩⟩⟩⟩⟩⟩⟩⟩⟩⟩⟩⟩⟩⟩⟩⟩⟩⟩⟩⟩⟩⟩⟩⟩⟩⟩⟩⟩⟩⟩⟩⟩⟩⟩⟩⟩⟩⟩⟩⟩⟩⟩⟩⟩⟩⟩⟩⟩⟩⟩⟩⟩⟩⟩⟩⟩⟩
