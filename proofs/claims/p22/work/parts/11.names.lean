/-! NAMES: the kinds of objects, their fields by slots (printed by wip/engine/gen11.py) -/
def eT0 : u_T := fun k => match k with
  | 0 => ("TwoMouths$Law", "codes", "[I", true)
  | 1 => ("TwoMouths$Law", "length", "I", false)
  | 2 => ("TwoMouths$Law", "ends", "[I", true)
  | 3 => ("TwoMouths$Law", "hushes", "[Z", true)
  | 4 => ("TwoMouths$Law", "clauses", "I", false)
  | 5 => ("TwoMouths$Law", "asked", "I", false)
  | _ => ("TwoMouths$Law", "stack", "[J", true)
def eY0 : List FieldType := [.array .int, .int, .array .int, .array .boolean, .int, .int, .array .long]
def eT1 : u_T := fun k => match k with
  | 0 => ("TwoMouths$LawReader", "tape", "LTwoMouths$Tape;", true)
  | 1 => ("TwoMouths$LawReader", "draft", "LTwoMouths$Law;", false)
  | _ => ("TwoMouths$LawReader", "pieces", "I", false)
def eY1 : List FieldType := [.object "TwoMouths$Tape", .object "TwoMouths$Law", .int]
def eT2 : u_T := fun k => match k with
  | 0 => ("TwoMouths$Parts", "least", "[I", true)
  | 1 => ("TwoMouths$Parts", "size", "I", false)
  | _ => ("TwoMouths$Parts", "chosen", "[I", true)
def eY2 : List FieldType := [.array .int, .int, .array .int]
def eT3 : u_T := fun k => match k with
  | _ => ("TwoMouths$RowSet", "words", "[J", true)
def eY3 : List FieldType := [.array .long]
def eT4 : u_T := fun k => match k with
  | 0 => ("TwoMouths$Spread", "town", "LTwoMouths$Town;", false)
  | 1 => ("TwoMouths$Spread", "talks", "LTwoMouths$Talks;", false)
  | 2 => ("TwoMouths$Spread", "law", "LTwoMouths$Law;", false)
  | 3 => ("TwoMouths$Spread", "first", "I", false)
  | 4 => ("TwoMouths$Spread", "silent", "I", false)
  | 5 => ("TwoMouths$Spread", "left", "I", false)
  | 6 => ("TwoMouths$Spread", "parts", "LTwoMouths$Parts;", true)
  | 7 => ("TwoMouths$Spread", "now", "[LTwoMouths$RowSet;", true)
  | 8 => ("TwoMouths$Spread", "behind", "[LTwoMouths$RowSet;", true)
  | 9 => ("TwoMouths$Spread", "believesFrom", "[I", true)
  | 10 => ("TwoMouths$Spread", "hasFrom", "[I", true)
  | 11 => ("TwoMouths$Spread", "heard", "[I", true)
  | 12 => ("TwoMouths$Spread", "heardBehind", "[I", true)
  | 13 => ("TwoMouths$Spread", "order", "[I", true)
  | 14 => ("TwoMouths$Spread", "words", "[J", true)
  | 15 => ("TwoMouths$Spread", "told", "I", false)
  | 16 => ("TwoMouths$Spread", "changed", "I", false)
  | 17 => ("TwoMouths$Spread", "watcher", "I", false)
  | 18 => ("TwoMouths$Spread", "watched", "I", false)
  | _ => ("TwoMouths$Spread", "watchedFrom", "I", false)
def eY4 : List FieldType := [.object "TwoMouths$Town", .object "TwoMouths$Talks", .object "TwoMouths$Law", .int, .int, .int, .object "TwoMouths$Parts", .array (.object "TwoMouths$RowSet"), .array (.object "TwoMouths$RowSet"), .array .int, .array .int, .array .int, .array .int, .array .int, .array .long, .int, .int, .int, .int, .int]
def eT5 : u_T := fun k => match k with
  | 0 => ("TwoMouths$State", "town", "LTwoMouths$Town;", true)
  | 1 => ("TwoMouths$State", "entries", "LTwoMouths$Talks;", true)
  | 2 => ("TwoMouths$State", "first", "I", false)
  | 3 => ("TwoMouths$State", "silent", "I", false)
  | _ => ("TwoMouths$State", "x", "I", false)
def eY5 : List FieldType := [.object "TwoMouths$Town", .object "TwoMouths$Talks", .int, .int, .int]
def eT6 : u_T := fun k => match k with
  | 0 => ("TwoMouths$Talks", "who", "[I", true)
  | 1 => ("TwoMouths$Talks", "to", "[I", true)
  | 2 => ("TwoMouths$Talks", "hour", "[I", true)
  | _ => ("TwoMouths$Talks", "size", "I", false)
def eY6 : List FieldType := [.array .int, .array .int, .array .int, .int]
def eT7 : u_T := fun k => match k with
  | 0 => ("TwoMouths$Tape", "bytes", "[I", true)
  | 1 => ("TwoMouths$Tape", "length", "I", false)
  | 2 => ("TwoMouths$Tape", "place", "I", false)
  | 3 => ("TwoMouths$Tape", "start", "I", false)
  | 4 => ("TwoMouths$Tape", "number", "I", false)
  | _ => ("TwoMouths$Tape", "fault", "I", false)
def eY7 : List FieldType := [.array .int, .int, .int, .int, .int, .int]
def eT8 : u_T := fun k => match k with
  | 0 => ("TwoMouths$Town", "need", "[I", true)
  | 1 => ("TwoMouths$Town", "deaf", "[J", true)
  | 2 => ("TwoMouths$Town", "proud", "[I", true)
  | 3 => ("TwoMouths$Town", "talks", "LTwoMouths$Talks;", true)
  | 4 => ("TwoMouths$Town", "deafs", "I", false)
  | _ => ("TwoMouths$Town", "prouds", "I", false)
def eY8 : List FieldType := [.array .int, .array .long, .array .int, .object "TwoMouths$Talks", .int, .int]
def eT9 : u_T := fun k => match k with
  | 0 => ("TwoMouths$TownReader", "tape", "LTwoMouths$Tape;", true)
  | _ => ("TwoMouths$TownReader", "draft", "LTwoMouths$Town;", true)
def eY9 : List FieldType := [.object "TwoMouths$Tape", .object "TwoMouths$Town"]
def eT10 : u_T := fun k => match k with
  | 0 => ("TwoMouths$WayFinder", "spread", "LTwoMouths$Spread;", true)
  | 1 => ("TwoMouths$WayFinder", "path", "[I", true)
  | _ => ("TwoMouths$WayFinder", "goal", "I", false)
def eY10 : List FieldType := [.object "TwoMouths$Spread", .array .int, .int]
def eT11 : u_T := fun k => match k with
  | 0 => ("TwoMouths", "tape", "LTwoMouths$Tape;", true)
  | 1 => ("TwoMouths", "townReader", "LTwoMouths$TownReader;", true)
  | 2 => ("TwoMouths", "lawReader", "LTwoMouths$LawReader;", true)
  | 3 => ("TwoMouths", "state", "LTwoMouths$State;", true)
  | 4 => ("TwoMouths", "images", "[LTwoMouths$State;", true)
  | 5 => ("TwoMouths", "made", "[Z", true)
  | 6 => ("TwoMouths", "laws", "[LTwoMouths$Law;", true)
  | 7 => ("TwoMouths", "lawCount", "I", false)
  | 8 => ("TwoMouths", "spread", "LTwoMouths$Spread;", true)
  | 9 => ("TwoMouths", "tryout", "LTwoMouths$Talks;", true)
  | 10 => ("TwoMouths", "ahead", "[I", true)
  | 11 => ("TwoMouths", "parts", "LTwoMouths$Parts;", true)
  | _ => ("TwoMouths", "wayFinder", "LTwoMouths$WayFinder;", true)
def eY11 : List FieldType := [.object "TwoMouths$Tape", .object "TwoMouths$TownReader", .object "TwoMouths$LawReader", .object "TwoMouths$State", .array (.object "TwoMouths$State"), .array .boolean, .array (.object "TwoMouths$Law"), .int, .object "TwoMouths$Spread", .object "TwoMouths$Talks", .array .int, .object "TwoMouths$Parts", .object "TwoMouths$WayFinder"]
def eT12 : u_T := fun k => match k with
  | 0 => ("TwoMouthsModel", "tape", "[B", true)
  | 1 => ("TwoMouthsModel", "taped", "I", false)
  | 2 => ("TwoMouthsModel", "laws", "I", false)
  | 3 => ("TwoMouthsModel", "sign", "[I", true)
  | 4 => ("TwoMouthsModel", "length", "[I", true)
  | 5 => ("TwoMouthsModel", "clause", "[I", true)
  | 6 => ("TwoMouthsModel", "clauses", "[I", true)
  | 7 => ("TwoMouthsModel", "talksRead", "I", false)
  | 8 => ("TwoMouthsModel", "deafRead", "I", false)
  | 9 => ("TwoMouthsModel", "proudRead", "I", false)
  | 10 => ("TwoMouthsModel", "needRead", "[I", true)
  | 11 => ("TwoMouthsModel", "deaf", "[I", true)
  | 12 => ("TwoMouthsModel", "proud", "[I", true)
  | 13 => ("TwoMouthsModel", "talkRead", "[I", true)
  | 14 => ("TwoMouthsModel", "next", "I", false)
  | 15 => ("TwoMouthsModel", "wrong", "I", false)
  | 16 => ("TwoMouthsModel", "number", "I", false)
  | 17 => ("TwoMouthsModel", "text", "I", false)
  | 18 => ("TwoMouthsModel", "made", "I", false)
  | 19 => ("TwoMouthsModel", "deep", "I", false)
  | 20 => ("TwoMouthsModel", "lines", "I", false)
  | 21 => ("TwoMouthsModel", "open", "[I", true)
  | 22 => ("TwoMouthsModel", "opened", "I", false)
  | 23 => ("TwoMouthsModel", "stack", "[J", true)
  | 24 => ("TwoMouthsModel", "top", "I", false)
  | 25 => ("TwoMouthsModel", "word", "[J", true)
  | 26 => ("TwoMouthsModel", "said", "[I", true)
  | 27 => ("TwoMouthsModel", "who", "[I", true)
  | 28 => ("TwoMouthsModel", "whom", "[I", true)
  | 29 => ("TwoMouthsModel", "when", "[I", true)
  | 30 => ("TwoMouthsModel", "isOut", "[Z", true)
  | 31 => ("TwoMouthsModel", "many", "I", false)
  | 32 => ("TwoMouthsModel", "firstOnes", "I", false)
  | 33 => ("TwoMouthsModel", "silentOnes", "I", false)
  | 34 => ("TwoMouthsModel", "rowFrom", "[I", true)
  | 35 => ("TwoMouthsModel", "rowMany", "[I", true)
  | 36 => ("TwoMouthsModel", "shortest", "[I", true)
  | 37 => ("TwoMouthsModel", "hasFrom", "[I", true)
  | 38 => ("TwoMouthsModel", "trusts", "[I", true)
  | 39 => ("TwoMouthsModel", "heard", "[I", true)
  | 40 => ("TwoMouthsModel", "hearing", "[I", true)
  | 41 => ("TwoMouthsModel", "isMore", "[Z", true)
  | 42 => ("TwoMouthsModel", "isTold", "[Z", true)
  | 43 => ("TwoMouthsModel", "isIn", "[Z", true)
  | 44 => ("TwoMouthsModel", "part", "[I", true)
  | 45 => ("TwoMouthsModel", "packed", "[I", true)
  | 46 => ("TwoMouthsModel", "comesAt", "[I", true)
  | 47 => ("TwoMouthsModel", "wayTalk", "[I", true)
  | 48 => ("TwoMouthsModel", "oneFrom", "[I", true)
  | 49 => ("TwoMouthsModel", "images", "[I", true)
  | _ => ("TwoMouthsModel", "isMade", "[Z", true)
def eY12 : List FieldType := [.array .byte, .int, .int, .array .int, .array .int, .array .int, .array .int, .int, .int, .int, .array .int, .array .int, .array .int, .array .int, .int, .int, .int, .int, .int, .int, .int, .array .int, .int, .array .long, .int, .array .long, .array .int, .array .int, .array .int, .array .int, .array .boolean, .int, .int, .int, .array .int, .array .int, .array .int, .array .int, .array .int, .array .int, .array .int, .array .boolean, .array .boolean, .array .boolean, .array .int, .array .int, .array .int, .array .int, .array .int, .array .int, .array .boolean]
abbrev classes : List vw_C := [("TwoMouths$Law", eT0, 7), ("TwoMouths$LawReader", eT1, 3), ("TwoMouths$Parts", eT2, 3), ("TwoMouths$RowSet", eT3, 1), ("TwoMouths$Spread", eT4, 20), ("TwoMouths$State", eT5, 5), ("TwoMouths$Talks", eT6, 4), ("TwoMouths$Tape", eT7, 6), ("TwoMouths$Town", eT8, 6), ("TwoMouths$TownReader", eT9, 2), ("TwoMouths$WayFinder", eT10, 3), ("TwoMouths", eT11, 13), ("TwoMouthsModel", eT12, 51)]
def tyls : List (List FieldType) := [eY0, eY1, eY2, eY3, eY4, eY5, eY6, eY7, eY8, eY9, eY10, eY11, eY12]
/-- words that travel into every method; words on nests, which travel by themselves -/
def isNest : Cond → Bool
  | .fieldLinkNest .. => true
  | .methodLinkNest .. => true
  | _ => false
def gtbl : List Cond := lw_tbl.filter goodWord
def ntbl : List Cond := lw_tbl.filter isNest
theorem gtbl_in {w : Cond} (h : w ∈ lw_tbl) (hg : goodWord w = true) : w ∈ gtbl := List.mem_filter.mpr ⟨h, hg⟩
theorem gtbl_good : GoodIn gtbl gtbl := fun w h => ⟨h, good_of_word (List.mem_filter.mp h).2⟩
theorem gtbl_good2 : GoodIn lw_tbl gtbl := fun w h => ⟨(List.mem_filter.mp h).1, good_of_word (List.mem_filter.mp h).2⟩
theorem cw0 : ∀ w ∈ u_ws "TwoMouths$Law" eT0 7, w ∈ lw_tbl := by decide +kernel
theorem cg0 : (u_ws "TwoMouths$Law" eT0 7).all goodWord = true := by decide +kernel
theorem cy0 : ∀ k, k < 7 → parseFieldDescriptor (eT0 k).2.2.1 = some (eY0.getD k .int) := by decide +kernel
theorem cn0 : ∀ a, a < 7 → ∀ b, b < 7 → a ≠ b → (eT0 a).2.1 ≠ (eT0 b).2.1 := by decide +kernel
theorem cd0 : ∀ k, k < 7 → (eT0 k).1 = "TwoMouths$Law" := by decide +kernel
theorem cj0 : Cond.instantiable "TwoMouths$Law" 7 ∈ gtbl ∧ Cond.initialized "TwoMouths$Law" ∈ gtbl := ⟨gtbl_in (by decide +kernel) rfl, gtbl_in (by decide +kernel) rfl⟩
theorem cw1 : ∀ w ∈ u_ws "TwoMouths$LawReader" eT1 3, w ∈ lw_tbl := by decide +kernel
theorem cg1 : (u_ws "TwoMouths$LawReader" eT1 3).all goodWord = true := by decide +kernel
theorem cy1 : ∀ k, k < 3 → parseFieldDescriptor (eT1 k).2.2.1 = some (eY1.getD k .int) := by decide +kernel
theorem cn1 : ∀ a, a < 3 → ∀ b, b < 3 → a ≠ b → (eT1 a).2.1 ≠ (eT1 b).2.1 := by decide +kernel
theorem cd1 : ∀ k, k < 3 → (eT1 k).1 = "TwoMouths$LawReader" := by decide +kernel
theorem cj1 : Cond.instantiable "TwoMouths$LawReader" 3 ∈ gtbl ∧ Cond.initialized "TwoMouths$LawReader" ∈ gtbl := ⟨gtbl_in (by decide +kernel) rfl, gtbl_in (by decide +kernel) rfl⟩
theorem cw2 : ∀ w ∈ u_ws "TwoMouths$Parts" eT2 3, w ∈ lw_tbl := by decide +kernel
theorem cg2 : (u_ws "TwoMouths$Parts" eT2 3).all goodWord = true := by decide +kernel
theorem cy2 : ∀ k, k < 3 → parseFieldDescriptor (eT2 k).2.2.1 = some (eY2.getD k .int) := by decide +kernel
theorem cn2 : ∀ a, a < 3 → ∀ b, b < 3 → a ≠ b → (eT2 a).2.1 ≠ (eT2 b).2.1 := by decide +kernel
theorem cd2 : ∀ k, k < 3 → (eT2 k).1 = "TwoMouths$Parts" := by decide +kernel
theorem cj2 : Cond.instantiable "TwoMouths$Parts" 3 ∈ gtbl ∧ Cond.initialized "TwoMouths$Parts" ∈ gtbl := ⟨gtbl_in (by decide +kernel) rfl, gtbl_in (by decide +kernel) rfl⟩
theorem cw3 : ∀ w ∈ u_ws "TwoMouths$RowSet" eT3 1, w ∈ lw_tbl := by decide +kernel
theorem cg3 : (u_ws "TwoMouths$RowSet" eT3 1).all goodWord = true := by decide +kernel
theorem cy3 : ∀ k, k < 1 → parseFieldDescriptor (eT3 k).2.2.1 = some (eY3.getD k .int) := by decide +kernel
theorem cn3 : ∀ a, a < 1 → ∀ b, b < 1 → a ≠ b → (eT3 a).2.1 ≠ (eT3 b).2.1 := by decide +kernel
theorem cd3 : ∀ k, k < 1 → (eT3 k).1 = "TwoMouths$RowSet" := by decide +kernel
theorem cj3 : Cond.instantiable "TwoMouths$RowSet" 1 ∈ gtbl ∧ Cond.initialized "TwoMouths$RowSet" ∈ gtbl := ⟨gtbl_in (by decide +kernel) rfl, gtbl_in (by decide +kernel) rfl⟩
theorem cw4 : ∀ w ∈ u_ws "TwoMouths$Spread" eT4 20, w ∈ lw_tbl := by decide +kernel
theorem cg4 : (u_ws "TwoMouths$Spread" eT4 20).all goodWord = true := by decide +kernel
theorem cy4 : ∀ k, k < 20 → parseFieldDescriptor (eT4 k).2.2.1 = some (eY4.getD k .int) := by decide +kernel
theorem cn4 : ∀ a, a < 20 → ∀ b, b < 20 → a ≠ b → (eT4 a).2.1 ≠ (eT4 b).2.1 := by decide +kernel
theorem cd4 : ∀ k, k < 20 → (eT4 k).1 = "TwoMouths$Spread" := by decide +kernel
theorem cj4 : Cond.instantiable "TwoMouths$Spread" 20 ∈ gtbl ∧ Cond.initialized "TwoMouths$Spread" ∈ gtbl := ⟨gtbl_in (by decide +kernel) rfl, gtbl_in (by decide +kernel) rfl⟩
theorem cw5 : ∀ w ∈ u_ws "TwoMouths$State" eT5 5, w ∈ lw_tbl := by decide +kernel
theorem cg5 : (u_ws "TwoMouths$State" eT5 5).all goodWord = true := by decide +kernel
theorem cy5 : ∀ k, k < 5 → parseFieldDescriptor (eT5 k).2.2.1 = some (eY5.getD k .int) := by decide +kernel
theorem cn5 : ∀ a, a < 5 → ∀ b, b < 5 → a ≠ b → (eT5 a).2.1 ≠ (eT5 b).2.1 := by decide +kernel
theorem cd5 : ∀ k, k < 5 → (eT5 k).1 = "TwoMouths$State" := by decide +kernel
theorem cj5 : Cond.instantiable "TwoMouths$State" 5 ∈ gtbl ∧ Cond.initialized "TwoMouths$State" ∈ gtbl := ⟨gtbl_in (by decide +kernel) rfl, gtbl_in (by decide +kernel) rfl⟩
theorem cw6 : ∀ w ∈ u_ws "TwoMouths$Talks" eT6 4, w ∈ lw_tbl := by decide +kernel
theorem cg6 : (u_ws "TwoMouths$Talks" eT6 4).all goodWord = true := by decide +kernel
theorem cy6 : ∀ k, k < 4 → parseFieldDescriptor (eT6 k).2.2.1 = some (eY6.getD k .int) := by decide +kernel
theorem cn6 : ∀ a, a < 4 → ∀ b, b < 4 → a ≠ b → (eT6 a).2.1 ≠ (eT6 b).2.1 := by decide +kernel
theorem cd6 : ∀ k, k < 4 → (eT6 k).1 = "TwoMouths$Talks" := by decide +kernel
theorem cj6 : Cond.instantiable "TwoMouths$Talks" 4 ∈ gtbl ∧ Cond.initialized "TwoMouths$Talks" ∈ gtbl := ⟨gtbl_in (by decide +kernel) rfl, gtbl_in (by decide +kernel) rfl⟩
theorem cw7 : ∀ w ∈ u_ws "TwoMouths$Tape" eT7 6, w ∈ lw_tbl := by decide +kernel
theorem cg7 : (u_ws "TwoMouths$Tape" eT7 6).all goodWord = true := by decide +kernel
theorem cy7 : ∀ k, k < 6 → parseFieldDescriptor (eT7 k).2.2.1 = some (eY7.getD k .int) := by decide +kernel
theorem cn7 : ∀ a, a < 6 → ∀ b, b < 6 → a ≠ b → (eT7 a).2.1 ≠ (eT7 b).2.1 := by decide +kernel
theorem cd7 : ∀ k, k < 6 → (eT7 k).1 = "TwoMouths$Tape" := by decide +kernel
theorem cj7 : Cond.instantiable "TwoMouths$Tape" 6 ∈ gtbl ∧ Cond.initialized "TwoMouths$Tape" ∈ gtbl := ⟨gtbl_in (by decide +kernel) rfl, gtbl_in (by decide +kernel) rfl⟩
theorem cw8 : ∀ w ∈ u_ws "TwoMouths$Town" eT8 6, w ∈ lw_tbl := by decide +kernel
theorem cg8 : (u_ws "TwoMouths$Town" eT8 6).all goodWord = true := by decide +kernel
theorem cy8 : ∀ k, k < 6 → parseFieldDescriptor (eT8 k).2.2.1 = some (eY8.getD k .int) := by decide +kernel
theorem cn8 : ∀ a, a < 6 → ∀ b, b < 6 → a ≠ b → (eT8 a).2.1 ≠ (eT8 b).2.1 := by decide +kernel
theorem cd8 : ∀ k, k < 6 → (eT8 k).1 = "TwoMouths$Town" := by decide +kernel
theorem cj8 : Cond.instantiable "TwoMouths$Town" 6 ∈ gtbl ∧ Cond.initialized "TwoMouths$Town" ∈ gtbl := ⟨gtbl_in (by decide +kernel) rfl, gtbl_in (by decide +kernel) rfl⟩
theorem cw9 : ∀ w ∈ u_ws "TwoMouths$TownReader" eT9 2, w ∈ lw_tbl := by decide +kernel
theorem cg9 : (u_ws "TwoMouths$TownReader" eT9 2).all goodWord = true := by decide +kernel
theorem cy9 : ∀ k, k < 2 → parseFieldDescriptor (eT9 k).2.2.1 = some (eY9.getD k .int) := by decide +kernel
theorem cn9 : ∀ a, a < 2 → ∀ b, b < 2 → a ≠ b → (eT9 a).2.1 ≠ (eT9 b).2.1 := by decide +kernel
theorem cd9 : ∀ k, k < 2 → (eT9 k).1 = "TwoMouths$TownReader" := by decide +kernel
theorem cj9 : Cond.instantiable "TwoMouths$TownReader" 2 ∈ gtbl ∧ Cond.initialized "TwoMouths$TownReader" ∈ gtbl := ⟨gtbl_in (by decide +kernel) rfl, gtbl_in (by decide +kernel) rfl⟩
theorem cw10 : ∀ w ∈ u_ws "TwoMouths$WayFinder" eT10 3, w ∈ lw_tbl := by decide +kernel
theorem cg10 : (u_ws "TwoMouths$WayFinder" eT10 3).all goodWord = true := by decide +kernel
theorem cy10 : ∀ k, k < 3 → parseFieldDescriptor (eT10 k).2.2.1 = some (eY10.getD k .int) := by decide +kernel
theorem cn10 : ∀ a, a < 3 → ∀ b, b < 3 → a ≠ b → (eT10 a).2.1 ≠ (eT10 b).2.1 := by decide +kernel
theorem cd10 : ∀ k, k < 3 → (eT10 k).1 = "TwoMouths$WayFinder" := by decide +kernel
theorem cj10 : Cond.instantiable "TwoMouths$WayFinder" 3 ∈ gtbl ∧ Cond.initialized "TwoMouths$WayFinder" ∈ gtbl := ⟨gtbl_in (by decide +kernel) rfl, gtbl_in (by decide +kernel) rfl⟩
theorem cw11 : ∀ w ∈ u_ws "TwoMouths" eT11 13, w ∈ lw_tbl := by decide +kernel
theorem cg11 : (u_ws "TwoMouths" eT11 13).all goodWord = true := by decide +kernel
theorem cy11 : ∀ k, k < 13 → parseFieldDescriptor (eT11 k).2.2.1 = some (eY11.getD k .int) := by decide +kernel
theorem cn11 : ∀ a, a < 13 → ∀ b, b < 13 → a ≠ b → (eT11 a).2.1 ≠ (eT11 b).2.1 := by decide +kernel
theorem cd11 : ∀ k, k < 13 → (eT11 k).1 = "TwoMouths" := by decide +kernel
theorem cj11 : Cond.instantiable "TwoMouths" 13 ∈ gtbl ∧ Cond.initialized "TwoMouths" ∈ gtbl := ⟨gtbl_in (by decide +kernel) rfl, gtbl_in (by decide +kernel) rfl⟩
theorem cw12 : ∀ w ∈ u_ws "TwoMouthsModel" eT12 51, w ∈ lw_tbl := by decide +kernel
theorem cg12 : (u_ws "TwoMouthsModel" eT12 51).all goodWord = true := by decide +kernel
theorem cy12 : ∀ k, k < 51 → parseFieldDescriptor (eT12 k).2.2.1 = some (eY12.getD k .int) := by decide +kernel
theorem cn12 : ∀ a, a < 51 → ∀ b, b < 51 → a ≠ b → (eT12 a).2.1 ≠ (eT12 b).2.1 := by decide +kernel
theorem cd12 : ∀ k, k < 51 → (eT12 k).1 = "TwoMouthsModel" := by decide +kernel
theorem cj12 : Cond.instantiable "TwoMouthsModel" 51 ∈ gtbl ∧ Cond.initialized "TwoMouthsModel" ∈ gtbl := ⟨gtbl_in (by decide +kernel) rfl, gtbl_in (by decide +kernel) rfl⟩
theorem clOK : ∀ (ci : Nat) (C : String) (T : u_T) (N : Nat), classes[ci]? = some (C, T, N) → (∀ w ∈ u_ws C T N, w ∈ gtbl) ∧ (∃ ty : Nat → FieldType, ∀ k, k < N → parseFieldDescriptor (T k).2.2.1 = some (ty k)) ∧ (∀ a, a < N → ∀ b, b < N → a ≠ b → (T a).2.1 ≠ (T b).2.1) ∧ Cond.instantiable C N ∈ gtbl ∧ Cond.initialized C ∈ gtbl ∧ ∀ k, k < N → (T k).1 = C := by
  intro ci C T N h
  match ci, h with
  | 0, h => cases h; exact ⟨fun w hw => gtbl_in (cw0 w hw) (List.all_eq_true.mp cg0 w hw), ⟨_, cy0⟩, cn0, cj0.1, cj0.2, cd0⟩
  | 1, h => cases h; exact ⟨fun w hw => gtbl_in (cw1 w hw) (List.all_eq_true.mp cg1 w hw), ⟨_, cy1⟩, cn1, cj1.1, cj1.2, cd1⟩
  | 2, h => cases h; exact ⟨fun w hw => gtbl_in (cw2 w hw) (List.all_eq_true.mp cg2 w hw), ⟨_, cy2⟩, cn2, cj2.1, cj2.2, cd2⟩
  | 3, h => cases h; exact ⟨fun w hw => gtbl_in (cw3 w hw) (List.all_eq_true.mp cg3 w hw), ⟨_, cy3⟩, cn3, cj3.1, cj3.2, cd3⟩
  | 4, h => cases h; exact ⟨fun w hw => gtbl_in (cw4 w hw) (List.all_eq_true.mp cg4 w hw), ⟨_, cy4⟩, cn4, cj4.1, cj4.2, cd4⟩
  | 5, h => cases h; exact ⟨fun w hw => gtbl_in (cw5 w hw) (List.all_eq_true.mp cg5 w hw), ⟨_, cy5⟩, cn5, cj5.1, cj5.2, cd5⟩
  | 6, h => cases h; exact ⟨fun w hw => gtbl_in (cw6 w hw) (List.all_eq_true.mp cg6 w hw), ⟨_, cy6⟩, cn6, cj6.1, cj6.2, cd6⟩
  | 7, h => cases h; exact ⟨fun w hw => gtbl_in (cw7 w hw) (List.all_eq_true.mp cg7 w hw), ⟨_, cy7⟩, cn7, cj7.1, cj7.2, cd7⟩
  | 8, h => cases h; exact ⟨fun w hw => gtbl_in (cw8 w hw) (List.all_eq_true.mp cg8 w hw), ⟨_, cy8⟩, cn8, cj8.1, cj8.2, cd8⟩
  | 9, h => cases h; exact ⟨fun w hw => gtbl_in (cw9 w hw) (List.all_eq_true.mp cg9 w hw), ⟨_, cy9⟩, cn9, cj9.1, cj9.2, cd9⟩
  | 10, h => cases h; exact ⟨fun w hw => gtbl_in (cw10 w hw) (List.all_eq_true.mp cg10 w hw), ⟨_, cy10⟩, cn10, cj10.1, cj10.2, cd10⟩
  | 11, h => cases h; exact ⟨fun w hw => gtbl_in (cw11 w hw) (List.all_eq_true.mp cg11 w hw), ⟨_, cy11⟩, cn11, cj11.1, cj11.2, cd11⟩
  | 12, h => cases h; exact ⟨fun w hw => gtbl_in (cw12 w hw) (List.all_eq_true.mp cg12 w hw), ⟨_, cy12⟩, cn12, cj12.1, cj12.2, cd12⟩
  | n + 13, h => simp [classes] at h
