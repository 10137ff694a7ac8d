/-! names, class tables, words: written by wip/whole/names.py out of the claim's own tables -/
def qT : List Cond := lw_tbl.filter goodWord
theorem qT_1 {w : Cond} {i : Nat} (h : tables_1_1[i]? = some w) (g : goodWord w = true) : w ∈ qT := List.mem_filter.mpr ⟨List.mem_append_right _ (List.mem_append_left _ (List.mem_of_getElem? h)), g⟩
theorem qT_2 {w : Cond} {i : Nat} (h : tables_1_2[i]? = some w) (g : goodWord w = true) : w ∈ qT := List.mem_filter.mpr ⟨List.mem_append_right _ (List.mem_append_right _ (List.mem_append_left _ (List.mem_of_getElem? h))), g⟩
theorem qT_3 {w : Cond} {i : Nat} (h : tables_1_3[i]? = some w) (g : goodWord w = true) : w ∈ qT := List.mem_filter.mpr ⟨List.mem_append_right _ (List.mem_append_right _ (List.mem_append_right _ (List.mem_append_left _ (List.mem_of_getElem? h)))), g⟩
theorem qT_4 {w : Cond} {i : Nat} (h : tables_1_4[i]? = some w) (g : goodWord w = true) : w ∈ qT := List.mem_filter.mpr ⟨List.mem_append_right _ (List.mem_append_right _ (List.mem_append_right _ (List.mem_append_right _ (List.mem_append_left _ (List.mem_of_getElem? h))))), g⟩
theorem qT_5 {w : Cond} {i : Nat} (h : tables_1_5[i]? = some w) (g : goodWord w = true) : w ∈ qT := List.mem_filter.mpr ⟨List.mem_append_right _ (List.mem_append_right _ (List.mem_append_right _ (List.mem_append_right _ (List.mem_append_right _ (List.mem_append_left _ (List.mem_of_getElem? h)))))), g⟩
theorem qT_6 {w : Cond} {i : Nat} (h : tables_1_6[i]? = some w) (g : goodWord w = true) : w ∈ qT := List.mem_filter.mpr ⟨List.mem_append_right _ (List.mem_append_right _ (List.mem_append_right _ (List.mem_append_right _ (List.mem_append_right _ (List.mem_append_right _ (List.mem_append_left _ (List.mem_of_getElem? h))))))), g⟩
theorem qT_7 {w : Cond} {i : Nat} (h : tables_1_7[i]? = some w) (g : goodWord w = true) : w ∈ qT := List.mem_filter.mpr ⟨List.mem_append_right _ (List.mem_append_right _ (List.mem_append_right _ (List.mem_append_right _ (List.mem_append_right _ (List.mem_append_right _ (List.mem_append_right _ (List.mem_append_left _ (List.mem_of_getElem? h)))))))), g⟩
theorem qT_8 {w : Cond} {i : Nat} (h : tables_1_8[i]? = some w) (g : goodWord w = true) : w ∈ qT := List.mem_filter.mpr ⟨List.mem_append_right _ (List.mem_append_right _ (List.mem_append_right _ (List.mem_append_right _ (List.mem_append_right _ (List.mem_append_right _ (List.mem_append_right _ (List.mem_append_right _ (List.mem_of_getElem? h)))))))), g⟩
theorem qT_s {w : Cond} {i : Nat} (h : (k2_sels lw_privs)[i]? = some w) (g : goodWord w = true) : w ∈ qT := List.mem_filter.mpr ⟨List.mem_append_left _ (List.mem_of_getElem? h), g⟩
theorem qT_good : ∀ w ∈ qT, (w.onTables && w.keeps) = true ∨ ∃ ty, w = .arrayClass ty := fun w h => good_of_word (List.mem_filter.mp h).2
def qR0 : String := "CoatHangers$Law"
def qTb0 : u_T := fun k => match k with
  | 0 => ("CoatHangers$Law", "kinds", "[I", true)
  | 1 => ("CoatHangers$Law", "values", "[I", true)
  | _ => ("CoatHangers$Law", "size", "I", false)
def qTy0 : Nat → FieldType := fun k => match k with
  | 0 => (.array .int)
  | 1 => (.array .int)
  | _ => .int
def qR1 : String := "CoatHangers$Night"
def qTb1 : u_T := fun k => match k with
  | 0 => ("CoatHangers$Night", "text", "LCoatHangers$Text;", true)
  | 1 => ("CoatHangers$Night", "reckoner", "LCoatHangers$Reckoner;", true)
  | _ => ("CoatHangers$Night", "slips", "[I", true)
def qTy1 : Nat → FieldType := fun k => match k with
  | 0 => (.object "CoatHangers$Text")
  | 1 => (.object "CoatHangers$Reckoner")
  | _ => (.array .int)
def qR2 : String := "CoatHangers$Past"
def qTb2 : u_T := fun k => match k with
  | 0 => ("CoatHangers$Past", "states", "[LCoatHangers$State;", true)
  | 1 => ("CoatHangers$Past", "next", "I", false)
  | _ => ("CoatHangers$Past", "size", "I", false)
def qTy2 : Nat → FieldType := fun k => match k with
  | 0 => (.array (.object "CoatHangers$State"))
  | 1 => .int
  | _ => .int
def qR3 : String := "CoatHangers$Plan"
def qTb3 : u_T := fun k => match k with
  | 0 => ("CoatHangers$Plan", "text", "LCoatHangers$Text;", true)
  | 1 => ("CoatHangers$Plan", "reckoner", "LCoatHangers$Reckoner;", true)
  | 2 => ("CoatHangers$Plan", "costs", "[[I", true)
  | 3 => ("CoatHangers$Plan", "takes", "[I", true)
  | _ => ("CoatHangers$Plan", "best", "[[I", true)
def qTy3 : Nat → FieldType := fun k => match k with
  | 0 => (.object "CoatHangers$Text")
  | 1 => (.object "CoatHangers$Reckoner")
  | 2 => (.array (.array .int))
  | 3 => (.array .int)
  | _ => (.array (.array .int))
def qR4 : String := "CoatHangers$Reader"
def qTb4 : u_T := fun k => match k with
  | 0 => ("CoatHangers$Reader", "tape", "LCoatHangers$Tape;", true)
  | 1 => ("CoatHangers$Reader", "at", "I", false)
  | 2 => ("CoatHangers$Reader", "kind", "I", false)
  | 3 => ("CoatHangers$Reader", "value", "J", false)
  | 4 => ("CoatHangers$Reader", "number", "I", false)
  | 5 => ("CoatHangers$Reader", "draft", "LCoatHangers$Text;", true)
  | 6 => ("CoatHangers$Reader", "hangerNames", "[J", true)
  | 7 => ("CoatHangers$Reader", "personNames", "[J", true)
  | 8 => ("CoatHangers$Reader", "hangs", "I", false)
  | 9 => ("CoatHangers$Reader", "waiters", "LCoatHangers$Waiters;", true)
  | 10 => ("CoatHangers$Reader", "senseFault", "I", false)
  | 11 => ("CoatHangers$Reader", "sensePlace", "I", false)
  | 12 => ("CoatHangers$Reader", "fault", "I", false)
  | _ => ("CoatHangers$Reader", "faultPlace", "I", false)
def qTy4 : Nat → FieldType := fun k => match k with
  | 0 => (.object "CoatHangers$Tape")
  | 1 => .int
  | 2 => .int
  | 3 => .long
  | 4 => .int
  | 5 => (.object "CoatHangers$Text")
  | 6 => (.array .long)
  | 7 => (.array .long)
  | 8 => .int
  | 9 => (.object "CoatHangers$Waiters")
  | 10 => .int
  | 11 => .int
  | 12 => .int
  | _ => .int
def qR5 : String := "CoatHangers$Reckoner"
def qTb5 : u_T := fun k => match k with
  | 0 => ("CoatHangers$Reckoner", "text", "LCoatHangers$Text;", true)
  | 1 => ("CoatHangers$Reckoner", "vars", "[I", true)
  | _ => ("CoatHangers$Reckoner", "pile", "[I", true)
def qTy5 : Nat → FieldType := fun k => match k with
  | 0 => (.object "CoatHangers$Text")
  | 1 => (.array .int)
  | _ => (.array .int)
def qR6 : String := "CoatHangers$State"
def qTb6 : u_T := fun k => match k with
  | 0 => ("CoatHangers$State", "text", "LCoatHangers$Text;", true)
  | 1 => ("CoatHangers$State", "night", "I", false)
  | 2 => ("CoatHangers$State", "wide", "[I", true)
  | 3 => ("CoatHangers$State", "on", "[I", true)
  | 4 => ("CoatHangers$State", "self", "[I", true)
  | 5 => ("CoatHangers$State", "crooked", "[I", true)
  | _ => ("CoatHangers$State", "bent", "[I", true)
def qTy6 : Nat → FieldType := fun k => match k with
  | 0 => (.object "CoatHangers$Text")
  | 1 => .int
  | 2 => (.array .int)
  | 3 => (.array .int)
  | 4 => (.array .int)
  | 5 => (.array .int)
  | _ => (.array .int)
def qR7 : String := "CoatHangers$Tape"
def qTb7 : u_T := fun k => match k with
  | 0 => ("CoatHangers$Tape", "bytes", "[B", true)
  | 1 => ("CoatHangers$Tape", "size", "I", false)
  | 2 => ("CoatHangers$Tape", "words", "[J", true)
  | 3 => ("CoatHangers$Tape", "next", "I", false)
  | 4 => ("CoatHangers$Tape", "kinds", "[I", true)
  | 5 => ("CoatHangers$Tape", "places", "[I", true)
  | _ => ("CoatHangers$Tape", "values", "[J", true)
def qTy7 : Nat → FieldType := fun k => match k with
  | 0 => (.array .byte)
  | 1 => .int
  | 2 => (.array .long)
  | 3 => .int
  | 4 => (.array .int)
  | 5 => (.array .int)
  | _ => (.array .long)
def qR8 : String := "CoatHangers$Text"
def qTb8 : u_T := fun k => match k with
  | 0 => ("CoatHangers$Text", "hangers", "I", false)
  | 1 => ("CoatHangers$Text", "nail", "[I", true)
  | 2 => ("CoatHangers$Text", "breadth", "[I", true)
  | 3 => ("CoatHangers$Text", "people", "I", false)
  | 4 => ("CoatHangers$Text", "shoulders", "[I", true)
  | 5 => ("CoatHangers$Text", "rank", "[I", true)
  | 6 => ("CoatHangers$Text", "firstOn", "[I", true)
  | 7 => ("CoatHangers$Text", "crooks", "LCoatHangers$Law;", true)
  | 8 => ("CoatHangers$Text", "bends", "LCoatHangers$Law;", true)
  | 9 => ("CoatHangers$Text", "slips", "LCoatHangers$Law;", true)
  | 10 => ("CoatHangers$Text", "costs", "LCoatHangers$Law;", true)
  | 11 => ("CoatHangers$Text", "moth", "I", false)
  | _ => ("CoatHangers$Text", "seed", "I", false)
def qTy8 : Nat → FieldType := fun k => match k with
  | 0 => .int
  | 1 => (.array .int)
  | 2 => (.array .int)
  | 3 => .int
  | 4 => (.array .int)
  | 5 => (.array .int)
  | 6 => (.array .int)
  | 7 => (.object "CoatHangers$Law")
  | 8 => (.object "CoatHangers$Law")
  | 9 => (.object "CoatHangers$Law")
  | 10 => (.object "CoatHangers$Law")
  | 11 => .int
  | _ => .int
def qR9 : String := "CoatHangers$Told"
def qTb9 : u_T := fun k => match k with
  | 0 => ("CoatHangers$Told", "text", "LCoatHangers$Text;", true)
  | 1 => ("CoatHangers$Told", "night", "LCoatHangers$Night;", true)
  | 2 => ("CoatHangers$Told", "morning", "LCoatHangers$State;", true)
  | 3 => ("CoatHangers$Told", "people", "[I", true)
  | 4 => ("CoatHangers$Told", "selves", "[I", true)
  | 5 => ("CoatHangers$Told", "so", "[Z", true)
  | 6 => ("CoatHangers$Told", "tally", "[[I", true)
  | _ => ("CoatHangers$Told", "size", "I", false)
def qTy9 : Nat → FieldType := fun k => match k with
  | 0 => (.object "CoatHangers$Text")
  | 1 => (.object "CoatHangers$Night")
  | 2 => (.object "CoatHangers$State")
  | 3 => (.array .int)
  | 4 => (.array .int)
  | 5 => (.array .boolean)
  | 6 => (.array (.array .int))
  | _ => .int
def qR10 : String := "CoatHangers$Waiters"
def qTb10 : u_T := fun k => match k with
  | 0 => ("CoatHangers$Waiters", "signs", "[I", true)
  | 1 => ("CoatHangers$Waiters", "size", "I", false)
  | _ => ("CoatHangers$Waiters", "deep", "I", false)
def qTy10 : Nat → FieldType := fun k => match k with
  | 0 => (.array .int)
  | 1 => .int
  | _ => .int
def qR11 : String := "CoatHangers"
def qTb11 : u_T := fun k => match k with
  | 0 => ("CoatHangers", "tape", "LCoatHangers$Tape;", true)
  | 1 => ("CoatHangers", "text", "LCoatHangers$Text;", true)
  | 2 => ("CoatHangers", "reader", "LCoatHangers$Reader;", true)
  | 3 => ("CoatHangers", "state", "LCoatHangers$State;", true)
  | 4 => ("CoatHangers", "dream", "LCoatHangers$State;", true)
  | 5 => ("CoatHangers", "reckoner", "LCoatHangers$Reckoner;", true)
  | 6 => ("CoatHangers", "night", "LCoatHangers$Night;", true)
  | 7 => ("CoatHangers", "plan", "LCoatHangers$Plan;", true)
  | 8 => ("CoatHangers", "told", "LCoatHangers$Told;", true)
  | 9 => ("CoatHangers", "past", "LCoatHangers$Past;", true)
  | 10 => ("CoatHangers", "slots", "[LCoatHangers$State;", true)
  | _ => ("CoatHangers", "heldSlots", "I", false)
def qTy11 : Nat → FieldType := fun k => match k with
  | 0 => (.object "CoatHangers$Tape")
  | 1 => (.object "CoatHangers$Text")
  | 2 => (.object "CoatHangers$Reader")
  | 3 => (.object "CoatHangers$State")
  | 4 => (.object "CoatHangers$State")
  | 5 => (.object "CoatHangers$Reckoner")
  | 6 => (.object "CoatHangers$Night")
  | 7 => (.object "CoatHangers$Plan")
  | 8 => (.object "CoatHangers$Told")
  | 9 => (.object "CoatHangers$Past")
  | 10 => (.array (.object "CoatHangers$State"))
  | _ => .int
def qR12 : String := "CoatHangersModel"
def qTb12 : u_T := fun k => match k with
  | 0 => ("CoatHangersModel", "thrown", "I", false)
  | 1 => ("CoatHangersModel", "tape", "[B", true)
  | 2 => ("CoatHangersModel", "taped", "I", false)
  | 3 => ("CoatHangersModel", "text", "[B", true)
  | 4 => ("CoatHangersModel", "size", "I", false)
  | 5 => ("CoatHangersModel", "tKind", "[I", true)
  | 6 => ("CoatHangersModel", "tPlace", "[I", true)
  | 7 => ("CoatHangersModel", "tValue", "[I", true)
  | 8 => ("CoatHangersModel", "tName", "[J", true)
  | 9 => ("CoatHangersModel", "keys", "[J", true)
  | 10 => ("CoatHangersModel", "tokens", "I", false)
  | 11 => ("CoatHangersModel", "t", "I", false)
  | 12 => ("CoatHangersModel", "open", "I", false)
  | 13 => ("CoatHangersModel", "fault", "I", false)
  | 14 => ("CoatHangersModel", "faultPlace", "I", false)
  | 15 => ("CoatHangersModel", "worst", "I", false)
  | 16 => ("CoatHangersModel", "worstPlace", "I", false)
  | 17 => ("CoatHangersModel", "place", "I", false)
  | 18 => ("CoatHangersModel", "live", "I", false)
  | 19 => ("CoatHangersModel", "side", "I", false)
  | 20 => ("CoatHangersModel", "names", "I", false)
  | 21 => ("CoatHangersModel", "nameOf", "[J", true)
  | 22 => ("CoatHangersModel", "nameAt", "[I", true)
  | 23 => ("CoatHangersModel", "hangers", "[I", true)
  | 24 => ("CoatHangersModel", "nailOf", "[I", true)
  | 25 => ("CoatHangersModel", "wideOf", "[I", true)
  | 26 => ("CoatHangersModel", "people", "[I", true)
  | 27 => ("CoatHangersModel", "wideTold", "[I", true)
  | 28 => ("CoatHangersModel", "rankOf", "[I", true)
  | 29 => ("CoatHangersModel", "hangsTold", "[I", true)
  | 30 => ("CoatHangersModel", "hung", "[I", true)
  | 31 => ("CoatHangersModel", "moth", "[I", true)
  | 32 => ("CoatHangersModel", "seed", "[I", true)
  | 33 => ("CoatHangersModel", "lawFirst", "[I", true)
  | 34 => ("CoatHangersModel", "lawLast", "[I", true)
  | 35 => ("CoatHangersModel", "branches", "I", false)
  | 36 => ("CoatHangersModel", "hasTest", "[Z", true)
  | 37 => ("CoatHangersModel", "testFrom", "[I", true)
  | 38 => ("CoatHangersModel", "testMid", "[I", true)
  | 39 => ("CoatHangersModel", "testTo", "[I", true)
  | 40 => ("CoatHangersModel", "termTo", "[I", true)
  | 41 => ("CoatHangersModel", "codes", "I", false)
  | 42 => ("CoatHangersModel", "code", "[I", true)
  | 43 => ("CoatHangersModel", "codeInt", "[I", true)
  | 44 => ("CoatHangersModel", "waits", "[I", true)
  | 45 => ("CoatHangersModel", "waiting", "I", false)
  | 46 => ("CoatHangersModel", "variables", "[I", true)
  | 47 => ("CoatHangersModel", "pile", "[I", true)
  | 48 => ("CoatHangersModel", "isBroken", "Z", false)
  | 49 => ("CoatHangersModel", "now", "[I", true)
  | 50 => ("CoatHangersModel", "row", "[I", true)
  | 51 => ("CoatHangersModel", "lots", "I", false)
  | 52 => ("CoatHangersModel", "isStill", "Z", false)
  | 53 => ("CoatHangersModel", "crooksNow", "[I", true)
  | 54 => ("CoatHangersModel", "bendsNow", "[I", true)
  | 55 => ("CoatHangersModel", "slipsNow", "[Z", true)
  | 56 => ("CoatHangersModel", "selfThen", "[I", true)
  | 57 => ("CoatHangersModel", "undos", "I", false)
  | 58 => ("CoatHangersModel", "history", "[I", true)
  | 59 => ("CoatHangersModel", "leastFrom", "[I", true)
  | 60 => ("CoatHangersModel", "tableOf", "[I", true)
  | 61 => ("CoatHangersModel", "byNails", "Z", false)
  | 62 => ("CoatHangersModel", "waysFrom", "[I", true)
  | 63 => ("CoatHangersModel", "tolds", "I", false)
  | 64 => ("CoatHangersModel", "toldWho", "[I", true)
  | 65 => ("CoatHangersModel", "toldSelf", "[I", true)
  | 66 => ("CoatHangersModel", "toldSo", "[Z", true)
  | 67 => ("CoatHangersModel", "isPair", "[Z", true)
  | 68 => ("CoatHangersModel", "selfOf", "[I", true)
  | 69 => ("CoatHangersModel", "isHeld", "[Z", true)
  | _ => ("CoatHangersModel", "heldRows", "[I", true)
def qTy12 : Nat → FieldType := fun k => match k with
  | 0 => .int
  | 1 => (.array .byte)
  | 2 => .int
  | 3 => (.array .byte)
  | 4 => .int
  | 5 => (.array .int)
  | 6 => (.array .int)
  | 7 => (.array .int)
  | 8 => (.array .long)
  | 9 => (.array .long)
  | 10 => .int
  | 11 => .int
  | 12 => .int
  | 13 => .int
  | 14 => .int
  | 15 => .int
  | 16 => .int
  | 17 => .int
  | 18 => .int
  | 19 => .int
  | 20 => .int
  | 21 => (.array .long)
  | 22 => (.array .int)
  | 23 => (.array .int)
  | 24 => (.array .int)
  | 25 => (.array .int)
  | 26 => (.array .int)
  | 27 => (.array .int)
  | 28 => (.array .int)
  | 29 => (.array .int)
  | 30 => (.array .int)
  | 31 => (.array .int)
  | 32 => (.array .int)
  | 33 => (.array .int)
  | 34 => (.array .int)
  | 35 => .int
  | 36 => (.array .boolean)
  | 37 => (.array .int)
  | 38 => (.array .int)
  | 39 => (.array .int)
  | 40 => (.array .int)
  | 41 => .int
  | 42 => (.array .int)
  | 43 => (.array .int)
  | 44 => (.array .int)
  | 45 => .int
  | 46 => (.array .int)
  | 47 => (.array .int)
  | 48 => .boolean
  | 49 => (.array .int)
  | 50 => (.array .int)
  | 51 => .int
  | 52 => .boolean
  | 53 => (.array .int)
  | 54 => (.array .int)
  | 55 => (.array .boolean)
  | 56 => (.array .int)
  | 57 => .int
  | 58 => (.array .int)
  | 59 => (.array .int)
  | 60 => (.array .int)
  | 61 => .boolean
  | 62 => (.array .int)
  | 63 => .int
  | 64 => (.array .int)
  | 65 => (.array .int)
  | 66 => (.array .boolean)
  | 67 => (.array .boolean)
  | 68 => (.array .int)
  | 69 => (.array .boolean)
  | _ => (.array .int)
abbrev qCl : List vw_C := [(qR0, qTb0, 3), (qR1, qTb1, 3), (qR2, qTb2, 3), (qR3, qTb3, 5), (qR4, qTb4, 14), (qR5, qTb5, 3), (qR6, qTb6, 7), (qR7, qTb7, 7), (qR8, qTb8, 13), (qR9, qTb9, 8), (qR10, qTb10, 3), (qR11, qTb11, 12), (qR12, qTb12, 71)]
/-- the kind of each field: 0 an int, 1 a long, 2 a reference -/
def qFK : List (List Nat) := [[2, 2, 0], [2, 2, 2], [2, 0, 0], [2, 2, 2, 2, 2], [2, 0, 0, 1, 0, 2, 2, 2, 0, 2, 0, 0, 0, 0], [2, 2, 2], [2, 0, 2, 2, 2, 2, 2], [2, 0, 2, 0, 2, 2, 2], [0, 2, 2, 0, 2, 2, 2, 2, 2, 2, 2, 0, 0], [2, 2, 2, 2, 2, 2, 2, 0], [2, 0, 0], [2, 2, 2, 2, 2, 2, 2, 2, 2, 2, 2, 0], [0, 2, 0, 2, 0, 2, 2, 2, 2, 2, 0, 0, 0, 0, 0, 0, 0, 0, 0, 0, 0, 2, 2, 2, 2, 2, 2, 2, 2, 2, 2, 2, 2, 2, 2, 0, 2, 2, 2, 2, 2, 0, 2, 2, 2, 0, 2, 2, 0, 2, 2, 0, 0, 2, 2, 2, 2, 0, 2, 2, 2, 0, 2, 0, 2, 2, 2, 2, 2, 2, 2]]
def qfk (ci k : Nat) : Nat := (qFK.getD ci []).getD k 0
def qfn (ci : Nat) : Nat := (qFK.getD ci []).length
def qkOf : FieldType → Nat
  | .long => 1
  | .object _ => 2
  | .array _ => 2
  | _ => 0
def qCls (ci : Nat) (C : String) (T : u_T) (N : Nat) (ty : Nat → FieldType) : Prop := qCl[ci]? = some (C, T, N) ∧ (∀ w ∈ u_ws C T N, w ∈ qT) ∧ (∀ k, k < N → parseFieldDescriptor (T k).2.2.1 = some (ty k)) ∧ (∀ a, a < N → ∀ b, b < N → a ≠ b → (T a).2.1 ≠ (T b).2.1) ∧ qfn ci = N ∧ ∀ k, k < N → qfk ci k = qkOf (ty k)
theorem qlay0_0 : u_lay qR0 qTb0 0 ∈ qT := qT_1 (i := 137) (by decide +kernel) rfl
theorem qlay0_1 : u_lay qR0 qTb0 1 ∈ qT := qT_1 (i := 139) (by decide +kernel) rfl
theorem qlay0_2 : u_lay qR0 qTb0 2 ∈ qT := qT_1 (i := 141) (by decide +kernel) rfl
theorem qlay0 : ∀ w ∈ u_ws qR0 qTb0 3, w ∈ qT := by
  intro w hw
  obtain ⟨k, hk, rfl⟩ := List.mem_map.mp hw
  have hk := List.mem_range.mp hk
  match k, hk with
  | 0, _ => exact qlay0_0
  | 1, _ => exact qlay0_1
  | 2, _ => exact qlay0_2
  | k + 3, h => exact absurd h (by omega)
theorem qcls0 : qCls 0 qR0 qTb0 3 qTy0 := ⟨rfl, qlay0, by decide +kernel, by decide +kernel, by decide +kernel, by decide +kernel⟩
theorem qlay1_0 : u_lay qR1 qTb1 0 ∈ qT := qT_2 (i := 130) (by decide +kernel) rfl
theorem qlay1_1 : u_lay qR1 qTb1 1 ∈ qT := qT_2 (i := 132) (by decide +kernel) rfl
theorem qlay1_2 : u_lay qR1 qTb1 2 ∈ qT := qT_2 (i := 134) (by decide +kernel) rfl
theorem qlay1 : ∀ w ∈ u_ws qR1 qTb1 3, w ∈ qT := by
  intro w hw
  obtain ⟨k, hk, rfl⟩ := List.mem_map.mp hw
  have hk := List.mem_range.mp hk
  match k, hk with
  | 0, _ => exact qlay1_0
  | 1, _ => exact qlay1_1
  | 2, _ => exact qlay1_2
  | k + 3, h => exact absurd h (by omega)
theorem qcls1 : qCls 1 qR1 qTb1 3 qTy1 := ⟨rfl, qlay1, by decide +kernel, by decide +kernel, by decide +kernel, by decide +kernel⟩
theorem qlay2_0 : u_lay qR2 qTb2 0 ∈ qT := qT_2 (i := 210) (by decide +kernel) rfl
theorem qlay2_1 : u_lay qR2 qTb2 1 ∈ qT := qT_2 (i := 212) (by decide +kernel) rfl
theorem qlay2_2 : u_lay qR2 qTb2 2 ∈ qT := qT_2 (i := 214) (by decide +kernel) rfl
theorem qlay2 : ∀ w ∈ u_ws qR2 qTb2 3, w ∈ qT := by
  intro w hw
  obtain ⟨k, hk, rfl⟩ := List.mem_map.mp hw
  have hk := List.mem_range.mp hk
  match k, hk with
  | 0, _ => exact qlay2_0
  | 1, _ => exact qlay2_1
  | 2, _ => exact qlay2_2
  | k + 3, h => exact absurd h (by omega)
theorem qcls2 : qCls 2 qR2 qTb2 3 qTy2 := ⟨rfl, qlay2, by decide +kernel, by decide +kernel, by decide +kernel, by decide +kernel⟩
theorem qlay3_0 : u_lay qR3 qTb3 0 ∈ qT := qT_2 (i := 150) (by decide +kernel) rfl
theorem qlay3_1 : u_lay qR3 qTb3 1 ∈ qT := qT_2 (i := 152) (by decide +kernel) rfl
theorem qlay3_2 : u_lay qR3 qTb3 2 ∈ qT := qT_2 (i := 154) (by decide +kernel) rfl
theorem qlay3_3 : u_lay qR3 qTb3 3 ∈ qT := qT_2 (i := 156) (by decide +kernel) rfl
theorem qlay3_4 : u_lay qR3 qTb3 4 ∈ qT := qT_2 (i := 158) (by decide +kernel) rfl
theorem qlay3 : ∀ w ∈ u_ws qR3 qTb3 5, w ∈ qT := by
  intro w hw
  obtain ⟨k, hk, rfl⟩ := List.mem_map.mp hw
  have hk := List.mem_range.mp hk
  match k, hk with
  | 0, _ => exact qlay3_0
  | 1, _ => exact qlay3_1
  | 2, _ => exact qlay3_2
  | 3, _ => exact qlay3_3
  | 4, _ => exact qlay3_4
  | k + 5, h => exact absurd h (by omega)
theorem qcls3 : qCls 3 qR3 qTb3 5 qTy3 := ⟨rfl, qlay3, by decide +kernel, by decide +kernel, by decide +kernel, by decide +kernel⟩
theorem qlay4_0 : u_lay qR4 qTb4 0 ∈ qT := qT_2 (i := 26) (by decide +kernel) rfl
theorem qlay4_1 : u_lay qR4 qTb4 1 ∈ qT := qT_2 (i := 28) (by decide +kernel) rfl
theorem qlay4_2 : u_lay qR4 qTb4 2 ∈ qT := qT_2 (i := 30) (by decide +kernel) rfl
theorem qlay4_3 : u_lay qR4 qTb4 3 ∈ qT := qT_2 (i := 32) (by decide +kernel) rfl
theorem qlay4_4 : u_lay qR4 qTb4 4 ∈ qT := qT_2 (i := 34) (by decide +kernel) rfl
theorem qlay4_5 : u_lay qR4 qTb4 5 ∈ qT := qT_2 (i := 36) (by decide +kernel) rfl
theorem qlay4_6 : u_lay qR4 qTb4 6 ∈ qT := qT_2 (i := 38) (by decide +kernel) rfl
theorem qlay4_7 : u_lay qR4 qTb4 7 ∈ qT := qT_2 (i := 40) (by decide +kernel) rfl
theorem qlay4_8 : u_lay qR4 qTb4 8 ∈ qT := qT_2 (i := 42) (by decide +kernel) rfl
theorem qlay4_9 : u_lay qR4 qTb4 9 ∈ qT := qT_2 (i := 44) (by decide +kernel) rfl
theorem qlay4_10 : u_lay qR4 qTb4 10 ∈ qT := qT_2 (i := 46) (by decide +kernel) rfl
theorem qlay4_11 : u_lay qR4 qTb4 11 ∈ qT := qT_2 (i := 48) (by decide +kernel) rfl
theorem qlay4_12 : u_lay qR4 qTb4 12 ∈ qT := qT_2 (i := 50) (by decide +kernel) rfl
theorem qlay4_13 : u_lay qR4 qTb4 13 ∈ qT := qT_2 (i := 52) (by decide +kernel) rfl
theorem qlay4 : ∀ w ∈ u_ws qR4 qTb4 14, w ∈ qT := by
  intro w hw
  obtain ⟨k, hk, rfl⟩ := List.mem_map.mp hw
  have hk := List.mem_range.mp hk
  match k, hk with
  | 0, _ => exact qlay4_0
  | 1, _ => exact qlay4_1
  | 2, _ => exact qlay4_2
  | 3, _ => exact qlay4_3
  | 4, _ => exact qlay4_4
  | 5, _ => exact qlay4_5
  | 6, _ => exact qlay4_6
  | 7, _ => exact qlay4_7
  | 8, _ => exact qlay4_8
  | 9, _ => exact qlay4_9
  | 10, _ => exact qlay4_10
  | 11, _ => exact qlay4_11
  | 12, _ => exact qlay4_12
  | 13, _ => exact qlay4_13
  | k + 14, h => exact absurd h (by omega)
theorem qcls4 : qCls 4 qR4 qTb4 14 qTy4 := ⟨rfl, qlay4, by decide +kernel, by decide +kernel, by decide +kernel, by decide +kernel⟩
theorem qlay5_0 : u_lay qR5 qTb5 0 ∈ qT := qT_2 (i := 114) (by decide +kernel) rfl
theorem qlay5_1 : u_lay qR5 qTb5 1 ∈ qT := qT_2 (i := 116) (by decide +kernel) rfl
theorem qlay5_2 : u_lay qR5 qTb5 2 ∈ qT := qT_2 (i := 118) (by decide +kernel) rfl
theorem qlay5 : ∀ w ∈ u_ws qR5 qTb5 3, w ∈ qT := by
  intro w hw
  obtain ⟨k, hk, rfl⟩ := List.mem_map.mp hw
  have hk := List.mem_range.mp hk
  match k, hk with
  | 0, _ => exact qlay5_0
  | 1, _ => exact qlay5_1
  | 2, _ => exact qlay5_2
  | k + 3, h => exact absurd h (by omega)
theorem qcls5 : qCls 5 qR5 qTb5 3 qTy5 := ⟨rfl, qlay5, by decide +kernel, by decide +kernel, by decide +kernel, by decide +kernel⟩
theorem qlay6_0 : u_lay qR6 qTb6 0 ∈ qT := qT_2 (i := 90) (by decide +kernel) rfl
theorem qlay6_1 : u_lay qR6 qTb6 1 ∈ qT := qT_2 (i := 92) (by decide +kernel) rfl
theorem qlay6_2 : u_lay qR6 qTb6 2 ∈ qT := qT_2 (i := 94) (by decide +kernel) rfl
theorem qlay6_3 : u_lay qR6 qTb6 3 ∈ qT := qT_2 (i := 96) (by decide +kernel) rfl
theorem qlay6_4 : u_lay qR6 qTb6 4 ∈ qT := qT_2 (i := 98) (by decide +kernel) rfl
theorem qlay6_5 : u_lay qR6 qTb6 5 ∈ qT := qT_2 (i := 100) (by decide +kernel) rfl
theorem qlay6_6 : u_lay qR6 qTb6 6 ∈ qT := qT_2 (i := 102) (by decide +kernel) rfl
theorem qlay6 : ∀ w ∈ u_ws qR6 qTb6 7, w ∈ qT := by
  intro w hw
  obtain ⟨k, hk, rfl⟩ := List.mem_map.mp hw
  have hk := List.mem_range.mp hk
  match k, hk with
  | 0, _ => exact qlay6_0
  | 1, _ => exact qlay6_1
  | 2, _ => exact qlay6_2
  | 3, _ => exact qlay6_3
  | 4, _ => exact qlay6_4
  | 5, _ => exact qlay6_5
  | 6, _ => exact qlay6_6
  | k + 7, h => exact absurd h (by omega)
theorem qcls6 : qCls 6 qR6 qTb6 7 qTy6 := ⟨rfl, qlay6, by decide +kernel, by decide +kernel, by decide +kernel, by decide +kernel⟩
theorem qlay7_0 : u_lay qR7 qTb7 0 ∈ qT := qT_1 (i := 100) (by decide +kernel) rfl
theorem qlay7_1 : u_lay qR7 qTb7 1 ∈ qT := qT_1 (i := 102) (by decide +kernel) rfl
theorem qlay7_2 : u_lay qR7 qTb7 2 ∈ qT := qT_1 (i := 104) (by decide +kernel) rfl
theorem qlay7_3 : u_lay qR7 qTb7 3 ∈ qT := qT_1 (i := 106) (by decide +kernel) rfl
theorem qlay7_4 : u_lay qR7 qTb7 4 ∈ qT := qT_1 (i := 108) (by decide +kernel) rfl
theorem qlay7_5 : u_lay qR7 qTb7 5 ∈ qT := qT_1 (i := 110) (by decide +kernel) rfl
theorem qlay7_6 : u_lay qR7 qTb7 6 ∈ qT := qT_1 (i := 112) (by decide +kernel) rfl
theorem qlay7 : ∀ w ∈ u_ws qR7 qTb7 7, w ∈ qT := by
  intro w hw
  obtain ⟨k, hk, rfl⟩ := List.mem_map.mp hw
  have hk := List.mem_range.mp hk
  match k, hk with
  | 0, _ => exact qlay7_0
  | 1, _ => exact qlay7_1
  | 2, _ => exact qlay7_2
  | 3, _ => exact qlay7_3
  | 4, _ => exact qlay7_4
  | 5, _ => exact qlay7_5
  | 6, _ => exact qlay7_6
  | k + 7, h => exact absurd h (by omega)
theorem qcls7 : qCls 7 qR7 qTb7 7 qTy7 := ⟨rfl, qlay7, by decide +kernel, by decide +kernel, by decide +kernel, by decide +kernel⟩
theorem qlay8_0 : u_lay qR8 qTb8 0 ∈ qT := qT_1 (i := 198) (by decide +kernel) rfl
theorem qlay8_1 : u_lay qR8 qTb8 1 ∈ qT := qT_1 (i := 200) (by decide +kernel) rfl
theorem qlay8_2 : u_lay qR8 qTb8 2 ∈ qT := qT_1 (i := 202) (by decide +kernel) rfl
theorem qlay8_3 : u_lay qR8 qTb8 3 ∈ qT := qT_1 (i := 204) (by decide +kernel) rfl
theorem qlay8_4 : u_lay qR8 qTb8 4 ∈ qT := qT_1 (i := 206) (by decide +kernel) rfl
theorem qlay8_5 : u_lay qR8 qTb8 5 ∈ qT := qT_1 (i := 208) (by decide +kernel) rfl
theorem qlay8_6 : u_lay qR8 qTb8 6 ∈ qT := qT_1 (i := 210) (by decide +kernel) rfl
theorem qlay8_7 : u_lay qR8 qTb8 7 ∈ qT := qT_1 (i := 212) (by decide +kernel) rfl
theorem qlay8_8 : u_lay qR8 qTb8 8 ∈ qT := qT_1 (i := 214) (by decide +kernel) rfl
theorem qlay8_9 : u_lay qR8 qTb8 9 ∈ qT := qT_1 (i := 216) (by decide +kernel) rfl
theorem qlay8_10 : u_lay qR8 qTb8 10 ∈ qT := qT_1 (i := 218) (by decide +kernel) rfl
theorem qlay8_11 : u_lay qR8 qTb8 11 ∈ qT := qT_1 (i := 220) (by decide +kernel) rfl
theorem qlay8_12 : u_lay qR8 qTb8 12 ∈ qT := qT_1 (i := 222) (by decide +kernel) rfl
theorem qlay8 : ∀ w ∈ u_ws qR8 qTb8 13, w ∈ qT := by
  intro w hw
  obtain ⟨k, hk, rfl⟩ := List.mem_map.mp hw
  have hk := List.mem_range.mp hk
  match k, hk with
  | 0, _ => exact qlay8_0
  | 1, _ => exact qlay8_1
  | 2, _ => exact qlay8_2
  | 3, _ => exact qlay8_3
  | 4, _ => exact qlay8_4
  | 5, _ => exact qlay8_5
  | 6, _ => exact qlay8_6
  | 7, _ => exact qlay8_7
  | 8, _ => exact qlay8_8
  | 9, _ => exact qlay8_9
  | 10, _ => exact qlay8_10
  | 11, _ => exact qlay8_11
  | 12, _ => exact qlay8_12
  | k + 13, h => exact absurd h (by omega)
theorem qcls8 : qCls 8 qR8 qTb8 13 qTy8 := ⟨rfl, qlay8, by decide +kernel, by decide +kernel, by decide +kernel, by decide +kernel⟩
theorem qlay9_0 : u_lay qR9 qTb9 0 ∈ qT := qT_2 (i := 179) (by decide +kernel) rfl
theorem qlay9_1 : u_lay qR9 qTb9 1 ∈ qT := qT_2 (i := 181) (by decide +kernel) rfl
theorem qlay9_2 : u_lay qR9 qTb9 2 ∈ qT := qT_2 (i := 183) (by decide +kernel) rfl
theorem qlay9_3 : u_lay qR9 qTb9 3 ∈ qT := qT_2 (i := 185) (by decide +kernel) rfl
theorem qlay9_4 : u_lay qR9 qTb9 4 ∈ qT := qT_2 (i := 187) (by decide +kernel) rfl
theorem qlay9_5 : u_lay qR9 qTb9 5 ∈ qT := qT_2 (i := 189) (by decide +kernel) rfl
theorem qlay9_6 : u_lay qR9 qTb9 6 ∈ qT := qT_2 (i := 191) (by decide +kernel) rfl
theorem qlay9_7 : u_lay qR9 qTb9 7 ∈ qT := qT_2 (i := 193) (by decide +kernel) rfl
theorem qlay9 : ∀ w ∈ u_ws qR9 qTb9 8, w ∈ qT := by
  intro w hw
  obtain ⟨k, hk, rfl⟩ := List.mem_map.mp hw
  have hk := List.mem_range.mp hk
  match k, hk with
  | 0, _ => exact qlay9_0
  | 1, _ => exact qlay9_1
  | 2, _ => exact qlay9_2
  | 3, _ => exact qlay9_3
  | 4, _ => exact qlay9_4
  | 5, _ => exact qlay9_5
  | 6, _ => exact qlay9_6
  | 7, _ => exact qlay9_7
  | k + 8, h => exact absurd h (by omega)
theorem qcls9 : qCls 9 qR9 qTb9 8 qTy9 := ⟨rfl, qlay9, by decide +kernel, by decide +kernel, by decide +kernel, by decide +kernel⟩
theorem qlay10_0 : u_lay qR10 qTb10 0 ∈ qT := qT_2 (i := 3) (by decide +kernel) rfl
theorem qlay10_1 : u_lay qR10 qTb10 1 ∈ qT := qT_2 (i := 5) (by decide +kernel) rfl
theorem qlay10_2 : u_lay qR10 qTb10 2 ∈ qT := qT_2 (i := 7) (by decide +kernel) rfl
theorem qlay10 : ∀ w ∈ u_ws qR10 qTb10 3, w ∈ qT := by
  intro w hw
  obtain ⟨k, hk, rfl⟩ := List.mem_map.mp hw
  have hk := List.mem_range.mp hk
  match k, hk with
  | 0, _ => exact qlay10_0
  | 1, _ => exact qlay10_1
  | 2, _ => exact qlay10_2
  | k + 3, h => exact absurd h (by omega)
theorem qcls10 : qCls 10 qR10 qTb10 3 qTy10 := ⟨rfl, qlay10, by decide +kernel, by decide +kernel, by decide +kernel, by decide +kernel⟩
theorem qlay11_0 : u_lay qR11 qTb11 0 ∈ qT := qT_2 (i := 229) (by decide +kernel) rfl
theorem qlay11_1 : u_lay qR11 qTb11 1 ∈ qT := qT_2 (i := 231) (by decide +kernel) rfl
theorem qlay11_2 : u_lay qR11 qTb11 2 ∈ qT := qT_2 (i := 233) (by decide +kernel) rfl
theorem qlay11_3 : u_lay qR11 qTb11 3 ∈ qT := qT_2 (i := 235) (by decide +kernel) rfl
theorem qlay11_4 : u_lay qR11 qTb11 4 ∈ qT := qT_2 (i := 237) (by decide +kernel) rfl
theorem qlay11_5 : u_lay qR11 qTb11 5 ∈ qT := qT_2 (i := 239) (by decide +kernel) rfl
theorem qlay11_6 : u_lay qR11 qTb11 6 ∈ qT := qT_3 (i := 1) (by decide +kernel) rfl
theorem qlay11_7 : u_lay qR11 qTb11 7 ∈ qT := qT_3 (i := 3) (by decide +kernel) rfl
theorem qlay11_8 : u_lay qR11 qTb11 8 ∈ qT := qT_3 (i := 5) (by decide +kernel) rfl
theorem qlay11_9 : u_lay qR11 qTb11 9 ∈ qT := qT_3 (i := 7) (by decide +kernel) rfl
theorem qlay11_10 : u_lay qR11 qTb11 10 ∈ qT := qT_3 (i := 9) (by decide +kernel) rfl
theorem qlay11_11 : u_lay qR11 qTb11 11 ∈ qT := qT_3 (i := 11) (by decide +kernel) rfl
theorem qlay11 : ∀ w ∈ u_ws qR11 qTb11 12, w ∈ qT := by
  intro w hw
  obtain ⟨k, hk, rfl⟩ := List.mem_map.mp hw
  have hk := List.mem_range.mp hk
  match k, hk with
  | 0, _ => exact qlay11_0
  | 1, _ => exact qlay11_1
  | 2, _ => exact qlay11_2
  | 3, _ => exact qlay11_3
  | 4, _ => exact qlay11_4
  | 5, _ => exact qlay11_5
  | 6, _ => exact qlay11_6
  | 7, _ => exact qlay11_7
  | 8, _ => exact qlay11_8
  | 9, _ => exact qlay11_9
  | 10, _ => exact qlay11_10
  | 11, _ => exact qlay11_11
  | k + 12, h => exact absurd h (by omega)
theorem qcls11 : qCls 11 qR11 qTb11 12 qTy11 := ⟨rfl, qlay11, by decide +kernel, by decide +kernel, by decide +kernel, by decide +kernel⟩
theorem qlay12_0 : u_lay qR12 qTb12 0 ∈ qT := qT_6 (i := 115) (by decide +kernel) rfl
theorem qlay12_1 : u_lay qR12 qTb12 1 ∈ qT := qT_6 (i := 117) (by decide +kernel) rfl
theorem qlay12_2 : u_lay qR12 qTb12 2 ∈ qT := qT_6 (i := 119) (by decide +kernel) rfl
theorem qlay12_3 : u_lay qR12 qTb12 3 ∈ qT := qT_6 (i := 121) (by decide +kernel) rfl
theorem qlay12_4 : u_lay qR12 qTb12 4 ∈ qT := qT_6 (i := 123) (by decide +kernel) rfl
theorem qlay12_5 : u_lay qR12 qTb12 5 ∈ qT := qT_6 (i := 125) (by decide +kernel) rfl
theorem qlay12_6 : u_lay qR12 qTb12 6 ∈ qT := qT_6 (i := 127) (by decide +kernel) rfl
theorem qlay12_7 : u_lay qR12 qTb12 7 ∈ qT := qT_6 (i := 129) (by decide +kernel) rfl
theorem qlay12_8 : u_lay qR12 qTb12 8 ∈ qT := qT_6 (i := 131) (by decide +kernel) rfl
theorem qlay12_9 : u_lay qR12 qTb12 9 ∈ qT := qT_6 (i := 133) (by decide +kernel) rfl
theorem qlay12_10 : u_lay qR12 qTb12 10 ∈ qT := qT_6 (i := 135) (by decide +kernel) rfl
theorem qlay12_11 : u_lay qR12 qTb12 11 ∈ qT := qT_6 (i := 137) (by decide +kernel) rfl
theorem qlay12_12 : u_lay qR12 qTb12 12 ∈ qT := qT_6 (i := 139) (by decide +kernel) rfl
theorem qlay12_13 : u_lay qR12 qTb12 13 ∈ qT := qT_6 (i := 141) (by decide +kernel) rfl
theorem qlay12_14 : u_lay qR12 qTb12 14 ∈ qT := qT_6 (i := 143) (by decide +kernel) rfl
theorem qlay12_15 : u_lay qR12 qTb12 15 ∈ qT := qT_6 (i := 145) (by decide +kernel) rfl
theorem qlay12_16 : u_lay qR12 qTb12 16 ∈ qT := qT_6 (i := 147) (by decide +kernel) rfl
theorem qlay12_17 : u_lay qR12 qTb12 17 ∈ qT := qT_6 (i := 149) (by decide +kernel) rfl
theorem qlay12_18 : u_lay qR12 qTb12 18 ∈ qT := qT_6 (i := 151) (by decide +kernel) rfl
theorem qlay12_19 : u_lay qR12 qTb12 19 ∈ qT := qT_6 (i := 153) (by decide +kernel) rfl
theorem qlay12_20 : u_lay qR12 qTb12 20 ∈ qT := qT_6 (i := 155) (by decide +kernel) rfl
theorem qlay12_21 : u_lay qR12 qTb12 21 ∈ qT := qT_6 (i := 157) (by decide +kernel) rfl
theorem qlay12_22 : u_lay qR12 qTb12 22 ∈ qT := qT_6 (i := 159) (by decide +kernel) rfl
theorem qlay12_23 : u_lay qR12 qTb12 23 ∈ qT := qT_6 (i := 161) (by decide +kernel) rfl
theorem qlay12_24 : u_lay qR12 qTb12 24 ∈ qT := qT_6 (i := 163) (by decide +kernel) rfl
theorem qlay12_25 : u_lay qR12 qTb12 25 ∈ qT := qT_6 (i := 165) (by decide +kernel) rfl
theorem qlay12_26 : u_lay qR12 qTb12 26 ∈ qT := qT_6 (i := 167) (by decide +kernel) rfl
theorem qlay12_27 : u_lay qR12 qTb12 27 ∈ qT := qT_6 (i := 169) (by decide +kernel) rfl
theorem qlay12_28 : u_lay qR12 qTb12 28 ∈ qT := qT_6 (i := 171) (by decide +kernel) rfl
theorem qlay12_29 : u_lay qR12 qTb12 29 ∈ qT := qT_6 (i := 173) (by decide +kernel) rfl
theorem qlay12_30 : u_lay qR12 qTb12 30 ∈ qT := qT_6 (i := 175) (by decide +kernel) rfl
theorem qlay12_31 : u_lay qR12 qTb12 31 ∈ qT := qT_6 (i := 177) (by decide +kernel) rfl
theorem qlay12_32 : u_lay qR12 qTb12 32 ∈ qT := qT_6 (i := 179) (by decide +kernel) rfl
theorem qlay12_33 : u_lay qR12 qTb12 33 ∈ qT := qT_6 (i := 181) (by decide +kernel) rfl
theorem qlay12_34 : u_lay qR12 qTb12 34 ∈ qT := qT_6 (i := 183) (by decide +kernel) rfl
theorem qlay12_35 : u_lay qR12 qTb12 35 ∈ qT := qT_6 (i := 185) (by decide +kernel) rfl
theorem qlay12_36 : u_lay qR12 qTb12 36 ∈ qT := qT_6 (i := 187) (by decide +kernel) rfl
theorem qlay12_37 : u_lay qR12 qTb12 37 ∈ qT := qT_6 (i := 189) (by decide +kernel) rfl
theorem qlay12_38 : u_lay qR12 qTb12 38 ∈ qT := qT_6 (i := 191) (by decide +kernel) rfl
theorem qlay12_39 : u_lay qR12 qTb12 39 ∈ qT := qT_6 (i := 193) (by decide +kernel) rfl
theorem qlay12_40 : u_lay qR12 qTb12 40 ∈ qT := qT_6 (i := 195) (by decide +kernel) rfl
theorem qlay12_41 : u_lay qR12 qTb12 41 ∈ qT := qT_6 (i := 197) (by decide +kernel) rfl
theorem qlay12_42 : u_lay qR12 qTb12 42 ∈ qT := qT_6 (i := 199) (by decide +kernel) rfl
theorem qlay12_43 : u_lay qR12 qTb12 43 ∈ qT := qT_6 (i := 201) (by decide +kernel) rfl
theorem qlay12_44 : u_lay qR12 qTb12 44 ∈ qT := qT_6 (i := 203) (by decide +kernel) rfl
theorem qlay12_45 : u_lay qR12 qTb12 45 ∈ qT := qT_6 (i := 205) (by decide +kernel) rfl
theorem qlay12_46 : u_lay qR12 qTb12 46 ∈ qT := qT_6 (i := 207) (by decide +kernel) rfl
theorem qlay12_47 : u_lay qR12 qTb12 47 ∈ qT := qT_6 (i := 209) (by decide +kernel) rfl
theorem qlay12_48 : u_lay qR12 qTb12 48 ∈ qT := qT_6 (i := 211) (by decide +kernel) rfl
theorem qlay12_49 : u_lay qR12 qTb12 49 ∈ qT := qT_6 (i := 213) (by decide +kernel) rfl
theorem qlay12_50 : u_lay qR12 qTb12 50 ∈ qT := qT_6 (i := 215) (by decide +kernel) rfl
theorem qlay12_51 : u_lay qR12 qTb12 51 ∈ qT := qT_6 (i := 217) (by decide +kernel) rfl
theorem qlay12_52 : u_lay qR12 qTb12 52 ∈ qT := qT_6 (i := 219) (by decide +kernel) rfl
theorem qlay12_53 : u_lay qR12 qTb12 53 ∈ qT := qT_6 (i := 221) (by decide +kernel) rfl
theorem qlay12_54 : u_lay qR12 qTb12 54 ∈ qT := qT_6 (i := 223) (by decide +kernel) rfl
theorem qlay12_55 : u_lay qR12 qTb12 55 ∈ qT := qT_6 (i := 225) (by decide +kernel) rfl
theorem qlay12_56 : u_lay qR12 qTb12 56 ∈ qT := qT_6 (i := 227) (by decide +kernel) rfl
theorem qlay12_57 : u_lay qR12 qTb12 57 ∈ qT := qT_6 (i := 229) (by decide +kernel) rfl
theorem qlay12_58 : u_lay qR12 qTb12 58 ∈ qT := qT_6 (i := 231) (by decide +kernel) rfl
theorem qlay12_59 : u_lay qR12 qTb12 59 ∈ qT := qT_6 (i := 233) (by decide +kernel) rfl
theorem qlay12_60 : u_lay qR12 qTb12 60 ∈ qT := qT_6 (i := 235) (by decide +kernel) rfl
theorem qlay12_61 : u_lay qR12 qTb12 61 ∈ qT := qT_6 (i := 237) (by decide +kernel) rfl
theorem qlay12_62 : u_lay qR12 qTb12 62 ∈ qT := qT_6 (i := 239) (by decide +kernel) rfl
theorem qlay12_63 : u_lay qR12 qTb12 63 ∈ qT := qT_7 (i := 1) (by decide +kernel) rfl
theorem qlay12_64 : u_lay qR12 qTb12 64 ∈ qT := qT_7 (i := 3) (by decide +kernel) rfl
theorem qlay12_65 : u_lay qR12 qTb12 65 ∈ qT := qT_7 (i := 5) (by decide +kernel) rfl
theorem qlay12_66 : u_lay qR12 qTb12 66 ∈ qT := qT_7 (i := 7) (by decide +kernel) rfl
theorem qlay12_67 : u_lay qR12 qTb12 67 ∈ qT := qT_7 (i := 9) (by decide +kernel) rfl
theorem qlay12_68 : u_lay qR12 qTb12 68 ∈ qT := qT_7 (i := 11) (by decide +kernel) rfl
theorem qlay12_69 : u_lay qR12 qTb12 69 ∈ qT := qT_7 (i := 13) (by decide +kernel) rfl
theorem qlay12_70 : u_lay qR12 qTb12 70 ∈ qT := qT_7 (i := 15) (by decide +kernel) rfl
theorem qlay12 : ∀ w ∈ u_ws qR12 qTb12 71, w ∈ qT := by
  intro w hw
  obtain ⟨k, hk, rfl⟩ := List.mem_map.mp hw
  have hk := List.mem_range.mp hk
  match k, hk with
  | 0, _ => exact qlay12_0
  | 1, _ => exact qlay12_1
  | 2, _ => exact qlay12_2
  | 3, _ => exact qlay12_3
  | 4, _ => exact qlay12_4
  | 5, _ => exact qlay12_5
  | 6, _ => exact qlay12_6
  | 7, _ => exact qlay12_7
  | 8, _ => exact qlay12_8
  | 9, _ => exact qlay12_9
  | 10, _ => exact qlay12_10
  | 11, _ => exact qlay12_11
  | 12, _ => exact qlay12_12
  | 13, _ => exact qlay12_13
  | 14, _ => exact qlay12_14
  | 15, _ => exact qlay12_15
  | 16, _ => exact qlay12_16
  | 17, _ => exact qlay12_17
  | 18, _ => exact qlay12_18
  | 19, _ => exact qlay12_19
  | 20, _ => exact qlay12_20
  | 21, _ => exact qlay12_21
  | 22, _ => exact qlay12_22
  | 23, _ => exact qlay12_23
  | 24, _ => exact qlay12_24
  | 25, _ => exact qlay12_25
  | 26, _ => exact qlay12_26
  | 27, _ => exact qlay12_27
  | 28, _ => exact qlay12_28
  | 29, _ => exact qlay12_29
  | 30, _ => exact qlay12_30
  | 31, _ => exact qlay12_31
  | 32, _ => exact qlay12_32
  | 33, _ => exact qlay12_33
  | 34, _ => exact qlay12_34
  | 35, _ => exact qlay12_35
  | 36, _ => exact qlay12_36
  | 37, _ => exact qlay12_37
  | 38, _ => exact qlay12_38
  | 39, _ => exact qlay12_39
  | 40, _ => exact qlay12_40
  | 41, _ => exact qlay12_41
  | 42, _ => exact qlay12_42
  | 43, _ => exact qlay12_43
  | 44, _ => exact qlay12_44
  | 45, _ => exact qlay12_45
  | 46, _ => exact qlay12_46
  | 47, _ => exact qlay12_47
  | 48, _ => exact qlay12_48
  | 49, _ => exact qlay12_49
  | 50, _ => exact qlay12_50
  | 51, _ => exact qlay12_51
  | 52, _ => exact qlay12_52
  | 53, _ => exact qlay12_53
  | 54, _ => exact qlay12_54
  | 55, _ => exact qlay12_55
  | 56, _ => exact qlay12_56
  | 57, _ => exact qlay12_57
  | 58, _ => exact qlay12_58
  | 59, _ => exact qlay12_59
  | 60, _ => exact qlay12_60
  | 61, _ => exact qlay12_61
  | 62, _ => exact qlay12_62
  | 63, _ => exact qlay12_63
  | 64, _ => exact qlay12_64
  | 65, _ => exact qlay12_65
  | 66, _ => exact qlay12_66
  | 67, _ => exact qlay12_67
  | 68, _ => exact qlay12_68
  | 69, _ => exact qlay12_69
  | 70, _ => exact qlay12_70
  | k + 71, h => exact absurd h (by omega)
theorem qcls12 : qCls 12 qR12 qTb12 71 qTy12 := ⟨rfl, qlay12, by decide +kernel, by decide +kernel, by decide +kernel, by decide +kernel⟩
