/-! the shape of the world: classes, fields, groups of cells -/
abbrev jxK : Type := (Nat × List (Option Nat)) ⊕ (Nat × Nat) ⊕ (Nat × Nat)
abbrev jR0 : String := "HistoryJudge$CycleSearch"
def jT0 : u_T := fun k => match k with
  | 0 => ("HistoryJudge$CycleSearch", "plain", "[I", true)
  | 1 => ("HistoryJudge$CycleSearch", "marked", "[I", true)
  | 2 => ("HistoryJudge$CycleSearch", "paid", "[I", true)
  | 3 => ("HistoryJudge$CycleSearch", "owing", "[I", true)
  | _ => ("HistoryJudge$CycleSearch", "row", "[I", true)
def jt0 : Nat → FieldType := fun k => match k with
  | 0 => .array .int
  | 1 => .array .int
  | 2 => .array .int
  | 3 => .array .int
  | _ => .array .int
theorem jn0 : ∀ a, a < 5 → ∀ b, b < 5 → a ≠ b → (jT0 a).2.1 ≠ (jT0 b).2.1 := by decide +kernel
theorem jt0_ok : ∀ k, k < 5 → parseFieldDescriptor (jT0 k).2.2.1 = some (jt0 k) := by decide +kernel
theorem ju0 : ∀ w ∈ u_ws jR0 jT0 5, w ∈ jW := by decide +kernel
abbrev jR1 : String := "HistoryJudge$Graph"
def jT1 : u_T := fun k => match k with
  | 0 => ("HistoryJudge$Graph", "ww", "[I", true)
  | 1 => ("HistoryJudge$Graph", "wr", "[I", true)
  | _ => ("HistoryJudge$Graph", "rw", "[I", true)
def jt1 : Nat → FieldType := fun k => match k with
  | 0 => .array .int
  | 1 => .array .int
  | _ => .array .int
theorem jn1 : ∀ a, a < 3 → ∀ b, b < 3 → a ≠ b → (jT1 a).2.1 ≠ (jT1 b).2.1 := by decide +kernel
theorem jt1_ok : ∀ k, k < 3 → parseFieldDescriptor (jT1 k).2.2.1 = some (jt1 k) := by decide +kernel
theorem ju1 : ∀ w ∈ u_ws jR1 jT1 3, w ∈ jW := by decide +kernel
abbrev jR2 : String := "HistoryJudge$History"
def jT2 : u_T := fun k => match k with
  | 0 => ("HistoryJudge$History", "states", "[I", true)
  | 1 => ("HistoryJudge$History", "writers", "[I", true)
  | 2 => ("HistoryJudge$History", "writtenItems", "[I", true)
  | 3 => ("HistoryJudge$History", "versions", "I", false)
  | 4 => ("HistoryJudge$History", "readers", "[I", true)
  | 5 => ("HistoryJudge$History", "readItems", "[I", true)
  | 6 => ("HistoryJudge$History", "readVersions", "[I", true)
  | 7 => ("HistoryJudge$History", "ownVersions", "[I", true)
  | 8 => ("HistoryJudge$History", "reads", "I", false)
  | 9 => ("HistoryJudge$History", "latest", "[[I", true)
  | 10 => ("HistoryJudge$History", "order", "[[I", true)
  | _ => ("HistoryJudge$History", "ordered", "[I", true)
def jt2 : Nat → FieldType := fun k => match k with
  | 0 => .array .int
  | 1 => .array .int
  | 2 => .array .int
  | 3 => .int
  | 4 => .array .int
  | 5 => .array .int
  | 6 => .array .int
  | 7 => .array .int
  | 8 => .int
  | 9 => .array (.array .int)
  | 10 => .array (.array .int)
  | _ => .array .int
theorem jn2 : ∀ a, a < 12 → ∀ b, b < 12 → a ≠ b → (jT2 a).2.1 ≠ (jT2 b).2.1 := by decide +kernel
theorem jt2_ok : ∀ k, k < 12 → parseFieldDescriptor (jT2 k).2.2.1 = some (jt2 k) := by decide +kernel
theorem ju2 : ∀ w ∈ u_ws jR2 jT2 12, w ∈ jW := by decide +kernel
abbrev jR3 : String := "HistoryJudge$SerialSearch"
def jT3 : u_T := fun k => match k with
  | 0 => ("HistoryJudge$SerialSearch", "before", "[I", true)
  | 1 => ("HistoryJudge$SerialSearch", "readersBetween", "[[I", true)
  | 2 => ("HistoryJudge$SerialSearch", "nexts", "[I", true)
  | 3 => ("HistoryJudge$SerialSearch", "committed", "I", false)
  | _ => ("HistoryJudge$SerialSearch", "sound", "Z", false)
def jt3 : Nat → FieldType := fun k => match k with
  | 0 => .array .int
  | 1 => .array (.array .int)
  | 2 => .array .int
  | 3 => .int
  | _ => .boolean
theorem jn3 : ∀ a, a < 5 → ∀ b, b < 5 → a ≠ b → (jT3 a).2.1 ≠ (jT3 b).2.1 := by decide +kernel
theorem jt3_ok : ∀ k, k < 5 → parseFieldDescriptor (jT3 k).2.2.1 = some (jt3 k) := by decide +kernel
theorem ju3 : ∀ w ∈ u_ws jR3 jT3 5, w ∈ jW := by decide +kernel
abbrev jR4 : String := "HistoryJudge"
def jT4 : u_T := fun k => match k with
  | 0 => ("HistoryJudge", "history", "LHistoryJudge$History;", true)
  | 1 => ("HistoryJudge", "graph", "LHistoryJudge$Graph;", true)
  | 2 => ("HistoryJudge", "cycles", "LHistoryJudge$CycleSearch;", true)
  | _ => ("HistoryJudge", "serials", "LHistoryJudge$SerialSearch;", true)
def jt4 : Nat → FieldType := fun k => match k with
  | 0 => .object "HistoryJudge$History"
  | 1 => .object "HistoryJudge$Graph"
  | 2 => .object "HistoryJudge$CycleSearch"
  | _ => .object "HistoryJudge$SerialSearch"
theorem jn4 : ∀ a, a < 4 → ∀ b, b < 4 → a ≠ b → (jT4 a).2.1 ≠ (jT4 b).2.1 := by decide +kernel
theorem jt4_ok : ∀ k, k < 4 → parseFieldDescriptor (jT4 k).2.2.1 = some (jt4 k) := by decide +kernel
theorem ju4 : ∀ w ∈ u_ws jR4 jT4 4, w ∈ jW := by decide +kernel
abbrev jR5 : String := "HistoryJudgeModel"
def jT5 : u_T := fun k => match k with
  | 0 => ("HistoryJudgeModel", "code", "I", false)
  | 1 => ("HistoryJudgeModel", "states", "[I", true)
  | 2 => ("HistoryJudgeModel", "versions", "I", false)
  | 3 => ("HistoryJudgeModel", "writer", "[I", true)
  | 4 => ("HistoryJudgeModel", "itemOf", "[I", true)
  | 5 => ("HistoryJudgeModel", "reads", "I", false)
  | 6 => ("HistoryJudgeModel", "events", "I", false)
  | 7 => ("HistoryJudgeModel", "who", "[I", true)
  | 8 => ("HistoryJudgeModel", "what", "[I", true)
  | 9 => ("HistoryJudgeModel", "which", "[I", true)
  | 10 => ("HistoryJudgeModel", "writes", "[Z", true)
  | 11 => ("HistoryJudgeModel", "lengths", "[I", true)
  | 12 => ("HistoryJudgeModel", "order", "[I", true)
  | 13 => ("HistoryJudgeModel", "drawn", "[I", true)
  | 14 => ("HistoryJudgeModel", "row", "[I", true)
  | 15 => ("HistoryJudgeModel", "tries", "[I", true)
  | 16 => ("HistoryJudgeModel", "size", "I", false)
  | _ => ("HistoryJudgeModel", "latest", "[I", true)
def jt5 : Nat → FieldType := fun k => match k with
  | 0 => .int
  | 1 => .array .int
  | 2 => .int
  | 3 => .array .int
  | 4 => .array .int
  | 5 => .int
  | 6 => .int
  | 7 => .array .int
  | 8 => .array .int
  | 9 => .array .int
  | 10 => .array .boolean
  | 11 => .array .int
  | 12 => .array .int
  | 13 => .array .int
  | 14 => .array .int
  | 15 => .array .int
  | 16 => .int
  | _ => .array .int
theorem jn5 : ∀ a, a < 18 → ∀ b, b < 18 → a ≠ b → (jT5 a).2.1 ≠ (jT5 b).2.1 := by decide +kernel
theorem jt5_ok : ∀ k, k < 18 → parseFieldDescriptor (jT5 k).2.2.1 = some (jt5 k) := by decide +kernel
theorem ju5 : ∀ w ∈ u_ws jR5 jT5 18, w ∈ jW := by decide +kernel
abbrev jxCl : List vw_C := [(jR0, jT0, 5), (jR1, jT1, 3), (jR2, jT2, 12), (jR3, jT3, 5), (jR4, jT4, 4), (jR5, jT5, 18)]
def jxk : Nat → jxK := fun g => match g with
  | 0 => .inl (4, [some 1, some 20, some 24, some 30])
  | 1 => .inl (2, [some 2, some 3, some 4, none, some 5, some 6, some 7, some 8, none, some 9, some 11, some 13])
  | 2 => .inr (.inl (0, 8))
  | 3 => .inr (.inl (0, 40))
  | 4 => .inr (.inl (0, 40))
  | 5 => .inr (.inl (0, 60))
  | 6 => .inr (.inl (0, 60))
  | 7 => .inr (.inl (0, 60))
  | 8 => .inr (.inl (0, 60))
  | 9 => .inr (.inr (10, 8))
  | 10 => .inr (.inl (0, 6))
  | 11 => .inr (.inr (12, 6))
  | 12 => .inr (.inl (0, 8))
  | 13 => .inr (.inl (0, 6))
  | 20 => .inl (1, [some 21, some 22, some 23])
  | 21 => .inr (.inl (0, 8))
  | 22 => .inr (.inl (0, 8))
  | 23 => .inr (.inl (0, 8))
  | 24 => .inl (0, [some 25, some 26, some 27, some 28, some 29])
  | 25 => .inr (.inl (0, 8))
  | 26 => .inr (.inl (0, 8))
  | 27 => .inr (.inl (0, 9))
  | 28 => .inr (.inl (0, 9))
  | 29 => .inr (.inl (0, 8))
  | 30 => .inl (3, [some 31, some 32, some 34, none, none])
  | 31 => .inr (.inl (0, 8))
  | 32 => .inr (.inr (33, 8))
  | 33 => .inr (.inl (0, 8))
  | 34 => .inr (.inl (0, 256))
  | 40 => .inl (5, [none, some 41, none, some 42, some 43, none, none, some 44, some 45, some 46, some 47, some 48, some 49, some 50, some 51, some 52, none, some 53])
  | 41 => .inr (.inl (0, 8))
  | 42 => .inr (.inl (0, 40))
  | 43 => .inr (.inl (0, 40))
  | 44 => .inr (.inl (0, 100))
  | 45 => .inr (.inl (0, 100))
  | 46 => .inr (.inl (0, 100))
  | 47 => .inr (.inl (1, 100))
  | 48 => .inr (.inl (0, 6))
  | 49 => .inr (.inl (0, 48))
  | 50 => .inr (.inl (0, 64))
  | 51 => .inr (.inl (0, 9))
  | 52 => .inr (.inl (0, 9))
  | 53 => .inr (.inl (0, 54))
  | 60 => .inr (.inl (3, 1))
  | _ => .inr (.inl (0, 0))
/-- how many rows a group has, by the object that it belongs to -/
def jrwH : Nat → Nat := fun g => match g with
  | 1 => 1
  | 2 => 1
  | 3 => 1
  | 4 => 1
  | 5 => 1
  | 6 => 1
  | 7 => 1
  | 8 => 1
  | 9 => 1
  | 10 => 8
  | 11 => 1
  | 12 => 6
  | 13 => 1
  | _ => 0
def jrwJ : Nat → Nat := fun g => match g with
  | 0 => 1
  | 1 => 1
  | 2 => 1
  | 3 => 1
  | 4 => 1
  | 5 => 1
  | 6 => 1
  | 7 => 1
  | 8 => 1
  | 9 => 1
  | 10 => 8
  | 11 => 1
  | 12 => 6
  | 13 => 1
  | 20 => 1
  | 21 => 1
  | 22 => 1
  | 23 => 1
  | 24 => 1
  | 25 => 1
  | 26 => 1
  | 27 => 1
  | 28 => 1
  | 29 => 1
  | 30 => 1
  | 31 => 1
  | 32 => 1
  | 33 => 8
  | 34 => 1
  | _ => 0
def jrwM : Nat → Nat := fun g => match g with
  | 40 => 1
  | 41 => 1
  | 42 => 1
  | 43 => 1
  | 44 => 1
  | 45 => 1
  | 46 => 1
  | 47 => 1
  | 48 => 1
  | 49 => 1
  | 50 => 1
  | 51 => 1
  | 52 => 1
  | 53 => 1
  | _ => 0
