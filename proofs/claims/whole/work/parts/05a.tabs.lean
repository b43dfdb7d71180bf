/-! Classes, cells, methods, words: tables printed by program, and what is checked of them. -/
def RX0 : String := "QuarrelWindows$Guess"
def TX0 : u_T := fun k => match k with
  | 0 => ("QuarrelWindows$Guess", "trial", "LQuarrelWindows$Square;", true)
  | 1 => ("QuarrelWindows$Guess", "fronts", "[[I", true)
  | 2 => ("QuarrelWindows$Guess", "left", "[[I", true)
  | 3 => ("QuarrelWindows$Guess", "fitting", "I", false)
  | 4 => ("QuarrelWindows$Guess", "least", "I", false)
  | _ => ("QuarrelWindows$Guess", "greatest", "I", false)
def tyX0 : Nat → FieldType := fun k => match k with
  | 0 => .object "QuarrelWindows$Square"
  | 1 => .array (.array .int)
  | 2 => .array (.array .int)
  | 3 => .int
  | 4 => .int
  | _ => .int
theorem nmX0 : ∀ a, a < 6 → ∀ b, b < 6 → a ≠ b → (TX0 a).2.1 ≠ (TX0 b).2.1 := by decide +kernel
theorem tyX0_ok : ∀ k, k < 6 → parseFieldDescriptor (TX0 k).2.2.1 = some (tyX0 k) := by decide +kernel
def RX1 : String := "QuarrelWindows$Outlook"
def TX1 : u_T := fun k => match k with
  | 0 => ("QuarrelWindows$Outlook", "trial", "LQuarrelWindows$Square;", true)
  | 1 => ("QuarrelWindows$Outlook", "settledBehind", "I", false)
  | 2 => ("QuarrelWindows$Outlook", "wallPair", "I", false)
  | 3 => ("QuarrelWindows$Outlook", "wallRiver", "I", false)
  | 4 => ("QuarrelWindows$Outlook", "summerStares", "I", false)
  | 5 => ("QuarrelWindows$Outlook", "summerTurns", "I", false)
  | _ => ("QuarrelWindows$Outlook", "seed", "I", false)
def tyX1 : Nat → FieldType := fun k => match k with
  | 0 => .object "QuarrelWindows$Square"
  | 1 => .int
  | 2 => .int
  | 3 => .int
  | 4 => .int
  | 5 => .int
  | _ => .int
theorem nmX1 : ∀ a, a < 7 → ∀ b, b < 7 → a ≠ b → (TX1 a).2.1 ≠ (TX1 b).2.1 := by decide +kernel
theorem tyX1_ok : ∀ k, k < 7 → parseFieldDescriptor (TX1 k).2.2.1 = some (tyX1 k) := by decide +kernel
def RX2 : String := "QuarrelWindows$Page"
def TX2 : u_T := fun k => match k with
  | 0 => ("QuarrelWindows$Page", "letters", "[I", true)
  | _ => ("QuarrelWindows$Page", "length", "I", false)
def tyX2 : Nat → FieldType := fun k => match k with
  | 0 => .array .int
  | _ => .int
theorem nmX2 : ∀ a, a < 2 → ∀ b, b < 2 → a ≠ b → (TX2 a).2.1 ≠ (TX2 b).2.1 := by decide +kernel
theorem tyX2_ok : ∀ k, k < 2 → parseFieldDescriptor (TX2 k).2.2.1 = some (tyX2 k) := by decide +kernel
def RX3 : String := "QuarrelWindows$Peacemaker"
def TX3 : u_T := fun k => match k with
  | 0 => ("QuarrelWindows$Peacemaker", "start", "LQuarrelWindows$Square;", true)
  | 1 => ("QuarrelWindows$Peacemaker", "first", "LQuarrelWindows$Square;", true)
  | 2 => ("QuarrelWindows$Peacemaker", "second", "LQuarrelWindows$Square;", true)
  | 3 => ("QuarrelWindows$Peacemaker", "third", "LQuarrelWindows$Square;", true)
  | 4 => ("QuarrelWindows$Peacemaker", "tried", "[I", true)
  | 5 => ("QuarrelWindows$Peacemaker", "best", "[I", true)
  | 6 => ("QuarrelWindows$Peacemaker", "fewest", "I", false)
  | 7 => ("QuarrelWindows$Peacemaker", "wanted", "I", false)
  | _ => ("QuarrelWindows$Peacemaker", "mornings", "I", false)
def tyX3 : Nat → FieldType := fun k => match k with
  | 0 => .object "QuarrelWindows$Square"
  | 1 => .object "QuarrelWindows$Square"
  | 2 => .object "QuarrelWindows$Square"
  | 3 => .object "QuarrelWindows$Square"
  | 4 => .array .int
  | 5 => .array .int
  | 6 => .int
  | 7 => .int
  | _ => .int
theorem nmX3 : ∀ a, a < 9 → ∀ b, b < 9 → a ≠ b → (TX3 a).2.1 ≠ (TX3 b).2.1 := by decide +kernel
theorem tyX3_ok : ∀ k, k < 9 → parseFieldDescriptor (TX3 k).2.2.1 = some (tyX3 k) := by decide +kernel
def RX4 : String := "QuarrelWindows$Sights"
def TX4 : u_T := fun k => match k with
  | 0 => ("QuarrelWindows$Sights", "houses", "[I", true)
  | 1 => ("QuarrelWindows$Sights", "faces", "[I", true)
  | 2 => ("QuarrelWindows$Sights", "mornings", "[I", true)
  | _ => ("QuarrelWindows$Sights", "length", "I", false)
def tyX4 : Nat → FieldType := fun k => match k with
  | 0 => .array .int
  | 1 => .array .int
  | 2 => .array .int
  | _ => .int
theorem nmX4 : ∀ a, a < 4 → ∀ b, b < 4 → a ≠ b → (TX4 a).2.1 ≠ (TX4 b).2.1 := by decide +kernel
theorem tyX4_ok : ∀ k, k < 4 → parseFieldDescriptor (TX4 k).2.2.1 = some (tyX4 k) := by decide +kernel
def RX5 : String := "QuarrelWindows$Square"
def TX5 : u_T := fun k => match k with
  | 0 => ("QuarrelWindows$Square", "kinds", "[I", true)
  | 1 => ("QuarrelWindows$Square", "views", "[I", true)
  | 2 => ("QuarrelWindows$Square", "fronts", "[I", true)
  | 3 => ("QuarrelWindows$Square", "torn", "[I", true)
  | 4 => ("QuarrelWindows$Square", "costs", "[I", true)
  | 5 => ("QuarrelWindows$Square", "angers", "[I", true)
  | 6 => ("QuarrelWindows$Square", "walls", "[I", true)
  | 7 => ("QuarrelWindows$Square", "houses", "I", false)
  | 8 => ("QuarrelWindows$Square", "mornings", "I", false)
  | 9 => ("QuarrelWindows$Square", "turned", "I", false)
  | 10 => ("QuarrelWindows$Square", "quarrels", "I", false)
  | _ => ("QuarrelWindows$Square", "peaces", "I", false)
def tyX5 : Nat → FieldType := fun k => match k with
  | 0 => .array .int
  | 1 => .array .int
  | 2 => .array .int
  | 3 => .array .int
  | 4 => .array .int
  | 5 => .array .int
  | 6 => .array .int
  | 7 => .int
  | 8 => .int
  | 9 => .int
  | 10 => .int
  | _ => .int
theorem nmX5 : ∀ a, a < 12 → ∀ b, b < 12 → a ≠ b → (TX5 a).2.1 ≠ (TX5 b).2.1 := by decide +kernel
theorem tyX5_ok : ∀ k, k < 12 → parseFieldDescriptor (TX5 k).2.2.1 = some (tyX5 k) := by decide +kernel
def RX6 : String := "QuarrelWindows"
def TX6 : u_T := fun k => match k with
  | 0 => ("QuarrelWindows", "page", "LQuarrelWindows$Page;", true)
  | 1 => ("QuarrelWindows", "now", "LQuarrelWindows$Square;", true)
  | 2 => ("QuarrelWindows", "kept", "LQuarrelWindows$Square;", true)
  | 3 => ("QuarrelWindows", "seen", "LQuarrelWindows$Sights;", true)
  | 4 => ("QuarrelWindows", "keptSeen", "LQuarrelWindows$Sights;", true)
  | 5 => ("QuarrelWindows", "outlook", "LQuarrelWindows$Outlook;", true)
  | 6 => ("QuarrelWindows", "peacemaker", "LQuarrelWindows$Peacemaker;", true)
  | 7 => ("QuarrelWindows", "guess", "LQuarrelWindows$Guess;", true)
  | 8 => ("QuarrelWindows", "hasImage", "Z", false)
  | 9 => ("QuarrelWindows", "squaresRead", "I", false)
  | 10 => ("QuarrelWindows", "calmsDone", "I", false)
  | _ => ("QuarrelWindows", "arbitersDone", "I", false)
def tyX6 : Nat → FieldType := fun k => match k with
  | 0 => .object "QuarrelWindows$Page"
  | 1 => .object "QuarrelWindows$Square"
  | 2 => .object "QuarrelWindows$Square"
  | 3 => .object "QuarrelWindows$Sights"
  | 4 => .object "QuarrelWindows$Sights"
  | 5 => .object "QuarrelWindows$Outlook"
  | 6 => .object "QuarrelWindows$Peacemaker"
  | 7 => .object "QuarrelWindows$Guess"
  | 8 => .boolean
  | 9 => .int
  | 10 => .int
  | _ => .int
theorem nmX6 : ∀ a, a < 12 → ∀ b, b < 12 → a ≠ b → (TX6 a).2.1 ≠ (TX6 b).2.1 := by decide +kernel
theorem tyX6_ok : ∀ k, k < 12 → parseFieldDescriptor (TX6 k).2.2.1 = some (tyX6 k) := by decide +kernel
def RX7 : String := "QuarrelWindowsModel"
def TX7 : u_T := fun k => match k with
  | 0 => ("QuarrelWindowsModel", "page", "[I", true)
  | 1 => ("QuarrelWindowsModel", "pageMany", "I", false)
  | 2 => ("QuarrelWindowsModel", "endAt", "I", false)
  | 3 => ("QuarrelWindowsModel", "houses", "I", false)
  | 4 => ("QuarrelWindowsModel", "mornings", "I", false)
  | 5 => ("QuarrelWindowsModel", "turned", "I", false)
  | 6 => ("QuarrelWindowsModel", "quarrels", "I", false)
  | 7 => ("QuarrelWindowsModel", "peaces", "I", false)
  | 8 => ("QuarrelWindowsModel", "squaresRead", "I", false)
  | 9 => ("QuarrelWindowsModel", "kinds", "[I", true)
  | 10 => ("QuarrelWindowsModel", "views", "[I", true)
  | 11 => ("QuarrelWindowsModel", "torn", "[I", true)
  | 12 => ("QuarrelWindowsModel", "costs", "[I", true)
  | 13 => ("QuarrelWindowsModel", "angers", "[I", true)
  | 14 => ("QuarrelWindowsModel", "wallsUp", "[I", true)
  | 15 => ("QuarrelWindowsModel", "faces", "[I", true)
  | 16 => ("QuarrelWindowsModel", "lineRow", "[I", true)
  | 17 => ("QuarrelWindowsModel", "ahead", "[I", true)
  | 18 => ("QuarrelWindowsModel", "tableWas", "[I", true)
  | 19 => ("QuarrelWindowsModel", "work", "[I", true)
  | 20 => ("QuarrelWindowsModel", "calmsDone", "I", false)
  | 21 => ("QuarrelWindowsModel", "best", "[I", true)
  | 22 => ("QuarrelWindowsModel", "row", "[I", true)
  | 23 => ("QuarrelWindowsModel", "arbitersDone", "I", false)
  | 24 => ("QuarrelWindowsModel", "seenMany", "I", false)
  | 25 => ("QuarrelWindowsModel", "sights", "[I", true)
  | 26 => ("QuarrelWindowsModel", "ways", "[I", true)
  | 27 => ("QuarrelWindowsModel", "may", "[I", true)
  | 28 => ("QuarrelWindowsModel", "parts", "[I", true)
  | 29 => ("QuarrelWindowsModel", "seedNow", "I", false)
  | 30 => ("QuarrelWindowsModel", "keptSquare", "I", false)
  | 31 => ("QuarrelWindowsModel", "keptMornings", "I", false)
  | 32 => ("QuarrelWindowsModel", "keptTurned", "I", false)
  | 33 => ("QuarrelWindowsModel", "keptQuarrels", "I", false)
  | 34 => ("QuarrelWindowsModel", "keptPeaces", "I", false)
  | 35 => ("QuarrelWindowsModel", "keptSeen", "I", false)
  | 36 => ("QuarrelWindowsModel", "keptKinds", "[I", true)
  | 37 => ("QuarrelWindowsModel", "keptTorn", "[I", true)
  | 38 => ("QuarrelWindowsModel", "keptCosts", "[I", true)
  | 39 => ("QuarrelWindowsModel", "keptAngers", "[I", true)
  | 40 => ("QuarrelWindowsModel", "keptWalls", "[I", true)
  | 41 => ("QuarrelWindowsModel", "keptSights", "[I", true)
  | _ => ("QuarrelWindowsModel", "hash", "J", false)
def tyX7 : Nat → FieldType := fun k => match k with
  | 0 => .array .int
  | 1 => .int
  | 2 => .int
  | 3 => .int
  | 4 => .int
  | 5 => .int
  | 6 => .int
  | 7 => .int
  | 8 => .int
  | 9 => .array .int
  | 10 => .array .int
  | 11 => .array .int
  | 12 => .array .int
  | 13 => .array .int
  | 14 => .array .int
  | 15 => .array .int
  | 16 => .array .int
  | 17 => .array .int
  | 18 => .array .int
  | 19 => .array .int
  | 20 => .int
  | 21 => .array .int
  | 22 => .array .int
  | 23 => .int
  | 24 => .int
  | 25 => .array .int
  | 26 => .array .int
  | 27 => .array .int
  | 28 => .array .int
  | 29 => .int
  | 30 => .int
  | 31 => .int
  | 32 => .int
  | 33 => .int
  | 34 => .int
  | 35 => .int
  | 36 => .array .int
  | 37 => .array .int
  | 38 => .array .int
  | 39 => .array .int
  | 40 => .array .int
  | 41 => .array .int
  | _ => .long
theorem nmX7 : ∀ a, a < 43 → ∀ b, b < 43 → a ≠ b → (TX7 a).2.1 ≠ (TX7 b).2.1 := by decide +kernel
theorem tyX7_ok : ∀ k, k < 43 → parseFieldDescriptor (TX7 k).2.2.1 = some (tyX7 k) := by decide +kernel
abbrev wcl : List vw_C := [(RX0, TX0, 6), (RX1, TX1, 7), (RX2, TX2, 2), (RX3, TX3, 9), (RX4, TX4, 4), (RX5, TX5, 12), (RX6, TX6, 12), (RX7, TX7, 43)]
/-- of each field of each class: 0 an int, 1 a reference (which kind, which number), 2 the long -/
def fkT : List (List (Nat × Nat × Nat)) := [[(1, 5, 8), (1, 23, 1), (1, 25, 1), (0, 0, 0), (0, 0, 0), (0, 0, 0)], [(1, 5, 3), (0, 0, 0), (0, 0, 0), (0, 0, 0), (0, 0, 0), (0, 0, 0), (0, 0, 0)], [(1, 10, 0), (0, 0, 0)], [(1, 5, 4), (1, 5, 5), (1, 5, 6), (1, 5, 7), (1, 21, 0), (1, 22, 0), (0, 0, 0), (0, 0, 0), (0, 0, 0)], [(1, 18, 0), (1, 19, 0), (1, 20, 0), (0, 0, 0)], [(1, 11, 0), (1, 12, 0), (1, 13, 0), (1, 14, 0), (1, 15, 0), (1, 16, 0), (1, 17, 0), (0, 0, 0), (0, 0, 0), (0, 0, 0), (0, 0, 0), (0, 0, 0)], [(1, 2, 1), (1, 5, 1), (1, 5, 2), (1, 4, 1), (1, 4, 2), (1, 1, 1), (1, 3, 1), (1, 0, 1), (0, 0, 0), (0, 0, 0), (0, 0, 0), (0, 0, 0)], [(1, 30, 0), (0, 0, 0), (0, 0, 0), (0, 0, 0), (0, 0, 0), (0, 0, 0), (0, 0, 0), (0, 0, 0), (0, 0, 0), (1, 31, 0), (1, 32, 0), (1, 33, 0), (1, 34, 0), (1, 35, 0), (1, 36, 0), (1, 37, 0), (1, 38, 0), (1, 39, 0), (1, 40, 0), (1, 41, 0), (0, 0, 0), (1, 42, 0), (1, 43, 0), (0, 0, 0), (0, 0, 0), (1, 44, 0), (1, 45, 0), (1, 46, 0), (1, 47, 0), (0, 0, 0), (0, 0, 0), (0, 0, 0), (0, 0, 0), (0, 0, 0), (0, 0, 0), (0, 0, 0), (1, 48, 0), (1, 49, 0), (1, 50, 0), (1, 51, 0), (1, 52, 0), (1, 53, 0), (2, 0, 0)]]
def fkd (t k : Nat) : Nat × Nat × Nat := (fkT.getD t []).getD k (3, 0, 0)
/-- the cells of the world: kind and number -/
def wcells : List (Nat × Nat) := [(0, 0), (1, 0), (2, 0), (3, 0), (4, 0), (4, 1), (5, 0), (5, 1), (5, 2), (5, 3), (5, 4), (5, 5), (5, 6), (5, 7), (6, 0), (7, 0), (10, 0), (11, 0), (12, 0), (13, 0), (14, 0), (15, 0), (16, 0), (17, 0), (11, 1), (12, 1), (13, 1), (14, 1), (15, 1), (16, 1), (17, 1), (11, 2), (12, 2), (13, 2), (14, 2), (15, 2), (16, 2), (17, 2), (11, 3), (12, 3), (13, 3), (14, 3), (15, 3), (16, 3), (17, 3), (11, 4), (12, 4), (13, 4), (14, 4), (15, 4), (16, 4), (17, 4), (11, 5), (12, 5), (13, 5), (14, 5), (15, 5), (16, 5), (17, 5), (11, 6), (12, 6), (13, 6), (14, 6), (15, 6), (16, 6), (17, 6), (11, 7), (12, 7), (13, 7), (14, 7), (15, 7), (16, 7), (17, 7), (18, 0), (19, 0), (20, 0), (18, 1), (19, 1), (20, 1), (21, 0), (22, 0), (23, 0), (24, 0), (24, 1), (24, 2), (24, 3), (24, 4), (24, 5), (25, 0), (26, 0), (26, 1), (26, 2), (26, 3), (26, 4), (26, 5), (30, 0), (31, 0), (32, 0), (33, 0), (34, 0), (35, 0), (36, 0), (37, 0), (38, 0), (39, 0), (40, 0), (41, 0), (42, 0), (43, 0), (44, 0), (45, 0), (46, 0), (47, 0), (48, 0), (49, 0), (50, 0), (51, 0), (52, 0), (53, 0)]
abbrev MRow : Type := MethodName × ByteArray × Nat × Option FieldType × Bool × Nat
def mtab_0 : List MRow := [(⟨"QuarrelWindows$Guess", "find", "(LQuarrelWindows$Square;LQuarrelWindows$Sights;II)V"⟩, prog_2_method_2_code, 6, none, false, 4), (⟨"QuarrelWindows$Guess", "foresee", "()V"⟩, prog_2_method_3_code, 3, none, false, 0), (⟨"QuarrelWindows$Guess", "take", "(II)V"⟩, prog_2_method_4_code, 4, none, false, 2), (⟨"QuarrelWindows$Guess", "found", "(I)I"⟩, prog_2_method_5_code, 2, (some .int), false, 1), (⟨"QuarrelWindows$Guess", "bestLook", "()I"⟩, prog_2_method_6_code, 5, (some .int), false, 0), (⟨"QuarrelWindows$Guess", "worstOf", "([I)I"⟩, prog_2_method_7_code, 6, (some .int), true, 1), (⟨"QuarrelWindows$Outlook", "settle", "(LQuarrelWindows$Square;)V"⟩, prog_3_method_2_code, 4, none, false, 1), (⟨"QuarrelWindows$Outlook", "settled", "(I)I"⟩, prog_3_method_3_code, 3, (some .int), false, 1), (⟨"QuarrelWindows$Outlook", "leastGrudge", "(LQuarrelWindows$Square;III)I"⟩, prog_3_method_4_code, 6, (some .int), false, 4), (⟨"QuarrelWindows$Outlook", "findWall", "(LQuarrelWindows$Square;I)V"⟩, prog_3_method_5_code, 6, none, false, 2), (⟨"QuarrelWindows$Outlook", "weighWall", "(II)V"⟩, prog_3_method_6_code, 3, none, false, 2), (⟨"QuarrelWindows$Outlook", "walled", "(I)I"⟩, prog_3_method_7_code, 2, (some .int), false, 1), (⟨"QuarrelWindows$Outlook", "summer", "(LQuarrelWindows$Square;II)V"⟩, prog_3_method_8_code, 8, none, false, 3), (⟨"QuarrelWindows$Outlook", "draw", "(I)I"⟩, prog_3_method_9_code, 2, (some .int), false, 1), (⟨"QuarrelWindows$Outlook", "summered", "(I)I"⟩, prog_3_method_10_code, 2, (some .int), false, 1), (⟨"QuarrelWindows$Page", "isFull", "()Z"⟩, prog_4_method_2_code, 1, (some .boolean), false, 0), (⟨"QuarrelWindows$Page", "size", "()I"⟩, prog_4_method_3_code, 1, (some .int), false, 0), (⟨"QuarrelWindows$Page", "add", "(I)I"⟩, prog_4_method_4_code, 2, (some .int), false, 1), (⟨"QuarrelWindows$Page", "clear", "()I"⟩, prog_4_method_5_code, 2, (some .int), false, 0), (⟨"QuarrelWindows$Page", "faultPlace", "()I"⟩, prog_4_method_6_code, 4, (some .int), false, 0), (⟨"QuarrelWindows$Page", "isSquare", "()Z"⟩, prog_4_method_7_code, 2, (some .boolean), false, 0), (⟨"QuarrelWindows$Page", "fitsHouses", "(I)Z"⟩, prog_4_method_8_code, 3, (some .boolean), false, 1), (⟨"QuarrelWindows$Page", "mayFollow", "(II)Z"⟩, prog_4_method_9_code, 2, (some .boolean), true, 2), (⟨"QuarrelWindows$Page", "fitsAngers", "(II)Z"⟩, prog_4_method_10_code, 6, (some .boolean), false, 2), (⟨"QuarrelWindows$Page", "housesEnd", "()I"⟩, prog_4_method_11_code, 2, (some .int), false, 0), (⟨"QuarrelWindows$Page", "countHouses", "()I"⟩, prog_4_method_12_code, 1, (some .int), false, 0), (⟨"QuarrelWindows$Page", "kindOf", "(I)I"⟩, prog_4_method_13_code, 2, (some .int), false, 1), (⟨"QuarrelWindows$Page", "viewOf", "(I)I"⟩, prog_4_method_14_code, 2, (some .int), false, 1), (⟨"QuarrelWindows$Page", "countTold", "()I"⟩, prog_4_method_15_code, 1, (some .int), false, 0), (⟨"QuarrelWindows$Page", "told", "(II)I"⟩, prog_4_method_16_code, 3, (some .int), false, 2), (⟨"QuarrelWindows$Page", "letterAt", "(I)I"⟩, prog_4_method_17_code, 2, (some .int), false, 1), (⟨"QuarrelWindows$Page", "kindNamed", "(I)I"⟩, prog_4_method_18_code, 1, (some .int), true, 1), (⟨"QuarrelWindows$Page", "digitOf", "(I)I"⟩, prog_4_method_19_code, 1, (some .int), true, 1), (⟨"QuarrelWindows$Peacemaker", "findCalm", "(LQuarrelWindows$Square;II)V"⟩, prog_5_method_2_code, 5, none, false, 3), (⟨"QuarrelWindows$Peacemaker", "calms", "(LQuarrelWindows$Peacemaker;III)Z"⟩, prog_5_method_3_code, 7, (some .boolean), true, 4), (⟨"QuarrelWindows$Peacemaker", "isCalm", "(LQuarrelWindows$Square;)Z"⟩, prog_5_method_4_code, 3, (some .boolean), false, 1), (⟨"QuarrelWindows$Peacemaker", "arbitrate", "(LQuarrelWindows$Square;I)V"⟩, prog_5_method_5_code, 3, none, false, 2), (⟨"QuarrelWindows$Peacemaker", "arbits", "(LQuarrelWindows$Peacemaker;I)V"⟩, prog_5_method_6_code, 5, none, true, 2), (⟨"QuarrelWindows$Peacemaker", "weigh", "(I)V"⟩, prog_5_method_7_code, 2, none, false, 1), (⟨"QuarrelWindows$Peacemaker", "makesPeace", "(LQuarrelWindows$Square;LQuarrelWindows$Square;I)Z"⟩, prog_5_method_8_code, 5, (some .boolean), true, 3), (⟨"QuarrelWindows$Peacemaker", "behind", "(I)LQuarrelWindows$Square;"⟩, prog_5_method_9_code, 2, (some (.object "QuarrelWindows$Square")), false, 1), (⟨"QuarrelWindows$Peacemaker", "found", "(I)I"⟩, prog_5_method_10_code, 3, (some .int), false, 1), (⟨"QuarrelWindows$Sights", "isFull", "()Z"⟩, prog_6_method_2_code, 1, (some .boolean), false, 0), (⟨"QuarrelWindows$Sights", "size", "()I"⟩, prog_6_method_3_code, 1, (some .int), false, 0), (⟨"QuarrelWindows$Sights", "add", "(III)I"⟩, prog_6_method_4_code, 4, (some .int), false, 3), (⟨"QuarrelWindows$Sights", "clear", "()I"⟩, prog_6_method_5_code, 2, (some .int), false, 0), (⟨"QuarrelWindows$Sights", "copyFrom", "(LQuarrelWindows$Sights;)V"⟩, prog_6_method_6_code, 2, none, false, 1), (⟨"QuarrelWindows$Sights", "isSo", "([[I)Z"⟩, prog_6_method_7_code, 3, (some .boolean), false, 1), (⟨"QuarrelWindows$Square", "readFrom", "(LQuarrelWindows$Page;)V"⟩, prog_7_method_2_code, 5, none, false, 1), (⟨"QuarrelWindows$Square", "copyFrom", "(LQuarrelWindows$Square;)V"⟩, prog_7_method_3_code, 2, none, false, 1), (⟨"QuarrelWindows$Square", "stands", "()Z"⟩, prog_7_method_4_code, 1, (some .boolean), false, 0), (⟨"QuarrelWindows$Square", "size", "()I"⟩, prog_7_method_5_code, 1, (some .int), false, 0), (⟨"QuarrelWindows$Square", "isHouse", "(I)Z"⟩, prog_7_method_6_code, 2, (some .boolean), false, 1), (⟨"QuarrelWindows$Square", "areTwo", "(II)Z"⟩, prog_7_method_7_code, 3, (some .boolean), false, 2), (⟨"QuarrelWindows$Square", "kindOf", "(I)I"⟩, prog_7_method_8_code, 2, (some .int), false, 1), (⟨"QuarrelWindows$Square", "viewOf", "(I)I"⟩, prog_7_method_9_code, 2, (some .int), false, 1), (⟨"QuarrelWindows$Square", "frontOf", "(I)I"⟩, prog_7_method_10_code, 2, (some .int), false, 1), (⟨"QuarrelWindows$Square", "tornOf", "(I)I"⟩, prog_7_method_11_code, 2, (some .int), false, 1), (⟨"QuarrelWindows$Square", "costOf", "(I)I"⟩, prog_7_method_12_code, 2, (some .int), false, 1), (⟨"QuarrelWindows$Square", "frontersOf", "(I)I"⟩, prog_7_method_13_code, 4, (some .int), false, 1)]
def mtab_1 : List MRow := [(⟨"QuarrelWindows$Square", "angersOf", "(I)I"⟩, prog_7_method_14_code, 4, (some .int), false, 1), (⟨"QuarrelWindows$Square", "isStaring", "(I)Z"⟩, prog_7_method_15_code, 3, (some .boolean), false, 1), (⟨"QuarrelWindows$Square", "ringSize", "(I)I"⟩, prog_7_method_16_code, 4, (some .int), false, 1), (⟨"QuarrelWindows$Square", "onLine", "(II)I"⟩, prog_7_method_17_code, 6, (some .int), false, 2), (⟨"QuarrelWindows$Square", "lineLength", "(I)I"⟩, prog_7_method_18_code, 4, (some .int), false, 1), (⟨"QuarrelWindows$Square", "lineEnd", "(I)I"⟩, prog_7_method_19_code, 2, (some .int), false, 1), (⟨"QuarrelWindows$Square", "angerAt", "(II)I"⟩, prog_7_method_20_code, 3, (some .int), false, 2), (⟨"QuarrelWindows$Square", "wallBetween", "(II)I"⟩, prog_7_method_21_code, 3, (some .int), false, 2), (⟨"QuarrelWindows$Square", "countAngers", "()I"⟩, prog_7_method_22_code, 3, (some .int), false, 0), (⟨"QuarrelWindows$Square", "sumAngers", "()I"⟩, prog_7_method_23_code, 3, (some .int), false, 0), (⟨"QuarrelWindows$Square", "countAtRiver", "()I"⟩, prog_7_method_24_code, 3, (some .int), false, 0), (⟨"QuarrelWindows$Square", "worthOfViews", "()I"⟩, prog_7_method_25_code, 3, (some .int), false, 0), (⟨"QuarrelWindows$Square", "countStares", "()I"⟩, prog_7_method_26_code, 3, (some .int), false, 0), (⟨"QuarrelWindows$Square", "countRings", "()I"⟩, prog_7_method_27_code, 4, (some .int), false, 0), (⟨"QuarrelWindows$Square", "countPriests", "()I"⟩, prog_7_method_28_code, 3, (some .int), false, 0), (⟨"QuarrelWindows$Square", "countWalls", "()I"⟩, prog_7_method_29_code, 3, (some .int), false, 0), (⟨"QuarrelWindows$Square", "sumTorn", "()I"⟩, prog_7_method_30_code, 3, (some .int), false, 0), (⟨"QuarrelWindows$Square", "sumCosts", "()I"⟩, prog_7_method_31_code, 3, (some .int), false, 0), (⟨"QuarrelWindows$Square", "leastInRing", "()I"⟩, prog_7_method_32_code, 2, (some .int), false, 0), (⟨"QuarrelWindows$Square", "provoke", "(III)V"⟩, prog_7_method_33_code, 4, none, false, 3), (⟨"QuarrelWindows$Square", "setAnger", "(III)V"⟩, prog_7_method_34_code, 4, none, false, 3), (⟨"QuarrelWindows$Square", "reconcile", "(II)V"⟩, prog_7_method_35_code, 3, none, false, 2), (⟨"QuarrelWindows$Square", "setWall", "(III)V"⟩, prog_7_method_36_code, 4, none, false, 3), (⟨"QuarrelWindows$Square", "moveIn", "(II)V"⟩, prog_7_method_37_code, 4, none, false, 2), (⟨"QuarrelWindows$Square", "endRing", "(I)I"⟩, prog_7_method_38_code, 6, (some .int), false, 1), (⟨"QuarrelWindows$Square", "liveMorning", "()I"⟩, prog_7_method_39_code, 2, (some .int), false, 0), (⟨"QuarrelWindows$Square", "changeAngers", "()I"⟩, prog_7_method_40_code, 3, (some .int), false, 0), (⟨"QuarrelWindows$Square", "letPass", "(I)V"⟩, prog_7_method_41_code, 3, none, false, 1), (⟨"QuarrelWindows$Square", "change", "(II)I"⟩, prog_7_method_42_code, 5, (some .int), false, 2), (⟨"QuarrelWindows$Square", "growth", "(IZ)I"⟩, prog_7_method_43_code, 2, (some .int), true, 2), (⟨"QuarrelWindows$Square", "turnAll", "()I"⟩, prog_7_method_44_code, 4, (some .int), false, 0), (⟨"QuarrelWindows$Square", "pickFront", "(I)I"⟩, prog_7_method_45_code, 8, (some .int), false, 1), (⟨"QuarrelWindows$Square", "ringBits", "(I)I"⟩, prog_7_method_46_code, 5, (some .int), false, 1), (⟨"QuarrelWindows$Square", "bounded", "(I)I"⟩, prog_7_method_47_code, 1, (some .int), true, 1), (⟨"QuarrelWindows$Square", "cell", "(II)I"⟩, prog_7_method_48_code, 2, (some .int), true, 2), (⟨"QuarrelWindows", "letter", "(I)I"⟩, prog_1_method_2_code, 2, (some .int), false, 1), (⟨"QuarrelWindows", "blank", "()I"⟩, prog_1_method_3_code, 1, (some .int), false, 0), (⟨"QuarrelWindows", "fault", "()I"⟩, prog_1_method_4_code, 1, (some .int), false, 0), (⟨"QuarrelWindows", "square", "()I"⟩, prog_1_method_5_code, 1, (some .int), false, 0), (⟨"QuarrelWindows", "house", "(II)I"⟩, prog_1_method_6_code, 3, (some .int), false, 2), (⟨"QuarrelWindows", "as", "(II)I"⟩, prog_1_method_7_code, 3, (some .int), false, 2), (⟨"QuarrelWindows", "anger", "(II)I"⟩, prog_1_method_8_code, 3, (some .int), false, 2), (⟨"QuarrelWindows", "line", "(II)I"⟩, prog_1_method_9_code, 3, (some .int), false, 2), (⟨"QuarrelWindows", "wall", "(II)I"⟩, prog_1_method_10_code, 3, (some .int), false, 2), (⟨"QuarrelWindows", "quarrel", "(III)I"⟩, prog_1_method_11_code, 4, (some .int), false, 3), (⟨"QuarrelWindows", "peace", "(II)I"⟩, prog_1_method_12_code, 4, (some .int), false, 2), (⟨"QuarrelWindows", "build", "(IIZ)I"⟩, prog_1_method_13_code, 5, (some .int), false, 3), (⟨"QuarrelWindows", "tenant", "(II)I"⟩, prog_1_method_14_code, 4, (some .int), false, 2), (⟨"QuarrelWindows", "court", "()I"⟩, prog_1_method_15_code, 2, (some .int), false, 0), (⟨"QuarrelWindows", "morning", "()I"⟩, prog_1_method_16_code, 1, (some .int), false, 0), (⟨"QuarrelWindows", "settles", "(I)I"⟩, prog_1_method_17_code, 2, (some .int), false, 1), (⟨"QuarrelWindows", "calm", "(III)I"⟩, prog_1_method_18_code, 4, (some .int), false, 3), (⟨"QuarrelWindows", "arbiter", "(II)I"⟩, prog_1_method_19_code, 3, (some .int), false, 2), (⟨"QuarrelWindows", "grudge", "(III)I"⟩, prog_1_method_20_code, 4, (some .int), false, 3), (⟨"QuarrelWindows", "walls", "(II)I"⟩, prog_1_method_21_code, 3, (some .int), false, 2), (⟨"QuarrelWindows", "see", "(III)I"⟩, prog_1_method_22_code, 4, (some .int), false, 3), (⟨"QuarrelWindows", "forget", "()I"⟩, prog_1_method_23_code, 1, (some .int), false, 0), (⟨"QuarrelWindows", "span", "(III)I"⟩, prog_1_method_24_code, 4, (some .int), false, 3), (⟨"QuarrelWindows", "summers", "(III)I"⟩, prog_1_method_25_code, 4, (some .int), false, 3), (⟨"QuarrelWindows", "image", "()I"⟩, prog_1_method_26_code, 1, (some .int), false, 0)]
def mtab_2 : List MRow := [(⟨"QuarrelWindows", "restore", "()I"⟩, prog_1_method_27_code, 1, (some .int), false, 0), (⟨"QuarrelWindows", "count", "(I)I"⟩, prog_1_method_28_code, 2, (some .int), false, 1), (⟨"QuarrelWindows", "digest", "()J"⟩, prog_1_method_29_code, 4, (some .long), false, 0), (⟨"QuarrelWindows", "mixHouse", "(JI)J"⟩, prog_1_method_30_code, 7, (some .long), false, 2), (⟨"QuarrelWindows", "mixWouldBe", "(J)J"⟩, prog_1_method_31_code, 6, (some .long), false, 1), (⟨"QuarrelWindows", "mix", "(JI)J"⟩, prog_1_method_32_code, 3, (some .long), true, 2), (⟨"QuarrelWindows", "isKind", "(I)Z"⟩, prog_1_method_33_code, 1, (some .boolean), true, 1), (⟨"QuarrelWindows", "isSuch", "(II)Z"⟩, prog_1_method_34_code, 2, (some .boolean), true, 2), (⟨"QuarrelWindows", "isSoon", "(I)Z"⟩, prog_1_method_35_code, 1, (some .boolean), true, 1), (⟨"QuarrelWindows", "isPeaceTell", "(I)Z"⟩, prog_1_method_36_code, 1, (some .boolean), true, 1), (⟨"QuarrelWindows", "pairNumber", "(I)I"⟩, prog_1_method_37_code, 1, (some .int), true, 1), (⟨"QuarrelWindowsModel", "in", "(JJJ)Z"⟩, prog_9_method_2_code, 6, (some .boolean), true, 3), (⟨"QuarrelWindowsModel", "copy", "([I[I)V"⟩, prog_9_method_3_code, 3, none, true, 2), (⟨"QuarrelWindowsModel", "letter", "(I)I"⟩, prog_9_method_4_code, 2, (some .int), false, 1), (⟨"QuarrelWindowsModel", "blank", "()I"⟩, prog_9_method_5_code, 2, (some .int), false, 0), (⟨"QuarrelWindowsModel", "kindBy", "(I)I"⟩, prog_9_method_6_code, 1, (some .int), true, 1), (⟨"QuarrelWindowsModel", "isHouseLetter", "(I)Z"⟩, prog_9_method_7_code, 3, (some .boolean), false, 1), (⟨"QuarrelWindowsModel", "isAngerLetter", "(I)Z"⟩, prog_9_method_8_code, 5, (some .boolean), false, 1), (⟨"QuarrelWindowsModel", "faultOf", "()I"⟩, prog_9_method_9_code, 3, (some .int), false, 0), (⟨"QuarrelWindowsModel", "fault", "()I"⟩, prog_9_method_10_code, 1, (some .int), false, 0), (⟨"QuarrelWindowsModel", "topped", "(I)I"⟩, prog_9_method_11_code, 1, (some .int), true, 1), (⟨"QuarrelWindowsModel", "square", "()I"⟩, prog_9_method_12_code, 3, (some .int), false, 0), (⟨"QuarrelWindowsModel", "lacks", "()Z"⟩, prog_9_method_13_code, 1, (some .boolean), false, 0), (⟨"QuarrelWindowsModel", "isHouse", "(I)Z"⟩, prog_9_method_14_code, 2, (some .boolean), false, 1), (⟨"QuarrelWindowsModel", "areTwo", "(II)Z"⟩, prog_9_method_15_code, 3, (some .boolean), false, 2), (⟨"QuarrelWindowsModel", "facesIn", "([II)I"⟩, prog_9_method_16_code, 8, (some .int), false, 2), (⟨"QuarrelWindowsModel", "layFaces", "([I)V"⟩, prog_9_method_17_code, 3, none, false, 1), (⟨"QuarrelWindowsModel", "stares", "(I)Z"⟩, prog_9_method_18_code, 2, (some .boolean), false, 1), (⟨"QuarrelWindowsModel", "staresMany", "()I"⟩, prog_9_method_19_code, 3, (some .int), false, 0), (⟨"QuarrelWindowsModel", "ringOf", "(I)I"⟩, prog_9_method_20_code, 4, (some .int), false, 1), (⟨"QuarrelWindowsModel", "leadsRing", "(I)Z"⟩, prog_9_method_21_code, 4, (some .boolean), false, 1), (⟨"QuarrelWindowsModel", "ringsMany", "()I"⟩, prog_9_method_22_code, 3, (some .int), false, 0), (⟨"QuarrelWindowsModel", "facedBy", "(I)I"⟩, prog_9_method_23_code, 4, (some .int), false, 1), (⟨"QuarrelWindowsModel", "riverMany", "()I"⟩, prog_9_method_24_code, 3, (some .int), false, 0), (⟨"QuarrelWindowsModel", "layLine", "(I)I"⟩, prog_9_method_25_code, 5, (some .int), false, 1), (⟨"QuarrelWindowsModel", "angerAll", "(I)I"⟩, prog_9_method_26_code, 4, (some .int), false, 1), (⟨"QuarrelWindowsModel", "tellHouse", "(II)I"⟩, prog_9_method_27_code, 3, (some .int), false, 2), (⟨"QuarrelWindowsModel", "house", "(II)I"⟩, prog_9_method_28_code, 3, (some .int), false, 2), (⟨"QuarrelWindowsModel", "as", "(II)I"⟩, prog_9_method_29_code, 4, (some .int), false, 2), (⟨"QuarrelWindowsModel", "anger", "(II)I"⟩, prog_9_method_30_code, 3, (some .int), false, 2), (⟨"QuarrelWindowsModel", "lineAt", "(II)I"⟩, prog_9_method_31_code, 3, (some .int), false, 2), (⟨"QuarrelWindowsModel", "line", "(II)I"⟩, prog_9_method_32_code, 3, (some .int), false, 2), (⟨"QuarrelWindowsModel", "wall", "(II)I"⟩, prog_9_method_33_code, 3, (some .int), false, 2), (⟨"QuarrelWindowsModel", "quarrel", "(III)I"⟩, prog_9_method_34_code, 4, (some .int), false, 3), (⟨"QuarrelWindowsModel", "peace", "(II)I"⟩, prog_9_method_35_code, 4, (some .int), false, 2), (⟨"QuarrelWindowsModel", "layWall", "(III)V"⟩, prog_9_method_36_code, 4, none, false, 3), (⟨"QuarrelWindowsModel", "build", "(IIZ)I"⟩, prog_9_method_37_code, 5, (some .int), false, 3), (⟨"QuarrelWindowsModel", "tenant", "(II)I"⟩, prog_9_method_38_code, 5, (some .int), false, 2), (⟨"QuarrelWindowsModel", "court", "()I"⟩, prog_9_method_39_code, 6, (some .int), false, 0), (⟨"QuarrelWindowsModel", "moreOf", "(II)I"⟩, prog_9_method_40_code, 5, (some .int), false, 2), (⟨"QuarrelWindowsModel", "goMorning", "([I)I"⟩, prog_9_method_41_code, 4, (some .int), false, 1), (⟨"QuarrelWindowsModel", "goMornings", "([II)V"⟩, prog_9_method_42_code, 4, none, false, 2), (⟨"QuarrelWindowsModel", "morning", "()I"⟩, prog_9_method_43_code, 2, (some .int), false, 0), (⟨"QuarrelWindowsModel", "settlesOf", "(I)I"⟩, prog_9_method_44_code, 4, (some .int), false, 1), (⟨"QuarrelWindowsModel", "settles", "(I)I"⟩, prog_9_method_45_code, 2, (some .int), false, 1), (⟨"QuarrelWindowsModel", "pairsMany", "()I"⟩, prog_9_method_46_code, 1, (some .int), false, 0), (⟨"QuarrelWindowsModel", "pairAt", "(I)I"⟩, prog_9_method_47_code, 4, (some .int), false, 1), (⟨"QuarrelWindowsModel", "makePeace", "([II)V"⟩, prog_9_method_48_code, 5, none, false, 2), (⟨"QuarrelWindowsModel", "isCalm", "(II[II)Z"⟩, prog_9_method_49_code, 7, (some .boolean), false, 4), (⟨"QuarrelWindowsModel", "nextRow", "(II)Z"⟩, prog_9_method_50_code, 5, (some .boolean), false, 2)]
def mtab_3 : List MRow := [(⟨"QuarrelWindowsModel", "layCalm", "(II)I"⟩, prog_9_method_51_code, 5, (some .int), false, 2), (⟨"QuarrelWindowsModel", "calmOf", "(III)I"⟩, prog_9_method_52_code, 5, (some .int), false, 3), (⟨"QuarrelWindowsModel", "calm", "(III)I"⟩, prog_9_method_53_code, 4, (some .int), false, 3), (⟨"QuarrelWindowsModel", "wrongBy", "(II)I"⟩, prog_9_method_54_code, 7, (some .int), false, 2), (⟨"QuarrelWindowsModel", "arbiterOf", "(II)I"⟩, prog_9_method_55_code, 8, (some .int), false, 2), (⟨"QuarrelWindowsModel", "arbiter", "(II)I"⟩, prog_9_method_56_code, 3, (some .int), false, 2), (⟨"QuarrelWindowsModel", "grudgeOf", "(III)I"⟩, prog_9_method_57_code, 5, (some .int), false, 3), (⟨"QuarrelWindowsModel", "grudge", "(III)I"⟩, prog_9_method_58_code, 4, (some .int), false, 3), (⟨"QuarrelWindowsModel", "riverBehind", "(I)I"⟩, prog_9_method_59_code, 2, (some .int), false, 1), (⟨"QuarrelWindowsModel", "wallsOf", "(II)I"⟩, prog_9_method_60_code, 9, (some .int), false, 2), (⟨"QuarrelWindowsModel", "walls", "(II)I"⟩, prog_9_method_61_code, 3, (some .int), false, 2), (⟨"QuarrelWindowsModel", "see", "(III)I"⟩, prog_9_method_62_code, 4, (some .int), false, 3), (⟨"QuarrelWindowsModel", "forget", "()I"⟩, prog_9_method_63_code, 2, (some .int), false, 0), (⟨"QuarrelWindowsModel", "laySpan", "(II)V"⟩, prog_9_method_64_code, 7, none, false, 2), (⟨"QuarrelWindowsModel", "spanMany", "()I"⟩, prog_9_method_65_code, 3, (some .int), false, 0), (⟨"QuarrelWindowsModel", "spanLeast", "()I"⟩, prog_9_method_66_code, 2, (some .int), false, 0), (⟨"QuarrelWindowsModel", "spanMost", "()I"⟩, prog_9_method_67_code, 2, (some .int), false, 0), (⟨"QuarrelWindowsModel", "lookOf", "()I"⟩, prog_9_method_68_code, 7, (some .int), false, 0), (⟨"QuarrelWindowsModel", "spanOf", "(III)I"⟩, prog_9_method_69_code, 4, (some .int), false, 3), (⟨"QuarrelWindowsModel", "span", "(III)I"⟩, prog_9_method_70_code, 4, (some .int), false, 3), (⟨"QuarrelWindowsModel", "draw", "(I)I"⟩, prog_9_method_71_code, 2, (some .int), false, 1), (⟨"QuarrelWindowsModel", "summers", "(III)I"⟩, prog_9_method_72_code, 10, (some .int), false, 3), (⟨"QuarrelWindowsModel", "image", "()I"⟩, prog_9_method_73_code, 1, (some .int), false, 0), (⟨"QuarrelWindowsModel", "restore", "()I"⟩, prog_9_method_74_code, 1, (some .int), false, 0), (⟨"QuarrelWindowsModel", "angersAbove", "()I"⟩, prog_9_method_75_code, 3, (some .int), false, 0), (⟨"QuarrelWindowsModel", "sumOf", "([I)I"⟩, prog_9_method_76_code, 4, (some .int), false, 1), (⟨"QuarrelWindowsModel", "viewsNow", "()I"⟩, prog_9_method_77_code, 3, (some .int), false, 0), (⟨"QuarrelWindowsModel", "priestsNow", "()I"⟩, prog_9_method_78_code, 3, (some .int), false, 0), (⟨"QuarrelWindowsModel", "sumHouses", "([I)I"⟩, prog_9_method_79_code, 4, (some .int), false, 1), (⟨"QuarrelWindowsModel", "countOf", "(I)I"⟩, prog_9_method_80_code, 2, (some .int), false, 1), (⟨"QuarrelWindowsModel", "countMore", "(I)I"⟩, prog_9_method_81_code, 2, (some .int), false, 1), (⟨"QuarrelWindowsModel", "count", "(I)I"⟩, prog_9_method_82_code, 2, (some .int), false, 1), (⟨"QuarrelWindowsModel", "say", "(J)V"⟩, prog_9_method_83_code, 3, none, false, 1), (⟨"QuarrelWindowsModel", "sayHouse", "(I)V"⟩, prog_9_method_84_code, 3, none, false, 1), (⟨"QuarrelWindowsModel", "saySquare", "()V"⟩, prog_9_method_85_code, 2, none, false, 0), (⟨"QuarrelWindowsModel", "digest", "()J"⟩, prog_9_method_86_code, 2, (some .long), false, 0), (⟨"java/lang/String", "indexOf", "(I)I"⟩, prog_12_method_79_code, 2, (some .int), false, 1), (⟨"java/lang/String", "indexOf", "(II)I"⟩, prog_12_method_80_code, 3, (some .int), false, 2), (⟨"java/lang/String", "isLatin1", "()Z"⟩, prog_12_method_154_code, 1, (some .boolean), false, 0), (⟨"java/lang/String", "length", "()I"⟩, prog_12_method_54_code, 1, (some .int), false, 0), (⟨"java/lang/String", "coder", "()B"⟩, prog_12_method_152_code, 1, (some .byte), false, 0), (⟨"java/lang/StringLatin1", "indexOf", "([BIII)I"⟩, prog_13_method_22_code, 4, (some .int), true, 4), (⟨"java/lang/StringLatin1", "canEncode", "(I)Z"⟩, prog_13_method_4_code, 1, (some .boolean), true, 1), (⟨"java/lang/StringLatin1", "indexOfChar", "([BIII)I"⟩, prog_13_method_23_code, 6, (some .int), true, 4), (⟨"java/util/Arrays", "fill", "([II)V"⟩, prog_16_method_103_code, 4, none, true, 2)]
def mtab : List MRow := mtab_0 ++ mtab_1 ++ mtab_2 ++ mtab_3
def nestWs : List Jvm.Cond := [(Jvm.Cond.fieldLinkNest "QuarrelWindows$Outlook" (55 : Nat) "QuarrelWindows" "LESSER" "[I" "QuarrelWindows"), (Jvm.Cond.fieldLinkNest "QuarrelWindows$Outlook" (59 : Nat) "QuarrelWindows" "GREATER" "[I" "QuarrelWindows"), (Jvm.Cond.methodLinkNest "QuarrelWindows$Outlook" (77 : Nat) ({ cls := "QuarrelWindows", name := "pairNumber", desc := "(I)I" } : Jvm.MethodName) "QuarrelWindows"), (Jvm.Cond.fieldLinkNest "QuarrelWindows$Peacemaker" (104 : Nat) "QuarrelWindows" "LESSER" "[I" "QuarrelWindows"), (Jvm.Cond.fieldLinkNest "QuarrelWindows$Peacemaker" (107 : Nat) "QuarrelWindows" "GREATER" "[I" "QuarrelWindows"), (Jvm.Cond.methodLinkNest "QuarrelWindows$Peacemaker" (122 : Nat) ({ cls := "QuarrelWindows", name := "pairNumber", desc := "(I)I" } : Jvm.MethodName) "QuarrelWindows"), (Jvm.Cond.fieldLinkNest "QuarrelWindows$Square" (120 : Nat) "QuarrelWindows" "LESSER" "[I" "QuarrelWindows"), (Jvm.Cond.fieldLinkNest "QuarrelWindows$Square" (123 : Nat) "QuarrelWindows" "GREATER" "[I" "QuarrelWindows"), (Jvm.Cond.fieldLinkNest "QuarrelWindows" (152 : Nat) "QuarrelWindows$Square" "quarrels" "I" "QuarrelWindows"), (Jvm.Cond.fieldLinkNest "QuarrelWindows" (159 : Nat) "QuarrelWindows$Square" "peaces" "I" "QuarrelWindows"), (Jvm.Cond.fieldLinkNest "QuarrelWindows" (177 : Nat) "QuarrelWindows$Square" "mornings" "I" "QuarrelWindows"), (Jvm.Cond.fieldLinkNest "QuarrelWindows" (268 : Nat) "QuarrelWindows$Square" "turned" "I" "QuarrelWindows")]
def stWs : List Jvm.Cond := [(Jvm.Cond.laysStatic "java/lang/String" "COMPACT_STRINGS" "Z"), (Jvm.Cond.laysStatic "jdk/internal/util/Preconditions" "SIOOBE_FORMATTER" "Ljava/util/function/BiFunction;"), (Jvm.Cond.laysStatic "java/lang/StringUTF16" "$assertionsDisabled" "Z"), (Jvm.Cond.laysStatic "java/lang/StringUTF16" "HI_BYTE_SHIFT" "I"), (Jvm.Cond.laysStatic "java/lang/StringUTF16" "LO_BYTE_SHIFT" "I"), (Jvm.Cond.laysStatic "QuarrelWindows" "LESSER" "[I"), (Jvm.Cond.laysStatic "QuarrelWindows" "GREATER" "[I")]
def mpos : List (List Nat) := [[842, 77, 840, 841], [849, 77, 848, 11], [860, 77, 859, 12], [864, 77, 862, 863], [868, 77, 867, 13], [871, 77, 870, 0], [690, 75, 688, 689], [702, 75, 700, 701], [789, 75, 787, 788], [799, 75, 797, 798], [812, 75, 811, 10], [816, 75, 814, 815], [880, 75, 878, 879], [885, 75, 884, 14], [894, 75, 892, 893], [314, 72, 312, 313], [955, 72, 953, 954], [318, 72, 316, 317], [327, 72, 325, 326], [335, 72, 333, 334], [452, 72, 450, 451], [339, 72, 338, 0], [435, 72, 434, 0], [439, 72, 438, 1], [456, 72, 455, 2], [465, 72, 463, 464], [473, 72, 471, 472], [478, 72, 476, 477], [482, 72, 480, 481], [486, 72, 484, 485], [443, 72, 441, 442], [342, 72, 341, 0], [432, 72, 431, 0], [718, 76, 716, 717], [723, 76, 722, 0], [735, 76, 734, 8], [765, 76, 763, 764], [768, 76, 767, 0], [780, 76, 779, 9], [740, 76, 739, 0], [727, 76, 726, 7], [752, 76, 750, 751], [825, 74, 823, 824], [951, 74, 949, 950], [829, 74, 827, 828], [522, 74, 520, 521], [903, 74, 901, 902], [856, 74, 854, 855], [461, 73, 459, 460], [694, 73, 692, 693], [666, 73, 664, 665], [526, 73, 524, 525], [494, 73, 492, 493], [490, 73, 488, 489], [535, 73, 533, 534], [539, 73, 537, 538], [543, 73, 541, 542], [576, 73, 574, 575], [580, 73, 578, 579], [547, 73, 545, 546], [551, 73, 549, 550], [555, 73, 553, 554], [559, 73, 557, 558], [567, 73, 565, 566], [563, 73, 561, 562], [571, 73, 569, 570], [599, 73, 597, 598], [612, 73, 610, 611], [916, 73, 914, 915], [920, 73, 918, 919], [803, 73, 801, 802], [926, 73, 924, 925], [772, 73, 770, 771], [776, 73, 774, 775], [932, 73, 930, 931], [937, 73, 935, 936], [943, 73, 941, 942], [947, 73, 945, 946], [649, 73, 647, 648], [498, 73, 496, 497], [505, 73, 503, 504], [625, 73, 623, 624], [633, 73, 631, 632], [641, 73, 639, 640], [654, 73, 652, 653], [670, 73, 668, 669], [675, 73, 673, 674], [731, 73, 729, 730], [679, 73, 678, 6], [682, 73, 681, 0], [518, 73, 517, 4], [514, 73, 513, 3], [658, 73, 657, 5], [508, 73, 507, 0], [501, 73, 500, 0], [310, 71, 308, 309], [323, 71, 321, 322], [331, 71, 329, 330], [448, 71, 446, 447], [530, 71, 528, 529], [584, 71, 582, 583], [594, 71, 592, 593], [603, 71, 601, 602], [608, 71, 606, 607], [616, 71, 614, 615], [621, 71, 619, 620], [629, 71, 627, 628], [637, 71, 635, 636], [645, 71, 643, 644], [662, 71, 660, 661], [686, 71, 684, 685], [708, 71, 706, 707], [761, 71, 759, 760], [785, 71, 783, 784], [795, 71, 793, 794], [821, 71, 819, 820], [834, 71, 832, 833], [838, 71, 836, 837], [876, 71, 874, 875], [898, 71, 896, 897], [908, 71, 906, 907], [912, 71, 910, 911], [959, 71, 957, 958], [964, 71, 963, 15], [973, 71, 972, 16], [968, 71, 967, 0], [587, 71, 586, 0], [590, 71, 589, 0], [711, 71, 710, 0], [714, 71, 713, 0], [755, 71, 754, 0], [1119, 78, 1118, 0], [1258, 78, 1257, 0], [1115, 78, 1113, 1114], [1123, 78, 1121, 1122], [1138, 78, 1137, 0], [1135, 78, 1134, 18], [1144, 78, 1143, 19], [1131, 78, 1130, 17], [1127, 78, 1125, 1126], [1152, 78, 1151, 0], [1149, 78, 1147, 1148], [1251, 78, 1250, 32], [1160, 78, 1159, 20], [1205, 78, 1204, 29], [1172, 78, 1171, 23], [1168, 78, 1167, 22], [1184, 78, 1183, 26], [1326, 78, 1325, 46], [1188, 78, 1187, 27], [1334, 78, 1333, 48], [1330, 78, 1329, 47], [1176, 78, 1175, 24], [1358, 78, 1357, 52], [1192, 78, 1191, 28], [1180, 78, 1179, 25], [1164, 78, 1163, 21], [1156, 78, 1154, 1155], [1196, 78, 1194, 1195], [1201, 78, 1199, 1200], [1214, 78, 1213, 30], [1209, 78, 1207, 1208], [1218, 78, 1216, 1217], [1222, 78, 1220, 1221], [1227, 78, 1225, 1226], [1235, 78, 1234, 31], [1231, 78, 1229, 1230], [1239, 78, 1237, 1238], [1243, 78, 1241, 1242], [1262, 78, 1261, 34], [1255, 78, 1254, 33], [1276, 78, 1275, 36], [1247, 78, 1245, 1246], [1272, 78, 1271, 35], [1266, 78, 1264, 1265], [1293, 78, 1292, 39], [1301, 78, 1300, 41], [1305, 78, 1304, 42], [1297, 78, 1296, 40], [1309, 78, 1308, 43], [1289, 78, 1288, 38], [1285, 78, 1284, 37], [1280, 78, 1278, 1279], [1322, 78, 1321, 45], [1318, 78, 1317, 44], [1313, 78, 1311, 1312], [1342, 78, 1341, 49], [1338, 78, 1336, 1337], [1354, 78, 1353, 51], [1350, 78, 1349, 50], [1346, 78, 1344, 1345], [1362, 78, 1360, 1361], [1366, 78, 1364, 1365], [1378, 78, 1377, 54], [1382, 78, 1381, 55], [1386, 78, 1385, 56], [1390, 78, 1389, 57], [1394, 78, 1393, 58], [1374, 78, 1373, 53], [1370, 78, 1368, 1369], [1404, 78, 1403, 59], [1398, 78, 1396, 1397], [1412, 78, 1410, 1411], [1416, 78, 1414, 1415], [1428, 78, 1427, 61], [1432, 78, 1431, 62], [1436, 78, 1435, 63], [1440, 78, 1439, 64], [1448, 78, 1447, 66], [1424, 78, 1423, 60], [1444, 78, 1443, 65], [1420, 78, 1418, 1419], [1461, 78, 1460, 68], [1457, 78, 1456, 67], [1466, 78, 1465, 69], [1452, 78, 1450, 1451], [347, 79, 345, 346], [351, 79, 349, 350], [355, 79, 353, 354], [361, 79, 359, 360], [365, 79, 363, 364], [368, 80, 367, 0], [371, 80, 370, 0], [380, 80, 379, 0], [469, 85, 468, 0]]
