-- ===== PART A: goes FIRST, ahead of the names: the tables' words, and 'selects' of the private methods out of them =====
/-- a private method of a class that the tables say can be made, by its rows of tables_1 -/
def lw_okq (q : MethodName × Nat) : Prop := (q.1.cls ≠ "java/lang/invoke/MethodHandle" ∧ q.1.cls ≠ "java/lang/invoke/VarHandle") ∧ Cond.instantiable q.1.cls q.2 ∈ tables_1 ∧ Cond.privateMethod q.1 ∈ tables_1 ∧ Cond.instanceMethod q.1 ∈ tables_1
theorem lw_p0 : lw_okq (⟨"TermMarks", "readNow", "()LTermMarks$Reading;"⟩, 6) := ⟨⟨by decide +kernel, by decide +kernel⟩, List.mem_of_getElem? (i := 12) (by decide +kernel), List.mem_of_getElem? (i := 267) (by decide +kernel), List.mem_of_getElem? (i := 268) (by decide +kernel)⟩
theorem lw_p1 : lw_okq (⟨"TermMarks$Reading", "forget", "()V"⟩, 9) := ⟨⟨by decide +kernel, by decide +kernel⟩, List.mem_of_getElem? (i := 160) (by decide +kernel), List.mem_of_getElem? (i := 275) (by decide +kernel), List.mem_of_getElem? (i := 276) (by decide +kernel)⟩
theorem lw_p2 : lw_okq (⟨"TermMarks$Reading", "readChapter", "(LTermMarks$State;I)V"⟩, 9) := ⟨⟨by decide +kernel, by decide +kernel⟩, List.mem_of_getElem? (i := 160) (by decide +kernel), List.mem_of_getElem? (i := 279) (by decide +kernel), List.mem_of_getElem? (i := 280) (by decide +kernel)⟩
theorem lw_p3 : lw_okq (⟨"TermMarks$Reading", "note", "(LTermMarks$State;III)V"⟩, 9) := ⟨⟨by decide +kernel, by decide +kernel⟩, List.mem_of_getElem? (i := 160) (by decide +kernel), List.mem_of_getElem? (i := 314) (by decide +kernel), List.mem_of_getElem? (i := 315) (by decide +kernel)⟩
theorem lw_p4 : lw_okq (⟨"TermMarks$History", "dropOldest", "()V"⟩, 2) := ⟨⟨by decide +kernel, by decide +kernel⟩, List.mem_of_getElem? (i := 106) (by decide +kernel), List.mem_of_getElem? (i := 429) (by decide +kernel), List.mem_of_getElem? (i := 430) (by decide +kernel)⟩
theorem lw_p5 : lw_okq (⟨"TermMarks", "ask", "(IIII)I"⟩, 6) := ⟨⟨by decide +kernel, by decide +kernel⟩, List.mem_of_getElem? (i := 12) (by decide +kernel), List.mem_of_getElem? (i := 467) (by decide +kernel), List.mem_of_getElem? (i := 468) (by decide +kernel)⟩
theorem lw_p6 : lw_okq (⟨"TermMarks", "askedLength", "()I"⟩, 6) := ⟨⟨by decide +kernel, by decide +kernel⟩, List.mem_of_getElem? (i := 12) (by decide +kernel), List.mem_of_getElem? (i := 471) (by decide +kernel), List.mem_of_getElem? (i := 472) (by decide +kernel)⟩
theorem lw_p7 : lw_okq (⟨"TermMarks$State", "occursWithin", "(III)Z"⟩, 5) := ⟨⟨by decide +kernel, by decide +kernel⟩, List.mem_of_getElem? (i := 20) (by decide +kernel), List.mem_of_getElem? (i := 601) (by decide +kernel), List.mem_of_getElem? (i := 602) (by decide +kernel)⟩
def lw_privs_1 : List (MethodName × Nat) := [(⟨"TermMarks", "readNow", "()LTermMarks$Reading;"⟩, 6), (⟨"TermMarks$Reading", "forget", "()V"⟩, 9), (⟨"TermMarks$Reading", "readChapter", "(LTermMarks$State;I)V"⟩, 9), (⟨"TermMarks$Reading", "note", "(LTermMarks$State;III)V"⟩, 9), (⟨"TermMarks$History", "dropOldest", "()V"⟩, 2), (⟨"TermMarks", "ask", "(IIII)I"⟩, 6), (⟨"TermMarks", "askedLength", "()I"⟩, 6), (⟨"TermMarks$State", "occursWithin", "(III)Z"⟩, 5)]
theorem lw_r1 : ∀ q ∈ lw_privs_1, lw_okq q := List.forall_mem_cons.mpr ⟨lw_p0, List.forall_mem_cons.mpr ⟨lw_p1, List.forall_mem_cons.mpr ⟨lw_p2, List.forall_mem_cons.mpr ⟨lw_p3, List.forall_mem_cons.mpr ⟨lw_p4, List.forall_mem_cons.mpr ⟨lw_p5, List.forall_mem_cons.mpr ⟨lw_p6, List.forall_mem_cons.mpr ⟨lw_p7, fun _ h => absurd h List.not_mem_nil⟩⟩⟩⟩⟩⟩⟩⟩
def lw_privs : List (MethodName × Nat) := lw_privs_1
def lw_tbl : List Cond := k2_sels lw_privs ++ tables_1
theorem lw_privs_ok : ∀ q ∈ lw_privs, lw_okq q := lw_r1
def RX0 : String := "TermMarks$Chapters"
def TX0 : u_T := fun k => match k with
  | 0 => ("TermMarks$Chapters", "words", "[[I", true)
  | _ => ("TermMarks$Chapters", "lengths", "[I", true)
def tyX0 : Nat → FieldType := fun k => match k with
  | 0 => .array (.array .int)
  | _ => .array .int
theorem nmX0 : ∀ a, a < 2 → ∀ b, b < 2 → a ≠ b → (TX0 a).2.1 ≠ (TX0 b).2.1 := by decide +kernel
theorem tyX0_ok : ∀ k, k < 2 → parseFieldDescriptor (TX0 k).2.2.1 = some (tyX0 k) := by decide +kernel
abbrev cX0_init : ByteArray := prog_2_method_1_code
def yX0_init : MethodName := ⟨RX0, "<init>", "()V"⟩
abbrev cX0_has : ByteArray := prog_2_method_2_code
def yX0_has : MethodName := ⟨RX0, "has", "(I)Z"⟩
abbrev cX0_hasPlace : ByteArray := prog_2_method_3_code
def yX0_hasPlace : MethodName := ⟨RX0, "hasPlace", "(II)Z"⟩
abbrev cX0_lengthOf : ByteArray := prog_2_method_4_code
def yX0_lengthOf : MethodName := ⟨RX0, "lengthOf", "(I)I"⟩
abbrev cX0_wordAt : ByteArray := prog_2_method_5_code
def yX0_wordAt : MethodName := ⟨RX0, "wordAt", "(II)I"⟩
abbrev cX0_put : ByteArray := prog_2_method_6_code
def yX0_put : MethodName := ⟨RX0, "put", "(III)V"⟩
abbrev cX0_cut : ByteArray := prog_2_method_7_code
def yX0_cut : MethodName := ⟨RX0, "cut", "(III)V"⟩
abbrev cX0_exchange : ByteArray := prog_2_method_9_code
def yX0_exchange : MethodName := ⟨RX0, "exchange", "(II)I"⟩
abbrev cX0_trade : ByteArray := prog_2_method_10_code
def yX0_trade : MethodName := ⟨RX0, "trade", "(II)V"⟩
abbrev cX0_total : ByteArray := prog_2_method_11_code
def yX0_total : MethodName := ⟨RX0, "total", "()I"⟩
abbrev cX0_copyFrom : ByteArray := prog_2_method_12_code
def yX0_copyFrom : MethodName := ⟨RX0, "copyFrom", "(LTermMarks$Chapters;)V"⟩
def RX1 : String := "TermMarks$History"
def TX1 : u_T := fun k => match k with
  | 0 => ("TermMarks$History", "states", "[LTermMarks$State;", true)
  | _ => ("TermMarks$History", "size", "I", false)
def tyX1 : Nat → FieldType := fun k => match k with
  | 0 => .array (.object "TermMarks$State")
  | _ => .int
theorem nmX1 : ∀ a, a < 2 → ∀ b, b < 2 → a ≠ b → (TX1 a).2.1 ≠ (TX1 b).2.1 := by decide +kernel
theorem tyX1_ok : ∀ k, k < 2 → parseFieldDescriptor (TX1 k).2.2.1 = some (tyX1 k) := by decide +kernel
abbrev cX1_init : ByteArray := prog_3_method_1_code
def yX1_init : MethodName := ⟨RX1, "<init>", "()V"⟩
abbrev cX1_size : ByteArray := prog_3_method_2_code
def yX1_size : MethodName := ⟨RX1, "size", "()I"⟩
abbrev cX1_keep : ByteArray := prog_3_method_3_code
def yX1_keep : MethodName := ⟨RX1, "keep", "(LTermMarks$State;)V"⟩
abbrev cX1_dropOldest : ByteArray := prog_3_method_4_code
def yX1_dropOldest : MethodName := ⟨RX1, "dropOldest", "()V"⟩
abbrev cX1_giveBack : ByteArray := prog_3_method_5_code
def yX1_giveBack : MethodName := ⟨RX1, "giveBack", "(LTermMarks$State;)V"⟩
def RX2 : String := "TermMarks$Loader"
def TX2 : u_T := fun k => match k with
  | 0 => ("TermMarks$Loader", "text", "LTermMarks$Text;", true)
  | 1 => ("TermMarks$Loader", "state", "LTermMarks$State;", true)
  | 2 => ("TermMarks$Loader", "row", "[I", true)
  | 3 => ("TermMarks$Loader", "start", "I", false)
  | _ => ("TermMarks$Loader", "end", "I", false)
def tyX2 : Nat → FieldType := fun k => match k with
  | 0 => .object "TermMarks$Text"
  | 1 => .object "TermMarks$State"
  | 2 => .array .int
  | 3 => .int
  | _ => .int
theorem nmX2 : ∀ a, a < 5 → ∀ b, b < 5 → a ≠ b → (TX2 a).2.1 ≠ (TX2 b).2.1 := by decide +kernel
theorem tyX2_ok : ∀ k, k < 5 → parseFieldDescriptor (TX2 k).2.2.1 = some (tyX2 k) := by decide +kernel
abbrev cX2_init : ByteArray := prog_4_method_1_code
def yX2_init : MethodName := ⟨RX2, "<init>", "()V"⟩
def RX3 : String := "TermMarks$Reading"
def TX3 : u_T := fun k => match k with
  | 0 => ("TermMarks$Reading", "terms", "[[I", true)
  | 1 => ("TermMarks$Reading", "steps", "[[I", true)
  | 2 => ("TermMarks$Reading", "firsts", "[[I", true)
  | 3 => ("TermMarks$Reading", "times", "[I", true)
  | 4 => ("TermMarks$Reading", "markChapters", "[I", true)
  | 5 => ("TermMarks$Reading", "markPlaces", "[I", true)
  | 6 => ("TermMarks$Reading", "markTerms", "[I", true)
  | 7 => ("TermMarks$Reading", "markCount", "I", false)
  | _ => ("TermMarks$Reading", "readingCount", "I", false)
def tyX3 : Nat → FieldType := fun k => match k with
  | 0 => .array (.array .int)
  | 1 => .array (.array .int)
  | 2 => .array (.array .int)
  | 3 => .array .int
  | 4 => .array .int
  | 5 => .array .int
  | 6 => .array .int
  | 7 => .int
  | _ => .int
theorem nmX3 : ∀ a, a < 9 → ∀ b, b < 9 → a ≠ b → (TX3 a).2.1 ≠ (TX3 b).2.1 := by decide +kernel
theorem tyX3_ok : ∀ k, k < 9 → parseFieldDescriptor (TX3 k).2.2.1 = some (tyX3 k) := by decide +kernel
abbrev cX3_init : ByteArray := prog_5_method_1_code
def yX3_init : MethodName := ⟨RX3, "<init>", "()V"⟩
abbrev cX3_read : ByteArray := prog_5_method_2_code
def yX3_read : MethodName := ⟨RX3, "read", "(LTermMarks$State;)V"⟩
abbrev cX3_forget : ByteArray := prog_5_method_3_code
def yX3_forget : MethodName := ⟨RX3, "forget", "()V"⟩
abbrev cX3_readChapter : ByteArray := prog_5_method_4_code
def yX3_readChapter : MethodName := ⟨RX3, "readChapter", "(LTermMarks$State;I)V"⟩
abbrev cX3_note : ByteArray := prog_5_method_5_code
def yX3_note : MethodName := ⟨RX3, "note", "(LTermMarks$State;III)V"⟩
abbrev cX3_markCount : ByteArray := prog_5_method_6_code
def yX3_markCount : MethodName := ⟨RX3, "markCount", "()I"⟩
abbrev cX3_readingCount : ByteArray := prog_5_method_7_code
def yX3_readingCount : MethodName := ⟨RX3, "readingCount", "()I"⟩
abbrev cX3_termOver : ByteArray := prog_5_method_8_code
def yX3_termOver : MethodName := ⟨RX3, "termOver", "(II)I"⟩
abbrev cX3_stepOver : ByteArray := prog_5_method_9_code
def yX3_stepOver : MethodName := ⟨RX3, "stepOver", "(II)I"⟩
abbrev cX3_isInside : ByteArray := prog_5_method_10_code
def yX3_isInside : MethodName := ⟨RX3, "isInside", "(II)Z"⟩
abbrev cX3_hasMark : ByteArray := prog_5_method_11_code
def yX3_hasMark : MethodName := ⟨RX3, "hasMark", "(II)Z"⟩
abbrev cX3_timesRead : ByteArray := prog_5_method_12_code
def yX3_timesRead : MethodName := ⟨RX3, "timesRead", "(I)I"⟩
abbrev cX3_firstPlace : ByteArray := prog_5_method_13_code
def yX3_firstPlace : MethodName := ⟨RX3, "firstPlace", "(II)I"⟩
abbrev cX3_marksOf : ByteArray := prog_5_method_14_code
def yX3_marksOf : MethodName := ⟨RX3, "marksOf", "(I)I"⟩
abbrev cX3_markPart : ByteArray := prog_5_method_15_code
def yX3_markPart : MethodName := ⟨RX3, "markPart", "(II)I"⟩
def RX4 : String := "TermMarks$State"
def TX4 : u_T := fun k => match k with
  | 0 => ("TermMarks$State", "words", "LTermMarks$Words;", true)
  | 1 => ("TermMarks$State", "chapters", "LTermMarks$Chapters;", true)
  | 2 => ("TermMarks$State", "terms", "LTermMarks$Terms;", true)
  | 3 => ("TermMarks$State", "slots", "[LTermMarks$Chapters;", true)
  | _ => ("TermMarks$State", "taken", "[Z", true)
def tyX4 : Nat → FieldType := fun k => match k with
  | 0 => .object "TermMarks$Words"
  | 1 => .object "TermMarks$Chapters"
  | 2 => .object "TermMarks$Terms"
  | 3 => .array (.object "TermMarks$Chapters")
  | _ => .array .boolean
theorem nmX4 : ∀ a, a < 5 → ∀ b, b < 5 → a ≠ b → (TX4 a).2.1 ≠ (TX4 b).2.1 := by decide +kernel
theorem tyX4_ok : ∀ k, k < 5 → parseFieldDescriptor (TX4 k).2.2.1 = some (tyX4 k) := by decide +kernel
abbrev cX4_init : ByteArray := prog_6_method_1_code
def yX4_init : MethodName := ⟨RX4, "<init>", "()V"⟩
abbrev cX4_hasSlot : ByteArray := prog_6_method_2_code
def yX4_hasSlot : MethodName := ⟨RX4, "hasSlot", "(I)Z"⟩
abbrev cX4_isTaken : ByteArray := prog_6_method_3_code
def yX4_isTaken : MethodName := ⟨RX4, "isTaken", "(I)Z"⟩
abbrev cX4_takenCount : ByteArray := prog_6_method_4_code
def yX4_takenCount : MethodName := ⟨RX4, "takenCount", "()I"⟩
abbrev cX4_keepChapters : ByteArray := prog_6_method_5_code
def yX4_keepChapters : MethodName := ⟨RX4, "keepChapters", "(I)V"⟩
abbrev cX4_bringChapters : ByteArray := prog_6_method_6_code
def yX4_bringChapters : MethodName := ⟨RX4, "bringChapters", "(I)V"⟩
abbrev cX4_mayHaveBase : ByteArray := prog_6_method_7_code
def yX4_mayHaveBase : MethodName := ⟨RX4, "mayHaveBase", "(II)Z"⟩
abbrev cX4_occursAt : ByteArray := prog_6_method_8_code
def yX4_occursAt : MethodName := ⟨RX4, "occursAt", "(III)Z"⟩
abbrev cX4_occurrences : ByteArray := prog_6_method_9_code
def yX4_occurrences : MethodName := ⟨RX4, "occurrences", "(I)I"⟩
abbrev cX4_longestAt : ByteArray := prog_6_method_10_code
def yX4_longestAt : MethodName := ⟨RX4, "longestAt", "(II)I"⟩
abbrev cX4_timesWithin : ByteArray := prog_6_method_11_code
def yX4_timesWithin : MethodName := ⟨RX4, "timesWithin", "(II)I"⟩
abbrev cX4_occursWithin : ByteArray := prog_6_method_12_code
def yX4_occursWithin : MethodName := ⟨RX4, "occursWithin", "(III)Z"⟩
abbrev cX4_copyFrom : ByteArray := prog_6_method_13_code
def yX4_copyFrom : MethodName := ⟨RX4, "copyFrom", "(LTermMarks$State;)V"⟩
def RX5 : String := "TermMarks$Terms"
def TX5 : u_T := fun k => match k with
  | 0 => ("TermMarks$Terms", "words", "[[I", true)
  | 1 => ("TermMarks$Terms", "lengths", "[I", true)
  | 2 => ("TermMarks$Terms", "quiet", "[Z", true)
  | _ => ("TermMarks$Terms", "size", "I", false)
def tyX5 : Nat → FieldType := fun k => match k with
  | 0 => .array (.array .int)
  | 1 => .array .int
  | 2 => .array .boolean
  | _ => .int
theorem nmX5 : ∀ a, a < 4 → ∀ b, b < 4 → a ≠ b → (TX5 a).2.1 ≠ (TX5 b).2.1 := by decide +kernel
theorem tyX5_ok : ∀ k, k < 4 → parseFieldDescriptor (TX5 k).2.2.1 = some (tyX5 k) := by decide +kernel
abbrev cX5_init : ByteArray := prog_7_method_1_code
def yX5_init : MethodName := ⟨RX5, "<init>", "()V"⟩
abbrev cX5_size : ByteArray := prog_7_method_2_code
def yX5_size : MethodName := ⟨RX5, "size", "()I"⟩
abbrev cX5_has : ByteArray := prog_7_method_3_code
def yX5_has : MethodName := ⟨RX5, "has", "(I)Z"⟩
abbrev cX5_lengthOf : ByteArray := prog_7_method_4_code
def yX5_lengthOf : MethodName := ⟨RX5, "lengthOf", "(I)I"⟩
abbrev cX5_wordAt : ByteArray := prog_7_method_5_code
def yX5_wordAt : MethodName := ⟨RX5, "wordAt", "(II)I"⟩
abbrev cX5_isQuiet : ByteArray := prog_7_method_6_code
def yX5_isQuiet : MethodName := ⟨RX5, "isQuiet", "(I)Z"⟩
abbrev cX5_quietCount : ByteArray := prog_7_method_7_code
def yX5_quietCount : MethodName := ⟨RX5, "quietCount", "()I"⟩
abbrev cX5_hush : ByteArray := prog_7_method_8_code
def yX5_hush : MethodName := ⟨RX5, "hush", "(IZ)V"⟩
abbrev cX5_add : ByteArray := prog_7_method_9_code
def yX5_add : MethodName := ⟨RX5, "add", "([II)V"⟩
abbrev cX5_drop : ByteArray := prog_7_method_10_code
def yX5_drop : MethodName := ⟨RX5, "drop", "(I)V"⟩
abbrev cX5_hasLike : ByteArray := prog_7_method_11_code
def yX5_hasLike : MethodName := ⟨RX5, "hasLike", "(LTermMarks$Words;[II)Z"⟩
abbrev cX5_twoAreAlike : ByteArray := prog_7_method_12_code
def yX5_twoAreAlike : MethodName := ⟨RX5, "twoAreAlike", "(LTermMarks$Words;)Z"⟩
abbrev cX5_sameBases : ByteArray := prog_7_method_13_code
def yX5_sameBases : MethodName := ⟨RX5, "sameBases", "(LTermMarks$Words;[I[II)Z"⟩
abbrev cX5_copyFrom : ByteArray := prog_7_method_14_code
def yX5_copyFrom : MethodName := ⟨RX5, "copyFrom", "(LTermMarks$Terms;)V"⟩
def RX6 : String := "TermMarks$Text"
def TX6 : u_T := fun k => match k with
  | 0 => ("TermMarks$Text", "characters", "[I", true)
  | _ => ("TermMarks$Text", "length", "I", false)
def tyX6 : Nat → FieldType := fun k => match k with
  | 0 => .array .int
  | _ => .int
theorem nmX6 : ∀ a, a < 2 → ∀ b, b < 2 → a ≠ b → (TX6 a).2.1 ≠ (TX6 b).2.1 := by decide +kernel
theorem tyX6_ok : ∀ k, k < 2 → parseFieldDescriptor (TX6 k).2.2.1 = some (tyX6 k) := by decide +kernel
abbrev cX6_init : ByteArray := prog_8_method_1_code
def yX6_init : MethodName := ⟨RX6, "<init>", "()V"⟩
abbrev cX6_length : ByteArray := prog_8_method_2_code
def yX6_length : MethodName := ⟨RX6, "length", "()I"⟩
abbrev cX6_add : ByteArray := prog_8_method_4_code
def yX6_add : MethodName := ⟨RX6, "add", "(I)V"⟩
def RX7 : String := "TermMarks$Words"
def TX7 : u_T := fun k => match k with
  | 0 => ("TermMarks$Words", "spellings", "[J", true)
  | 1 => ("TermMarks$Words", "bases", "[I", true)
  | _ => ("TermMarks$Words", "size", "I", false)
def tyX7 : Nat → FieldType := fun k => match k with
  | 0 => .array .long
  | 1 => .array .int
  | _ => .int
theorem nmX7 : ∀ a, a < 3 → ∀ b, b < 3 → a ≠ b → (TX7 a).2.1 ≠ (TX7 b).2.1 := by decide +kernel
theorem tyX7_ok : ∀ k, k < 3 → parseFieldDescriptor (TX7 k).2.2.1 = some (tyX7 k) := by decide +kernel
abbrev cX7_init : ByteArray := prog_9_method_1_code
def yX7_init : MethodName := ⟨RX7, "<init>", "()V"⟩
abbrev cX7_size : ByteArray := prog_9_method_3_code
def yX7_size : MethodName := ⟨RX7, "size", "()I"⟩
abbrev cX7_has : ByteArray := prog_9_method_4_code
def yX7_has : MethodName := ⟨RX7, "has", "(I)Z"⟩
abbrev cX7_add : ByteArray := prog_9_method_5_code
def yX7_add : MethodName := ⟨RX7, "add", "(J)I"⟩
abbrev cX7_letterAt : ByteArray := prog_9_method_7_code
def yX7_letterAt : MethodName := ⟨RX7, "letterAt", "(II)I"⟩
abbrev cX7_baseOf : ByteArray := prog_9_method_8_code
def yX7_baseOf : MethodName := ⟨RX7, "baseOf", "(I)I"⟩
abbrev cX7_putBase : ByteArray := prog_9_method_9_code
def yX7_putBase : MethodName := ⟨RX7, "putBase", "(II)V"⟩
abbrev cX7_isForm : ByteArray := prog_9_method_10_code
def yX7_isForm : MethodName := ⟨RX7, "isForm", "(I)Z"⟩
abbrev cX7_hasForms : ByteArray := prog_9_method_11_code
def yX7_hasForms : MethodName := ⟨RX7, "hasForms", "(I)Z"⟩
abbrev cX7_formCount : ByteArray := prog_9_method_12_code
def yX7_formCount : MethodName := ⟨RX7, "formCount", "()I"⟩
abbrev cX7_copyFrom : ByteArray := prog_9_method_13_code
def yX7_copyFrom : MethodName := ⟨RX7, "copyFrom", "(LTermMarks$Words;)V"⟩
def RX8 : String := "TermMarks"
def TX8 : u_T := fun k => match k with
  | 0 => ("TermMarks", "state", "LTermMarks$State;", true)
  | 1 => ("TermMarks", "trial", "LTermMarks$State;", true)
  | 2 => ("TermMarks", "history", "LTermMarks$History;", true)
  | 3 => ("TermMarks", "loader", "LTermMarks$Loader;", true)
  | 4 => ("TermMarks", "reading", "LTermMarks$Reading;", true)
  | _ => ("TermMarks", "asked", "[I", true)
def tyX8 : Nat → FieldType := fun k => match k with
  | 0 => .object "TermMarks$State"
  | 1 => .object "TermMarks$State"
  | 2 => .object "TermMarks$History"
  | 3 => .object "TermMarks$Loader"
  | 4 => .object "TermMarks$Reading"
  | _ => .array .int
theorem nmX8 : ∀ a, a < 6 → ∀ b, b < 6 → a ≠ b → (TX8 a).2.1 ≠ (TX8 b).2.1 := by decide +kernel
theorem tyX8_ok : ∀ k, k < 6 → parseFieldDescriptor (TX8 k).2.2.1 = some (tyX8 k) := by decide +kernel
abbrev cX8_init : ByteArray := prog_1_method_1_code
def yX8_init : MethodName := ⟨RX8, "<init>", "()V"⟩
abbrev cX8_insert : ByteArray := prog_1_method_2_code
def yX8_insert : MethodName := ⟨RX8, "insert", "(III)I"⟩
abbrev cX8_delete : ByteArray := prog_1_method_3_code
def yX8_delete : MethodName := ⟨RX8, "delete", "(III)I"⟩
abbrev cX8_replace : ByteArray := prog_1_method_4_code
def yX8_replace : MethodName := ⟨RX8, "replace", "(II)I"⟩
abbrev cX8_swap : ByteArray := prog_1_method_5_code
def yX8_swap : MethodName := ⟨RX8, "swap", "(II)I"⟩
abbrev cX8_addTerm : ByteArray := prog_1_method_6_code
def yX8_addTerm : MethodName := ⟨RX8, "addTerm", "(IIII)I"⟩
abbrev cX8_removeTerm : ByteArray := prog_1_method_7_code
def yX8_removeTerm : MethodName := ⟨RX8, "removeTerm", "(I)I"⟩
abbrev cX8_setQuiet : ByteArray := prog_1_method_8_code
def yX8_setQuiet : MethodName := ⟨RX8, "setQuiet", "(II)I"⟩
abbrev cX8_setBase : ByteArray := prog_1_method_9_code
def yX8_setBase : MethodName := ⟨RX8, "setBase", "(II)I"⟩
abbrev cX8_take : ByteArray := prog_1_method_10_code
def yX8_take : MethodName := ⟨RX8, "take", "(I)I"⟩
abbrev cX8_restore : ByteArray := prog_1_method_11_code
def yX8_restore : MethodName := ⟨RX8, "restore", "(I)I"⟩
abbrev cX8_undo : ByteArray := prog_1_method_12_code
def yX8_undo : MethodName := ⟨RX8, "undo", "()I"⟩
abbrev cX8_append : ByteArray := prog_1_method_13_code
def yX8_append : MethodName := ⟨RX8, "append", "(I)I"⟩
abbrev cX8_count : ByteArray := prog_1_method_16_code
def yX8_count : MethodName := ⟨RX8, "count", "(I)I"⟩
abbrev cX8_letter : ByteArray := prog_1_method_17_code
def yX8_letter : MethodName := ⟨RX8, "letter", "(II)I"⟩
abbrev cX8_base : ByteArray := prog_1_method_18_code
def yX8_base : MethodName := ⟨RX8, "base", "(I)I"⟩
abbrev cX8_place : ByteArray := prog_1_method_19_code
def yX8_place : MethodName := ⟨RX8, "place", "(III)I"⟩
abbrev cX8_term : ByteArray := prog_1_method_20_code
def yX8_term : MethodName := ⟨RX8, "term", "(II)I"⟩
abbrev cX8_firstUse : ByteArray := prog_1_method_21_code
def yX8_firstUse : MethodName := ⟨RX8, "firstUse", "(II)I"⟩
abbrev cX8_mark : ByteArray := prog_1_method_22_code
def yX8_mark : MethodName := ⟨RX8, "mark", "(II)I"⟩
abbrev cX8_why : ByteArray := prog_1_method_23_code
def yX8_why : MethodName := ⟨RX8, "why", "(III)I"⟩
abbrev cX8_nested : ByteArray := prog_1_method_24_code
def yX8_nested : MethodName := ⟨RX8, "nested", "(II)I"⟩
abbrev cX8_gain : ByteArray := prog_1_method_25_code
def yX8_gain : MethodName := ⟨RX8, "gain", "(IIII)I"⟩
abbrev cX8_greediest : ByteArray := prog_1_method_26_code
def yX8_greediest : MethodName := ⟨RX8, "greediest", "()I"⟩
abbrev cX8_readNow : ByteArray := prog_1_method_27_code
def yX8_readNow : MethodName := ⟨RX8, "readNow", "()LTermMarks$Reading;"⟩
abbrev cX8_ask : ByteArray := prog_1_method_28_code
def yX8_ask : MethodName := ⟨RX8, "ask", "(IIII)I"⟩
abbrev cX8_askedLength : ByteArray := prog_1_method_29_code
def yX8_askedLength : MethodName := ⟨RX8, "askedLength", "()I"⟩
def RX9 : String := "TermMarksModel"
def TX9 : u_T := fun k => match k with
  | _ => ("", "", "", false)
def tyX9 : Nat → FieldType := fun k => match k with
  | _ => .int
theorem nmX9 : ∀ a, a < 0 → ∀ b, b < 0 → a ≠ b → (TX9 a).2.1 ≠ (TX9 b).2.1 := by decide +kernel
theorem tyX9_ok : ∀ k, k < 0 → parseFieldDescriptor (TX9 k).2.2.1 = some (tyX9 k) := by decide +kernel
def RJ10 : String := "java/lang/System"
def RL : String := "TermMarksLaw"
abbrev cL_cell : ByteArray := method_2_code
def yL_cell : MethodName := ⟨RL, "cell", "([II)I"⟩
abbrev cL_low : ByteArray := method_3_code
def yL_low : MethodName := ⟨RL, "low", "(II)I"⟩
abbrev cL_print : ByteArray := method_4_code
def yL_print : MethodName := ⟨RL, "print", "(LTermMarks;)J"⟩
abbrev cL_refused : ByteArray := method_5_code
def yL_refused : MethodName := ⟨RL, "refused", "(LTermMarks;)Z"⟩
abbrev cL_size : ByteArray := method_6_code
def yL_size : MethodName := ⟨RL, "size", "(LTermMarks;I)I"⟩
abbrev cL_marksIn : ByteArray := method_7_code
def yL_marksIn : MethodName := ⟨RL, "marksIn", "(LTermMarks;II)I"⟩
abbrev cL_areReadings : ByteArray := method_8_code
def yL_areReadings : MethodName := ⟨RL, "areReadings", "(LTermMarks;)Z"⟩
abbrev cL_areReasons : ByteArray := method_9_code
def yL_areReasons : MethodName := ⟨RL, "areReasons", "(LTermMarks;I)Z"⟩
abbrev cL_areBases : ByteArray := method_10_code
def yL_areBases : MethodName := ⟨RL, "areBases", "(LTermMarks;)Z"⟩
abbrev cL_isGain : ByteArray := method_11_code
def yL_isGain : MethodName := ⟨RL, "isGain", "(LTermMarks;I)Z"⟩
abbrev cL_isGreediest : ByteArray := method_12_code
def yL_isGreediest : MethodName := ⟨RL, "isGreediest", "(LTermMarks;)Z"⟩
abbrev cL_acts : ByteArray := method_13_code
def yL_acts : MethodName := ⟨RL, "acts", "(LTermMarks;II)I"⟩
abbrev cL_law : ByteArray := code
def yL_law : MethodName := ⟨RL, "law", "([I)Z"⟩
abbrev vwCl : List vw_C := [(RX0, TX0, 2), (RX1, TX1, 2), (RX2, TX2, 5), (RX3, TX3, 9), (RX4, TX4, 5), (RX5, TX5, 4), (RX6, TX6, 2), (RX7, TX7, 3), (RX8, TX8, 6)]
