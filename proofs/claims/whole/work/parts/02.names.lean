/-! ===== BEGIN words of one list among another's, by their places ===== -/
theorem goodIn_r {big : List Cond} (ws : List Cond) (ps : List Nat) (hp : ws = ps.filterMap (fun i => big[i]?)) (h : ws.all goodWord = true) : GoodIn big ws := by
  intro w hw
  have h1 := List.all_eq_true.mp h w hw
  rw [hp] at hw
  obtain ⟨i, -, hi⟩ := List.mem_filterMap.mp hw
  have hm : w ∈ big := by first | exact List.mem_of_getElem? hi | exact List.getElem?_mem hi
  exact ⟨hm, good_of_word h1⟩
theorem goodIn_app {big a b : List Cond} (ha : GoodIn big a) (hb : GoodIn big b) : GoodIn big (a ++ b) := fun w h => (List.mem_append.mp h).elim (ha w) (hb w)
theorem goodIn_ca {big a b : List Cond} {c : Cond} (ha : GoodIn big (c :: a)) (hb : GoodIn big b) : GoodIn big (c :: (a ++ b)) := fun w h => (List.mem_cons.mp h).elim (fun e => ha w (List.mem_cons.mpr (Or.inl e))) (fun h => (List.mem_append.mp h).elim (fun h => ha w (List.mem_cons.mpr (Or.inr h))) (hb w))
theorem goodIn_sub {big ws : List Cond} (hm : ∀ w ∈ ws, w ∈ big) (h : ws.all goodWord = true) : GoodIn big ws := fun w hw => ⟨hm w hw, good_of_word (List.all_eq_true.mp h w hw)⟩
/-! ===== END ===== -/

/-! ===== BEGIN printed: names, fields, word lists, decode rows ===== -/
def RX0 : String := "WhiteKnights$Grid"
def TX0 : u_T := fun k => match k with
  | _ => ("WhiteKnights$Grid", "steps", "[I", true)
def tyX0 : Nat → FieldType := fun k => match k with
  | _ => .array .int
abbrev wsX00 : List Cond := u_ws RX0 TX0 1
theorem nmX0 : ∀ a, a < 1 → ∀ b, b < 1 → a ≠ b → (TX0 a).2.1 ≠ (TX0 b).2.1 := by decide +kernel
theorem tyX0_ok : ∀ k, k < 1 → parseFieldDescriptor (TX0 k).2.2.1 = some (tyX0 k) := by decide +kernel
abbrev cX0_init : ByteArray := prog_2_method_1_code
def yX0_init : MethodName := ⟨RX0, "<init>", "()V"⟩
abbrev cX0_lay : ByteArray := prog_2_method_2_code
def yX0_lay : MethodName := ⟨RX0, "lay", "(II)V"⟩
abbrev cX0_reached : ByteArray := prog_2_method_3_code
def yX0_reached : MethodName := ⟨RX0, "reached", "(IIII)I"⟩
def RX1 : String := "WhiteKnights$Laws"
def TX1 : u_T := fun k => match k with
  | 0 => ("WhiteKnights$Laws", "told", "LWhiteKnights$Setup;", true)
  | _ => ("WhiteKnights$Laws", "grid", "LWhiteKnights$Grid;", true)
def tyX1 : Nat → FieldType := fun k => match k with
  | 0 => .object "WhiteKnights$Setup"
  | _ => .object "WhiteKnights$Grid"
abbrev wsX10 : List Cond := u_ws RX1 TX1 2
theorem nmX1 : ∀ a, a < 2 → ∀ b, b < 2 → a ≠ b → (TX1 a).2.1 ≠ (TX1 b).2.1 := by decide +kernel
theorem tyX1_ok : ∀ k, k < 2 → parseFieldDescriptor (TX1 k).2.2.1 = some (tyX1 k) := by decide +kernel
abbrev cX1_init : ByteArray := prog_3_method_1_code
def yX1_init : MethodName := ⟨RX1, "<init>", "(LWhiteKnights$Setup;LWhiteKnights$Grid;)V"⟩
abbrev cX1_allowed : ByteArray := prog_3_method_2_code
def yX1_allowed : MethodName := ⟨RX1, "allowed", "(IIII)I"⟩
abbrev cX1_openTo : ByteArray := prog_3_method_3_code
def yX1_openTo : MethodName := ⟨RX1, "openTo", "(IIII)I"⟩
abbrev cX1_mayStand : ByteArray := prog_3_method_4_code
def yX1_mayStand : MethodName := ⟨RX1, "mayStand", "(II)Z"⟩
abbrev cX1_attackedMen : ByteArray := prog_3_method_5_code
def yX1_attackedMen : MethodName := ⟨RX1, "attackedMen", "(II)I"⟩
def RX2 : String := "WhiteKnights$Net"
def TX2 : u_T := fun k => match k with
  | 0 => ("WhiteKnights$Net", "joined", "[I", true)
  | 1 => ("WhiteKnights$Net", "grid", "LWhiteKnights$Grid;", true)
  | _ => ("WhiteKnights$Net", "holes", "I", false)
def tyX2 : Nat → FieldType := fun k => match k with
  | 0 => .array .int
  | 1 => .object "WhiteKnights$Grid"
  | _ => .int
abbrev wsX20 : List Cond := u_ws RX2 TX2 3
theorem nmX2 : ∀ a, a < 3 → ∀ b, b < 3 → a ≠ b → (TX2 a).2.1 ≠ (TX2 b).2.1 := by decide +kernel
theorem tyX2_ok : ∀ k, k < 3 → parseFieldDescriptor (TX2 k).2.2.1 = some (tyX2 k) := by decide +kernel
abbrev cX2_init : ByteArray := prog_4_method_1_code
def yX2_init : MethodName := ⟨RX2, "<init>", "(LWhiteKnights$Grid;)V"⟩
abbrev cX2_knot : ByteArray := prog_4_method_2_code
def yX2_knot : MethodName := ⟨RX2, "knot", "(II)V"⟩
abbrev cX2_partAt : ByteArray := prog_4_method_3_code
def yX2_partAt : MethodName := ⟨RX2, "partAt", "(I)I"⟩
abbrev cX2_shapeOf : ByteArray := prog_4_method_4_code
def yX2_shapeOf : MethodName := ⟨RX2, "shapeOf", "(I)I"⟩
abbrev cX2_joinsOf : ByteArray := prog_4_method_5_code
def yX2_joinsOf : MethodName := ⟨RX2, "joinsOf", "(I)I"⟩
abbrev cX2_squaresWith : ByteArray := prog_4_method_6_code
def yX2_squaresWith : MethodName := ⟨RX2, "squaresWith", "(II)I"⟩
abbrev cX2_around : ByteArray := prog_4_method_7_code
def yX2_around : MethodName := ⟨RX2, "around", "(II)I"⟩
abbrev cX2_stepsTo : ByteArray := prog_4_method_8_code
def yX2_stepsTo : MethodName := ⟨RX2, "stepsTo", "(II)I"⟩
def RX3 : String := "WhiteKnights$Reader"
def TX3 : u_T := fun k => match k with
  | 0 => ("WhiteKnights$Reader", "draft", "LWhiteKnights$Setup;", true)
  | 1 => ("WhiteKnights$Reader", "faultAt", "I", false)
  | 2 => ("WhiteKnights$Reader", "lines", "I", false)
  | _ => ("WhiteKnights$Reader", "text", "LWhiteKnights$Text;", true)
def tyX3 : Nat → FieldType := fun k => match k with
  | 0 => .object "WhiteKnights$Setup"
  | 1 => .int
  | 2 => .int
  | _ => .object "WhiteKnights$Text"
abbrev wsX30 : List Cond := u_ws RX3 TX3 4
theorem nmX3 : ∀ a, a < 4 → ∀ b, b < 4 → a ≠ b → (TX3 a).2.1 ≠ (TX3 b).2.1 := by decide +kernel
theorem tyX3_ok : ∀ k, k < 4 → parseFieldDescriptor (TX3 k).2.2.1 = some (tyX3 k) := by decide +kernel
abbrev cX3_init : ByteArray := prog_5_method_1_code
def yX3_init : MethodName := ⟨RX3, "<init>", "(LWhiteKnights$Text;)V"⟩
abbrev cX3_read : ByteArray := prog_5_method_2_code
def yX3_read : MethodName := ⟨RX3, "read", "(LWhiteKnights$Setup;)V"⟩
abbrev cX3_readBehindLine : ByteArray := prog_5_method_3_code
def yX3_readBehindLine : MethodName := ⟨RX3, "readBehindLine", "()Z"⟩
abbrev cX3_readLine : ByteArray := prog_5_method_4_code
def yX3_readLine : MethodName := ⟨RX3, "readLine", "()V"⟩
abbrev cX3_readSize : ByteArray := prog_5_method_5_code
def yX3_readSize : MethodName := ⟨RX3, "readSize", "()V"⟩
abbrev cX3_readHole : ByteArray := prog_5_method_6_code
def yX3_readHole : MethodName := ⟨RX3, "readHole", "()V"⟩
abbrev cX3_readMan : ByteArray := prog_5_method_7_code
def yX3_readMan : MethodName := ⟨RX3, "readMan", "(I)V"⟩
abbrev cX3_isHole : ByteArray := prog_5_method_8_code
def yX3_isHole : MethodName := ⟨RX3, "isHole", "(I)Z"⟩
abbrev cX3_readNumber : ByteArray := prog_5_method_9_code
def yX3_readNumber : MethodName := ⟨RX3, "readNumber", "(II)I"⟩
abbrev cX3_refuseIf : ByteArray := prog_5_method_10_code
def yX3_refuseIf : MethodName := ⟨RX3, "refuseIf", "(Z)V"⟩
def RX4 : String := "WhiteKnights$Search"
def TX4 : u_T := fun k => match k with
  | 0 => ("WhiteKnights$Search", "told", "LWhiteKnights$Setup;", true)
  | 1 => ("WhiteKnights$Search", "laws", "LWhiteKnights$Laws;", true)
  | 2 => ("WhiteKnights$Search", "seen", "[I", true)
  | 3 => ("WhiteKnights$Search", "codes", "[I", true)
  | 4 => ("WhiteKnights$Search", "parents", "[I", true)
  | 5 => ("WhiteKnights$Search", "depths", "[I", true)
  | 6 => ("WhiteKnights$Search", "size", "I", false)
  | _ => ("WhiteKnights$Search", "exploredHoles", "I", false)
def tyX4 : Nat → FieldType := fun k => match k with
  | 0 => .object "WhiteKnights$Setup"
  | 1 => .object "WhiteKnights$Laws"
  | 2 => .array .int
  | 3 => .array .int
  | 4 => .array .int
  | 5 => .array .int
  | 6 => .int
  | _ => .int
abbrev wsX40 : List Cond := u_ws RX4 TX4 8
theorem nmX4 : ∀ a, a < 8 → ∀ b, b < 8 → a ≠ b → (TX4 a).2.1 ≠ (TX4 b).2.1 := by decide +kernel
theorem tyX4_ok : ∀ k, k < 8 → parseFieldDescriptor (TX4 k).2.2.1 = some (tyX4 k) := by decide +kernel
abbrev cX4_init : ByteArray := prog_6_method_1_code
def yX4_init : MethodName := ⟨RX4, "<init>", "(LWhiteKnights$Setup;LWhiteKnights$Laws;)V"⟩
abbrev cX4_forget : ByteArray := prog_6_method_2_code
def yX4_forget : MethodName := ⟨RX4, "forget", "()V"⟩
abbrev cX4_explore : ByteArray := prog_6_method_3_code
def yX4_explore : MethodName := ⟨RX4, "explore", "(III)V"⟩
abbrev cX4_codeOf : ByteArray := prog_6_method_4_code
def yX4_codeOf : MethodName := ⟨RX4, "codeOf", "(II)I"⟩
abbrev cX4_addHops : ByteArray := prog_6_method_5_code
def yX4_addHops : MethodName := ⟨RX4, "addHops", "(IIII)V"⟩
abbrev cX4_isNew : ByteArray := prog_6_method_6_code
def yX4_isNew : MethodName := ⟨RX4, "isNew", "(I)Z"⟩
abbrev cX4_add : ByteArray := prog_6_method_7_code
def yX4_add : MethodName := ⟨RX4, "add", "(III)V"⟩
abbrev cX4_firstHome : ByteArray := prog_6_method_8_code
def yX4_firstHome : MethodName := ⟨RX4, "firstHome", "()I"⟩
abbrev cX4_firstHomeAlike : ByteArray := prog_6_method_9_code
def yX4_firstHomeAlike : MethodName := ⟨RX4, "firstHomeAlike", "()I"⟩
abbrev cX4_allHomeAlike : ByteArray := prog_6_method_10_code
def yX4_allHomeAlike : MethodName := ⟨RX4, "allHomeAlike", "(I)Z"⟩
abbrev cX4_depthOf : ByteArray := prog_6_method_11_code
def yX4_depthOf : MethodName := ⟨RX4, "depthOf", "(I)I"⟩
abbrev cX4_howMany : ByteArray := prog_6_method_12_code
def yX4_howMany : MethodName := ⟨RX4, "howMany", "(I)I"⟩
abbrev cX4_greatestDepth : ByteArray := prog_6_method_13_code
def yX4_greatestDepth : MethodName := ⟨RX4, "greatestDepth", "()I"⟩
abbrev cX4_hopTowards : ByteArray := prog_6_method_14_code
def yX4_hopTowards : MethodName := ⟨RX4, "hopTowards", "(III)I"⟩
def RX5 : String := "WhiteKnights$Setup"
def TX5 : u_T := fun k => match k with
  | 0 => ("WhiteKnights$Setup", "columns", "I", false)
  | 1 => ("WhiteKnights$Setup", "rows", "I", false)
  | 2 => ("WhiteKnights$Setup", "holes", "I", false)
  | 3 => ("WhiteKnights$Setup", "law", "I", false)
  | 4 => ("WhiteKnights$Setup", "men", "I", false)
  | 5 => ("WhiteKnights$Setup", "starts", "I", false)
  | 6 => ("WhiteKnights$Setup", "goals", "I", false)
  | 7 => ("WhiteKnights$Setup", "kinds", "[I", true)
  | _ => ("WhiteKnights$Setup", "colours", "[I", true)
def tyX5 : Nat → FieldType := fun k => match k with
  | 0 => .int
  | 1 => .int
  | 2 => .int
  | 3 => .int
  | 4 => .int
  | 5 => .int
  | 6 => .int
  | 7 => .array .int
  | _ => .array .int
abbrev wsX50 : List Cond := u_ws RX5 TX5 9
theorem nmX5 : ∀ a, a < 9 → ∀ b, b < 9 → a ≠ b → (TX5 a).2.1 ≠ (TX5 b).2.1 := by decide +kernel
theorem tyX5_ok : ∀ k, k < 9 → parseFieldDescriptor (TX5 k).2.2.1 = some (tyX5 k) := by decide +kernel
abbrev cX5_init : ByteArray := prog_7_method_1_code
def yX5_init : MethodName := ⟨RX5, "<init>", "()V"⟩
abbrev cX5_lay : ByteArray := prog_7_method_2_code
def yX5_lay : MethodName := ⟨RX5, "lay", "(II)V"⟩
abbrev cX5_takeMenAway : ByteArray := prog_7_method_3_code
def yX5_takeMenAway : MethodName := ⟨RX5, "takeMenAway", "()V"⟩
abbrev cX5_addMan : ByteArray := prog_7_method_4_code
def yX5_addMan : MethodName := ⟨RX5, "addMan", "(IIII)V"⟩
abbrev cX5_copy : ByteArray := prog_7_method_5_code
def yX5_copy : MethodName := ⟨RX5, "copy", "(LWhiteKnights$Setup;)V"⟩
abbrev cX5_squares : ByteArray := prog_7_method_6_code
def yX5_squares : MethodName := ⟨RX5, "squares", "()I"⟩
abbrev cX5_manOf : ByteArray := prog_7_method_7_code
def yX5_manOf : MethodName := ⟨RX5, "manOf", "(II)I"⟩
abbrev cX5_taken : ByteArray := prog_7_method_8_code
def yX5_taken : MethodName := ⟨RX5, "taken", "(I)I"⟩
def RX6 : String := "WhiteKnights$Text"
def TX6 : u_T := fun k => match k with
  | 0 => ("WhiteKnights$Text", "bytes", "[I", true)
  | 1 => ("WhiteKnights$Text", "length", "I", false)
  | 2 => ("WhiteKnights$Text", "begin", "I", false)
  | _ => ("WhiteKnights$Text", "end", "I", false)
def tyX6 : Nat → FieldType := fun k => match k with
  | 0 => .array .int
  | 1 => .int
  | 2 => .int
  | _ => .int
abbrev wsX60 : List Cond := u_ws RX6 TX6 4
theorem nmX6 : ∀ a, a < 4 → ∀ b, b < 4 → a ≠ b → (TX6 a).2.1 ≠ (TX6 b).2.1 := by decide +kernel
theorem tyX6_ok : ∀ k, k < 4 → parseFieldDescriptor (TX6 k).2.2.1 = some (tyX6 k) := by decide +kernel
abbrev cX6_init : ByteArray := prog_8_method_1_code
def yX6_init : MethodName := ⟨RX6, "<init>", "()V"⟩
abbrev cX6_append : ByteArray := prog_8_method_2_code
def yX6_append : MethodName := ⟨RX6, "append", "(I)V"⟩
abbrev cX6_rewind : ByteArray := prog_8_method_3_code
def yX6_rewind : MethodName := ⟨RX6, "rewind", "()V"⟩
abbrev cX6_next : ByteArray := prog_8_method_4_code
def yX6_next : MethodName := ⟨RX6, "next", "()V"⟩
abbrev cX6_joins : ByteArray := prog_8_method_5_code
def yX6_joins : MethodName := ⟨RX6, "joins", "(II)Z"⟩
abbrev cX6_isLetter : ByteArray := prog_8_method_6_code
def yX6_isLetter : MethodName := ⟨RX6, "isLetter", "(I)Z"⟩
abbrev cX6_isDigit : ByteArray := prog_8_method_7_code
def yX6_isDigit : MethodName := ⟨RX6, "isDigit", "(I)Z"⟩
abbrev cX6_isOver : ByteArray := prog_8_method_8_code
def yX6_isOver : MethodName := ⟨RX6, "isOver", "()Z"⟩
abbrev cX6_spells : ByteArray := prog_8_method_9_code
def yX6_spells : MethodName := ⟨RX6, "spells", "(Ljava/lang/String;)Z"⟩
abbrev cX6_number : ByteArray := prog_8_method_10_code
def yX6_number : MethodName := ⟨RX6, "number", "()I"⟩
def RX7 : String := "WhiteKnights"
def TX7 : u_T := fun k => match k with
  | 0 => ("WhiteKnights", "told", "LWhiteKnights$Setup;", true)
  | 1 => ("WhiteKnights", "text", "LWhiteKnights$Text;", true)
  | 2 => ("WhiteKnights", "reader", "LWhiteKnights$Reader;", true)
  | 3 => ("WhiteKnights", "grid", "LWhiteKnights$Grid;", true)
  | 4 => ("WhiteKnights", "laws", "LWhiteKnights$Laws;", true)
  | 5 => ("WhiteKnights", "web", "LWhiteKnights$Net;", true)
  | 6 => ("WhiteKnights", "search", "LWhiteKnights$Search;", true)
  | 7 => ("WhiteKnights", "keptPositions", "[I", true)
  | 8 => ("WhiteKnights", "keptHops", "[I", true)
  | 9 => ("WhiteKnights", "kept", "[Z", true)
  | 10 => ("WhiteKnights", "rowMen", "[I", true)
  | 11 => ("WhiteKnights", "rowSquares", "[I", true)
  | 12 => ("WhiteKnights", "rowLength", "I", false)
  | 13 => ("WhiteKnights", "position", "I", false)
  | _ => ("WhiteKnights", "hops", "I", false)
def tyX7 : Nat → FieldType := fun k => match k with
  | 0 => .object "WhiteKnights$Setup"
  | 1 => .object "WhiteKnights$Text"
  | 2 => .object "WhiteKnights$Reader"
  | 3 => .object "WhiteKnights$Grid"
  | 4 => .object "WhiteKnights$Laws"
  | 5 => .object "WhiteKnights$Net"
  | 6 => .object "WhiteKnights$Search"
  | 7 => .array .int
  | 8 => .array .int
  | 9 => .array .boolean
  | 10 => .array .int
  | 11 => .array .int
  | 12 => .int
  | 13 => .int
  | _ => .int
abbrev wsX70 : List Cond := u_ws RX7 TX7 15
theorem nmX7 : ∀ a, a < 15 → ∀ b, b < 15 → a ≠ b → (TX7 a).2.1 ≠ (TX7 b).2.1 := by decide +kernel
theorem tyX7_ok : ∀ k, k < 15 → parseFieldDescriptor (TX7 k).2.2.1 = some (tyX7 k) := by decide +kernel
abbrev cX7_init : ByteArray := prog_1_method_1_code
def yX7_init : MethodName := ⟨RX7, "<init>", "()V"⟩
abbrev cX7_write : ByteArray := prog_1_method_2_code
def yX7_write : MethodName := ⟨RX7, "write", "(JI)I"⟩
abbrev cX7_erase : ByteArray := prog_1_method_3_code
def yX7_erase : MethodName := ⟨RX7, "erase", "()I"⟩
abbrev cX7_fault : ByteArray := prog_1_method_4_code
def yX7_fault : MethodName := ⟨RX7, "fault", "()I"⟩
abbrev cX7_board : ByteArray := prog_1_method_5_code
def yX7_board : MethodName := ⟨RX7, "board", "()I"⟩
abbrev cX7_square : ByteArray := prog_1_method_6_code
def yX7_square : MethodName := ⟨RX7, "square", "(II)I"⟩
abbrev cX7_man : ByteArray := prog_1_method_7_code
def yX7_man : MethodName := ⟨RX7, "man", "(II)I"⟩
abbrev cX7_as : ByteArray := prog_1_method_8_code
def yX7_as : MethodName := ⟨RX7, "as", "(II)I"⟩
abbrev cX7_may : ByteArray := prog_1_method_9_code
def yX7_may : MethodName := ⟨RX7, "may", "(I)I"⟩
abbrev cX7_hop : ByteArray := prog_1_method_10_code
def yX7_hop : MethodName := ⟨RX7, "hop", "(II)I"⟩
abbrev cX7_attacked : ByteArray := prog_1_method_11_code
def yX7_attacked : MethodName := ⟨RX7, "attacked", "()I"⟩
abbrev cX7_keep : ByteArray := prog_1_method_12_code
def yX7_keep : MethodName := ⟨RX7, "keep", "(I)I"⟩
abbrev cX7_back : ByteArray := prog_1_method_13_code
def yX7_back : MethodName := ⟨RX7, "back", "(I)I"⟩
abbrev cX7_net : ByteArray := prog_1_method_14_code
def yX7_net : MethodName := ⟨RX7, "net", "(II)I"⟩
abbrev cX7_part : ByteArray := prog_1_method_15_code
def yX7_part : MethodName := ⟨RX7, "part", "(II)I"⟩
abbrev cX7_shape : ByteArray := prog_1_method_16_code
def yX7_shape : MethodName := ⟨RX7, "shape", "(II)I"⟩
abbrev cX7_ring : ByteArray := prog_1_method_17_code
def yX7_ring : MethodName := ⟨RX7, "ring", "(III)I"⟩
abbrev cX7_turned : ByteArray := prog_1_method_18_code
def yX7_turned : MethodName := ⟨RX7, "turned", "(I)I"⟩
abbrev cX7_fewest : ByteArray := prog_1_method_19_code
def yX7_fewest : MethodName := ⟨RX7, "fewest", "()I"⟩
abbrev cX7_way : ByteArray := prog_1_method_20_code
def yX7_way : MethodName := ⟨RX7, "way", "(II)I"⟩
abbrev cX7_alike : ByteArray := prog_1_method_21_code
def yX7_alike : MethodName := ⟨RX7, "alike", "()I"⟩
abbrev cX7_many : ByteArray := prog_1_method_22_code
def yX7_many : MethodName := ⟨RX7, "many", "(I)I"⟩
abbrev cX7_farthest : ByteArray := prog_1_method_23_code
def yX7_farthest : MethodName := ⟨RX7, "farthest", "(I)I"⟩
abbrev cX7_left : ByteArray := prog_1_method_24_code
def yX7_left : MethodName := ⟨RX7, "left", "(I)I"⟩
abbrev cX7_added : ByteArray := prog_1_method_25_code
def yX7_added : MethodName := ⟨RX7, "added", "(I)I"⟩
abbrev cX7_row : ByteArray := prog_1_method_26_code
def yX7_row : MethodName := ⟨RX7, "row", "(II)I"⟩
abbrev cX7_burn : ByteArray := prog_1_method_27_code
def yX7_burn : MethodName := ⟨RX7, "burn", "()I"⟩
abbrev cX7_judge : ByteArray := prog_1_method_28_code
def yX7_judge : MethodName := ⟨RX7, "judge", "()I"⟩
abbrev cX7_count : ByteArray := prog_1_method_29_code
def yX7_count : MethodName := ⟨RX7, "count", "(I)I"⟩
abbrev cX7_noSquare : ByteArray := prog_1_method_30_code
def yX7_noSquare : MethodName := ⟨RX7, "noSquare", "(I)Z"⟩
abbrev cX7_noMan : ByteArray := prog_1_method_31_code
def yX7_noMan : MethodName := ⟨RX7, "noMan", "(I)Z"⟩
abbrev cX7_noKind : ByteArray := prog_1_method_32_code
def yX7_noKind : MethodName := ⟨RX7, "noKind", "(I)Z"⟩
abbrev cX7_bit : ByteArray := prog_1_method_33_code
def yX7_bit : MethodName := ⟨RX7, "bit", "(II)I"⟩
abbrev cX7_placeOf : ByteArray := prog_1_method_34_code
def yX7_placeOf : MethodName := ⟨RX7, "placeOf", "(II)I"⟩
abbrev cX7_moved : ByteArray := prog_1_method_35_code
def yX7_moved : MethodName := ⟨RX7, "moved", "(III)I"⟩
abbrev cX7_beginAnew : ByteArray := prog_1_method_36_code
def yX7_beginAnew : MethodName := ⟨RX7, "beginAnew", "()V"⟩
abbrev cX7_isSuch : ByteArray := prog_1_method_37_code
def yX7_isSuch : MethodName := ⟨RX7, "isSuch", "(II)Z"⟩
abbrev cX7_allAre : ByteArray := prog_1_method_38_code
def yX7_allAre : MethodName := ⟨RX7, "allAre", "(I)Z"⟩
abbrev cX7_orderIsKept : ByteArray := prog_1_method_39_code
def yX7_orderIsKept : MethodName := ⟨RX7, "orderIsKept", "(I)Z"⟩
abbrev cX7_stepsAround : ByteArray := prog_1_method_40_code
def yX7_stepsAround : MethodName := ⟨RX7, "stepsAround", "(IIII)I"⟩
abbrev cX7_menAtHome : ByteArray := prog_1_method_41_code
def yX7_menAtHome : MethodName := ⟨RX7, "menAtHome", "()I"⟩
def RX8 : String := "WhiteKnightsModel"
def TX8 : u_T := fun k => match k with
  | 0 => ("WhiteKnightsModel", "wide", "I", false)
  | 1 => ("WhiteKnightsModel", "high", "I", false)
  | 2 => ("WhiteKnightsModel", "holes", "I", false)
  | 3 => ("WhiteKnightsModel", "law", "I", false)
  | 4 => ("WhiteKnightsModel", "men", "I", false)
  | 5 => ("WhiteKnightsModel", "man", "[I", true)
  | 6 => ("WhiteKnightsModel", "bytes", "I", false)
  | 7 => ("WhiteKnightsModel", "text", "[I", true)
  | 8 => ("WhiteKnightsModel", "position", "I", false)
  | 9 => ("WhiteKnightsModel", "tokenAt", "I", false)
  | 10 => ("WhiteKnightsModel", "token", "J", false)
  | 11 => ("WhiteKnightsModel", "digits", "I", false)
  | 12 => ("WhiteKnightsModel", "number", "I", false)
  | 13 => ("WhiteKnightsModel", "faultAt", "I", false)
  | 14 => ("WhiteKnightsModel", "readMany", "I", false)
  | 15 => ("WhiteKnightsModel", "readSquares", "I", false)
  | 16 => ("WhiteKnightsModel", "readHoles", "I", false)
  | 17 => ("WhiteKnightsModel", "readMen", "I", false)
  | 18 => ("WhiteKnightsModel", "readPlace", "[I", true)
  | 19 => ("WhiteKnightsModel", "readGoal", "[I", true)
  | 20 => ("WhiteKnightsModel", "read", "[I", true)
  | 21 => ("WhiteKnightsModel", "at", "[I", true)
  | 22 => ("WhiteKnightsModel", "hops", "I", false)
  | 23 => ("WhiteKnightsModel", "image", "[I", true)
  | 24 => ("WhiteKnightsModel", "isKept", "[Z", true)
  | 25 => ("WhiteKnightsModel", "rows", "I", false)
  | 26 => ("WhiteKnightsModel", "row", "[I", true)
  | 27 => ("WhiteKnightsModel", "far", "[I", true)
  | 28 => ("WhiteKnightsModel", "line", "[I", true)
  | 29 => ("WhiteKnightsModel", "from", "[I", true)
  | 30 => ("WhiteKnightsModel", "by", "[I", true)
  | 31 => ("WhiteKnightsModel", "lined", "I", false)
  | 32 => ("WhiteKnightsModel", "tried", "[I", true)
  | _ => ("WhiteKnightsModel", "ring", "[I", true)
def tyX8 : Nat → FieldType := fun k => match k with
  | 0 => .int
  | 1 => .int
  | 2 => .int
  | 3 => .int
  | 4 => .int
  | 5 => .array .int
  | 6 => .int
  | 7 => .array .int
  | 8 => .int
  | 9 => .int
  | 10 => .long
  | 11 => .int
  | 12 => .int
  | 13 => .int
  | 14 => .int
  | 15 => .int
  | 16 => .int
  | 17 => .int
  | 18 => .array .int
  | 19 => .array .int
  | 20 => .array .int
  | 21 => .array .int
  | 22 => .int
  | 23 => .array .int
  | 24 => .array .boolean
  | 25 => .int
  | 26 => .array .int
  | 27 => .array .int
  | 28 => .array .int
  | 29 => .array .int
  | 30 => .array .int
  | 31 => .int
  | 32 => .array .int
  | _ => .array .int
abbrev wsX80 : List Cond := u_ws RX8 TX8 34
theorem nmX8 : ∀ a, a < 34 → ∀ b, b < 34 → a ≠ b → (TX8 a).2.1 ≠ (TX8 b).2.1 := by decide +kernel
theorem tyX8_ok : ∀ k, k < 34 → parseFieldDescriptor (TX8 k).2.2.1 = some (tyX8 k) := by decide +kernel
abbrev cX8_init : ByteArray := prog_10_method_1_code
def yX8_init : MethodName := ⟨RX8, "<init>", "()V"⟩
abbrev cX8_in : ByteArray := prog_10_method_2_code
def yX8_in : MethodName := ⟨RX8, "in", "(III)Z"⟩
abbrev cX8_has : ByteArray := prog_10_method_3_code
def yX8_has : MethodName := ⟨RX8, "has", "(II)Z"⟩
abbrev cX8_bits : ByteArray := prog_10_method_4_code
def yX8_bits : MethodName := ⟨RX8, "bits", "(I)I"⟩
abbrev cX8_isSquare : ByteArray := prog_10_method_5_code
def yX8_isSquare : MethodName := ⟨RX8, "isSquare", "(I)Z"⟩
abbrev cX8_isMan : ByteArray := prog_10_method_6_code
def yX8_isMan : MethodName := ⟨RX8, "isMan", "(I)Z"⟩
abbrev cX8_write : ByteArray := prog_10_method_7_code
def yX8_write : MethodName := ⟨RX8, "write", "(JI)I"⟩
abbrev cX8_erase : ByteArray := prog_10_method_8_code
def yX8_erase : MethodName := ⟨RX8, "erase", "()I"⟩
abbrev cX8_nextToken : ByteArray := prog_10_method_9_code
def yX8_nextToken : MethodName := ⟨RX8, "nextToken", "()V"⟩
abbrev cX8_fails : ByteArray := prog_10_method_10_code
def yX8_fails : MethodName := ⟨RX8, "fails", "()Z"⟩
abbrev cX8_isNumber : ByteArray := prog_10_method_11_code
def yX8_isNumber : MethodName := ⟨RX8, "isNumber", "(III)Z"⟩
abbrev cX8_isBoard : ByteArray := prog_10_method_12_code
def yX8_isBoard : MethodName := ⟨RX8, "isBoard", "(I)Z"⟩
abbrev cX8_isOf : ByteArray := prog_10_method_13_code
def yX8_isOf : MethodName := ⟨RX8, "isOf", "([III)Z"⟩
abbrev cX8_isHole : ByteArray := prog_10_method_14_code
def yX8_isHole : MethodName := ⟨RX8, "isHole", "(I)Z"⟩
abbrev cX8_isManLine : ByteArray := prog_10_method_15_code
def yX8_isManLine : MethodName := ⟨RX8, "isManLine", "(I)Z"⟩
abbrev cX8_isLine : ByteArray := prog_10_method_16_code
def yX8_isLine : MethodName := ⟨RX8, "isLine", "(I)Z"⟩
abbrev cX8_isRead : ByteArray := prog_10_method_17_code
def yX8_isRead : MethodName := ⟨RX8, "isRead", "()Z"⟩
abbrev cX8_fault : ByteArray := prog_10_method_18_code
def yX8_fault : MethodName := ⟨RX8, "fault", "()I"⟩
abbrev cX8_doLine : ByteArray := prog_10_method_19_code
def yX8_doLine : MethodName := ⟨RX8, "doLine", "(I)V"⟩
abbrev cX8_board : ByteArray := prog_10_method_20_code
def yX8_board : MethodName := ⟨RX8, "board", "()I"⟩
abbrev cX8_square : ByteArray := prog_10_method_21_code
def yX8_square : MethodName := ⟨RX8, "square", "(II)I"⟩
abbrev cX8_man : ByteArray := prog_10_method_22_code
def yX8_man : MethodName := ⟨RX8, "man", "(II)I"⟩
abbrev cX8_isOn : ByteArray := prog_10_method_23_code
def yX8_isOn : MethodName := ⟨RX8, "isOn", "(II)Z"⟩
abbrev cX8_slide : ByteArray := prog_10_method_24_code
def yX8_slide : MethodName := ⟨RX8, "slide", "(IIII)I"⟩
abbrev cX8_reachOf : ByteArray := prog_10_method_25_code
def yX8_reachOf : MethodName := ⟨RX8, "reachOf", "(III)I"⟩
abbrev cX8_takenBy : ByteArray := prog_10_method_26_code
def yX8_takenBy : MethodName := ⟨RX8, "takenBy", "([I)I"⟩
abbrev cX8_attackedBy : ByteArray := prog_10_method_27_code
def yX8_attackedBy : MethodName := ⟨RX8, "attackedBy", "([I)I"⟩
abbrev cX8_mayOf : ByteArray := prog_10_method_28_code
def yX8_mayOf : MethodName := ⟨RX8, "mayOf", "([III)I"⟩
abbrev cX8_as : ByteArray := prog_10_method_29_code
def yX8_as : MethodName := ⟨RX8, "as", "(II)I"⟩
abbrev cX8_may : ByteArray := prog_10_method_30_code
def yX8_may : MethodName := ⟨RX8, "may", "(I)I"⟩
abbrev cX8_hop : ByteArray := prog_10_method_31_code
def yX8_hop : MethodName := ⟨RX8, "hop", "(II)I"⟩
abbrev cX8_attacked : ByteArray := prog_10_method_32_code
def yX8_attacked : MethodName := ⟨RX8, "attacked", "()I"⟩
abbrev cX8_keep : ByteArray := prog_10_method_33_code
def yX8_keep : MethodName := ⟨RX8, "keep", "(I)I"⟩
abbrev cX8_back : ByteArray := prog_10_method_34_code
def yX8_back : MethodName := ⟨RX8, "back", "(I)I"⟩
abbrev cX8_joined : ByteArray := prog_10_method_35_code
def yX8_joined : MethodName := ⟨RX8, "joined", "(II)I"⟩
abbrev cX8_net : ByteArray := prog_10_method_36_code
def yX8_net : MethodName := ⟨RX8, "net", "(II)I"⟩
abbrev cX8_partOf : ByteArray := prog_10_method_37_code
def yX8_partOf : MethodName := ⟨RX8, "partOf", "(II)I"⟩
abbrev cX8_part : ByteArray := prog_10_method_38_code
def yX8_part : MethodName := ⟨RX8, "part", "(II)I"⟩
abbrev cX8_shapeOf : ByteArray := prog_10_method_39_code
def yX8_shapeOf : MethodName := ⟨RX8, "shapeOf", "(II)I"⟩
abbrev cX8_shape : ByteArray := prog_10_method_40_code
def yX8_shape : MethodName := ⟨RX8, "shape", "(II)I"⟩
abbrev cX8_lowest : ByteArray := prog_10_method_41_code
def yX8_lowest : MethodName := ⟨RX8, "lowest", "(I)I"⟩
abbrev cX8_layRing : ByteArray := prog_10_method_42_code
def yX8_layRing : MethodName := ⟨RX8, "layRing", "(II)I"⟩
abbrev cX8_ring : ByteArray := prog_10_method_43_code
def yX8_ring : MethodName := ⟨RX8, "ring", "(III)I"⟩
abbrev cX8_turned : ByteArray := prog_10_method_44_code
def yX8_turned : MethodName := ⟨RX8, "turned", "(I)I"⟩
abbrev cX8_codeOf : ByteArray := prog_10_method_45_code
def yX8_codeOf : MethodName := ⟨RX8, "codeOf", "([II)I"⟩
abbrev cX8_place : ByteArray := prog_10_method_46_code
def yX8_place : MethodName := ⟨RX8, "place", "(I)V"⟩
abbrev cX8_layLine : ByteArray := prog_10_method_47_code
def yX8_layLine : MethodName := ⟨RX8, "layLine", "()V"⟩
abbrev cX8_areHome : ByteArray := prog_10_method_48_code
def yX8_areHome : MethodName := ⟨RX8, "areHome", "(Z)Z"⟩
abbrev cX8_firstHome : ByteArray := prog_10_method_49_code
def yX8_firstHome : MethodName := ⟨RX8, "firstHome", "(Z)I"⟩
abbrev cX8_fewestBy : ByteArray := prog_10_method_50_code
def yX8_fewestBy : MethodName := ⟨RX8, "fewestBy", "(Z)I"⟩
abbrev cX8_fewest : ByteArray := prog_10_method_51_code
def yX8_fewest : MethodName := ⟨RX8, "fewest", "()I"⟩
abbrev cX8_way : ByteArray := prog_10_method_52_code
def yX8_way : MethodName := ⟨RX8, "way", "(II)I"⟩
abbrev cX8_alike : ByteArray := prog_10_method_53_code
def yX8_alike : MethodName := ⟨RX8, "alike", "()I"⟩
abbrev cX8_many : ByteArray := prog_10_method_54_code
def yX8_many : MethodName := ⟨RX8, "many", "(I)I"⟩
abbrev cX8_farthest : ByteArray := prog_10_method_55_code
def yX8_farthest : MethodName := ⟨RX8, "farthest", "(I)I"⟩
abbrev cX8_left : ByteArray := prog_10_method_56_code
def yX8_left : MethodName := ⟨RX8, "left", "(I)I"⟩
abbrev cX8_added : ByteArray := prog_10_method_57_code
def yX8_added : MethodName := ⟨RX8, "added", "(I)I"⟩
abbrev cX8_row : ByteArray := prog_10_method_58_code
def yX8_row : MethodName := ⟨RX8, "row", "(II)I"⟩
abbrev cX8_burn : ByteArray := prog_10_method_59_code
def yX8_burn : MethodName := ⟨RX8, "burn", "()I"⟩
abbrev cX8_judge : ByteArray := prog_10_method_60_code
def yX8_judge : MethodName := ⟨RX8, "judge", "()I"⟩
abbrev cX8_count : ByteArray := prog_10_method_61_code
def yX8_count : MethodName := ⟨RX8, "count", "(I)I"⟩
def RJx145de : String := "java/io/Serializable"
def TJx145de : u_T := fun k => match k with
  | _ => ("", "", "", false)
def tyJx145de : Nat → FieldType := fun k => match k with
  | _ => .int
abbrev wsJx145de0 : List Cond := u_ws RJx145de TJx145de 0
theorem nmJx145de : ∀ a, a < 0 → ∀ b, b < 0 → a ≠ b → (TJx145de a).2.1 ≠ (TJx145de b).2.1 := by decide +kernel
theorem tyJx145de_ok : ∀ k, k < 0 → parseFieldDescriptor (TJx145de k).2.2.1 = some (tyJx145de k) := by decide +kernel
def RJx9f9b0 : String := "java/lang/CharSequence"
def TJx9f9b0 : u_T := fun k => match k with
  | _ => ("", "", "", false)
def tyJx9f9b0 : Nat → FieldType := fun k => match k with
  | _ => .int
abbrev wsJx9f9b00 : List Cond := u_ws RJx9f9b0 TJx9f9b0 0
theorem nmJx9f9b0 : ∀ a, a < 0 → ∀ b, b < 0 → a ≠ b → (TJx9f9b0 a).2.1 ≠ (TJx9f9b0 b).2.1 := by decide +kernel
theorem tyJx9f9b0_ok : ∀ k, k < 0 → parseFieldDescriptor (TJx9f9b0 k).2.2.1 = some (tyJx9f9b0 k) := by decide +kernel
def RJxb160c : String := "java/lang/Comparable"
def TJxb160c : u_T := fun k => match k with
  | _ => ("", "", "", false)
def tyJxb160c : Nat → FieldType := fun k => match k with
  | _ => .int
abbrev wsJxb160c0 : List Cond := u_ws RJxb160c TJxb160c 0
theorem nmJxb160c : ∀ a, a < 0 → ∀ b, b < 0 → a ≠ b → (TJxb160c a).2.1 ≠ (TJxb160c b).2.1 := by decide +kernel
theorem tyJxb160c_ok : ∀ k, k < 0 → parseFieldDescriptor (TJxb160c k).2.2.1 = some (tyJxb160c k) := by decide +kernel
def RJ6 : String := "java/lang/Integer"
def TJ6 : u_T := fun k => match k with
  | _ => ("", "", "", false)
def tyJ6 : Nat → FieldType := fun k => match k with
  | _ => .int
abbrev wsJ60 : List Cond := u_ws RJ6 TJ6 0
theorem nmJ6 : ∀ a, a < 0 → ∀ b, b < 0 → a ≠ b → (TJ6 a).2.1 ≠ (TJ6 b).2.1 := by decide +kernel
theorem tyJ6_ok : ∀ k, k < 0 → parseFieldDescriptor (TJ6 k).2.2.1 = some (tyJ6 k) := by decide +kernel
abbrev cJ6_numberOfTrailingZeros_0f7a4 : ByteArray := prog_11_method_48_code
def yJ6_numberOfTrailingZeros_0f7a4 : MethodName := ⟨RJ6, "numberOfTrailingZeros", "(I)I"⟩
abbrev cJ6_bitCount_0f7a4 : ByteArray := prog_11_method_49_code
def yJ6_bitCount_0f7a4 : MethodName := ⟨RJ6, "bitCount", "(I)I"⟩
def RJ0 : String := "java/lang/String"
def TJ0 : u_T := fun k => match k with
  | _ => ("", "", "", false)
def tyJ0 : Nat → FieldType := fun k => match k with
  | _ => .int
abbrev wsJ00 : List Cond := u_ws RJ0 TJ0 0
theorem nmJ0 : ∀ a, a < 0 → ∀ b, b < 0 → a ≠ b → (TJ0 a).2.1 ≠ (TJ0 b).2.1 := by decide +kernel
theorem tyJ0_ok : ∀ k, k < 0 → parseFieldDescriptor (TJ0 k).2.2.1 = some (tyJ0 k) := by decide +kernel
abbrev cJ0_length_8abf5 : ByteArray := prog_12_method_54_code
def yJ0_length_8abf5 : MethodName := ⟨RJ0, "length", "()I"⟩
abbrev cJ0_charAt_5068e : ByteArray := prog_12_method_56_code
def yJ0_charAt_5068e : MethodName := ⟨RJ0, "charAt", "(I)C"⟩
abbrev cJ0_coder_7d493 : ByteArray := prog_12_method_152_code
def yJ0_coder_7d493 : MethodName := ⟨RJ0, "coder", "()B"⟩
abbrev cJ0_isLatin1_aae02 : ByteArray := prog_12_method_154_code
def yJ0_isLatin1_aae02 : MethodName := ⟨RJ0, "isLatin1", "()Z"⟩
abbrev cJ0_checkIndex_df160 : ByteArray := prog_12_method_155_code
def yJ0_checkIndex_df160 : MethodName := ⟨RJ0, "checkIndex", "(II)V"⟩
def RJ1 : String := "java/lang/StringLatin1"
def TJ1 : u_T := fun k => match k with
  | _ => ("", "", "", false)
def tyJ1 : Nat → FieldType := fun k => match k with
  | _ => .int
abbrev wsJ10 : List Cond := u_ws RJ1 TJ1 0
theorem nmJ1 : ∀ a, a < 0 → ∀ b, b < 0 → a ≠ b → (TJ1 a).2.1 ≠ (TJ1 b).2.1 := by decide +kernel
theorem tyJ1_ok : ∀ k, k < 0 → parseFieldDescriptor (TJ1 k).2.2.1 = some (tyJ1 k) := by decide +kernel
abbrev cJ1_charAt_3b067 : ByteArray := prog_13_method_2_code
def yJ1_charAt_3b067 : MethodName := ⟨RJ1, "charAt", "([BI)C"⟩
def RJ2 : String := "java/lang/StringUTF16"
def TJ2 : u_T := fun k => match k with
  | _ => ("", "", "", false)
def tyJ2 : Nat → FieldType := fun k => match k with
  | _ => .int
abbrev wsJ20 : List Cond := u_ws RJ2 TJ2 0
theorem nmJ2 : ∀ a, a < 0 → ∀ b, b < 0 → a ≠ b → (TJ2 a).2.1 ≠ (TJ2 b).2.1 := by decide +kernel
theorem tyJ2_ok : ∀ k, k < 0 → parseFieldDescriptor (TJ2 k).2.2.1 = some (tyJ2 k) := by decide +kernel
abbrev cJ2_getChar_3b067 : ByteArray := prog_14_method_5_code
def yJ2_getChar_3b067 : MethodName := ⟨RJ2, "getChar", "([BI)C"⟩
abbrev cJ2_length_9d52b : ByteArray := prog_14_method_6_code
def yJ2_length_9d52b : MethodName := ⟨RJ2, "length", "([B)I"⟩
abbrev cJ2_charAt_3b067 : ByteArray := prog_14_method_83_code
def yJ2_charAt_3b067 : MethodName := ⟨RJ2, "charAt", "([BI)C"⟩
abbrev cJ2_checkIndex_2214a : ByteArray := prog_14_method_91_code
def yJ2_checkIndex_2214a : MethodName := ⟨RJ2, "checkIndex", "(I[B)V"⟩
def RJ10 : String := "java/lang/System"
def TJ10 : u_T := fun k => match k with
  | _ => ("", "", "", false)
def tyJ10 : Nat → FieldType := fun k => match k with
  | _ => .int
abbrev wsJ100 : List Cond := u_ws RJ10 TJ10 0
theorem nmJ10 : ∀ a, a < 0 → ∀ b, b < 0 → a ≠ b → (TJ10 a).2.1 ≠ (TJ10 b).2.1 := by decide +kernel
theorem tyJ10_ok : ∀ k, k < 0 → parseFieldDescriptor (TJ10 k).2.2.1 = some (tyJ10 k) := by decide +kernel
def RJxfd54e : String := "java/lang/constant/Constable"
def TJxfd54e : u_T := fun k => match k with
  | _ => ("", "", "", false)
def tyJxfd54e : Nat → FieldType := fun k => match k with
  | _ => .int
abbrev wsJxfd54e0 : List Cond := u_ws RJxfd54e TJxfd54e 0
theorem nmJxfd54e : ∀ a, a < 0 → ∀ b, b < 0 → a ≠ b → (TJxfd54e a).2.1 ≠ (TJxfd54e b).2.1 := by decide +kernel
theorem tyJxfd54e_ok : ∀ k, k < 0 → parseFieldDescriptor (TJxfd54e k).2.2.1 = some (tyJxfd54e k) := by decide +kernel
def RJx3cf43 : String := "java/lang/constant/ConstantDesc"
def TJx3cf43 : u_T := fun k => match k with
  | _ => ("", "", "", false)
def tyJx3cf43 : Nat → FieldType := fun k => match k with
  | _ => .int
abbrev wsJx3cf430 : List Cond := u_ws RJx3cf43 TJx3cf43 0
theorem nmJx3cf43 : ∀ a, a < 0 → ∀ b, b < 0 → a ≠ b → (TJx3cf43 a).2.1 ≠ (TJx3cf43 b).2.1 := by decide +kernel
theorem tyJx3cf43_ok : ∀ k, k < 0 → parseFieldDescriptor (TJx3cf43 k).2.2.1 = some (tyJx3cf43 k) := by decide +kernel
def RJ7 : String := "java/util/Arrays"
def TJ7 : u_T := fun k => match k with
  | _ => ("", "", "", false)
def tyJ7 : Nat → FieldType := fun k => match k with
  | _ => .int
abbrev wsJ70 : List Cond := u_ws RJ7 TJ7 0
theorem nmJ7 : ∀ a, a < 0 → ∀ b, b < 0 → a ≠ b → (TJ7 a).2.1 ≠ (TJ7 b).2.1 := by decide +kernel
theorem tyJ7_ok : ∀ k, k < 0 → parseFieldDescriptor (TJ7 k).2.2.1 = some (tyJ7 k) := by decide +kernel
abbrev cJ7_fill_53178 : ByteArray := prog_16_method_103_code
def yJ7_fill_53178 : MethodName := ⟨RJ7, "fill", "([II)V"⟩
def RJ3 : String := "jdk/internal/util/Preconditions"
def TJ3 : u_T := fun k => match k with
  | _ => ("", "", "", false)
def tyJ3 : Nat → FieldType := fun k => match k with
  | _ => .int
abbrev wsJ30 : List Cond := u_ws RJ3 TJ3 0
theorem nmJ3 : ∀ a, a < 0 → ∀ b, b < 0 → a ≠ b → (TJ3 a).2.1 ≠ (TJ3 b).2.1 := by decide +kernel
theorem tyJ3_ok : ∀ k, k < 0 → parseFieldDescriptor (TJ3 k).2.2.1 = some (tyJ3 k) := by decide +kernel
abbrev cJ3_checkIndex_8e157 : ByteArray := prog_17_method_11_code
def yJ3_checkIndex_8e157 : MethodName := ⟨RJ3, "checkIndex", "(IILjava/util/function/BiFunction;)I"⟩
def RL : String := "WhiteKnightsLaw"
abbrev cL_law : ByteArray := code
def yL_law : MethodName := ⟨RL, "law", "([I)Z"⟩
abbrev vwCl : List vw_C := [(RX0, TX0, 1), (RX1, TX1, 2), (RX2, TX2, 3), (RX3, TX3, 4), (RX4, TX4, 8), (RX5, TX5, 9), (RX6, TX6, 4), (RX7, TX7, 15), (RX8, TX8, 34)]
