section
-- ===== PART A: goes FIRST, ahead of the names: the tables' words, and 'selects' of the private methods out of them =====
/-- a private method of a class that the tables say can be made, by its rows of tables_1 -/
def lw_okq (q : MethodName × Nat) : Prop := (q.1.cls ≠ "java/lang/invoke/MethodHandle" ∧ q.1.cls ≠ "java/lang/invoke/VarHandle") ∧ Cond.instantiable q.1.cls q.2 ∈ tables_1 ∧ Cond.privateMethod q.1 ∈ tables_1 ∧ Cond.instanceMethod q.1 ∈ tables_1
theorem lw_p0 : lw_okq (⟨"KeeperRolls", "isRoll", "(I)Z"⟩, 3) := ⟨⟨by decide +kernel, by decide +kernel⟩, List.mem_of_getElem? (i := 12) (by decide +kernel), List.mem_of_getElem? (i := 143) (by decide +kernel), List.mem_of_getElem? (i := 144) (by decide +kernel)⟩
theorem lw_p1 : lw_okq (⟨"KeeperRolls", "answerOfRoll", "(I)I"⟩, 3) := ⟨⟨by decide +kernel, by decide +kernel⟩, List.mem_of_getElem? (i := 12) (by decide +kernel), List.mem_of_getElem? (i := 182) (by decide +kernel), List.mem_of_getElem? (i := 183) (by decide +kernel)⟩
theorem lw_p2 : lw_okq (⟨"KeeperRolls", "answerOfCell", "(II)I"⟩, 3) := ⟨⟨by decide +kernel, by decide +kernel⟩, List.mem_of_getElem? (i := 12) (by decide +kernel), List.mem_of_getElem? (i := 190) (by decide +kernel), List.mem_of_getElem? (i := 191) (by decide +kernel)⟩
theorem lw_p3 : lw_okq (⟨"KeeperRolls", "hangingRolls", "()I"⟩, 3) := ⟨⟨by decide +kernel, by decide +kernel⟩, List.mem_of_getElem? (i := 12) (by decide +kernel), List.mem_of_getElem? (i := 322) (by decide +kernel), List.mem_of_getElem? (i := 323) (by decide +kernel)⟩
theorem lw_p4 : lw_okq (⟨"KeeperRollsModel", "lacks", "(II)I"⟩, 8) := ⟨⟨by decide +kernel, by decide +kernel⟩, List.mem_of_getElem? (i := 330) (by decide +kernel), List.mem_of_getElem? (i := 377) (by decide +kernel), List.mem_of_getElem? (i := 378) (by decide +kernel)⟩
theorem lw_p5 : lw_okq (⟨"KeeperRollsModel", "tells", "(IIJ)I"⟩, 8) := ⟨⟨by decide +kernel, by decide +kernel⟩, List.mem_of_getElem? (i := 330) (by decide +kernel), List.mem_of_getElem? (i := 381) (by decide +kernel), List.mem_of_getElem? (i := 382) (by decide +kernel)⟩
theorem lw_p6 : lw_okq (⟨"KeeperRollsModel", "lacksPeg", "(II)I"⟩, 8) := ⟨⟨by decide +kernel, by decide +kernel⟩, List.mem_of_getElem? (i := 330) (by decide +kernel), List.mem_of_getElem? (i := 439) (by decide +kernel), List.mem_of_getElem? (i := 440) (by decide +kernel)⟩
theorem lw_p7 : lw_okq (⟨"KeeperRollsModel", "lacksRow", "(I)I"⟩, 8) := ⟨⟨by decide +kernel, by decide +kernel⟩, List.mem_of_getElem? (i := 330) (by decide +kernel), List.mem_of_getElem? (i := 443) (by decide +kernel), List.mem_of_getElem? (i := 444) (by decide +kernel)⟩
def lw_privs_1 : List (MethodName × Nat) := [(⟨"KeeperRolls", "isRoll", "(I)Z"⟩, 3), (⟨"KeeperRolls", "answerOfRoll", "(I)I"⟩, 3), (⟨"KeeperRolls", "answerOfCell", "(II)I"⟩, 3), (⟨"KeeperRolls", "hangingRolls", "()I"⟩, 3), (⟨"KeeperRollsModel", "lacks", "(II)I"⟩, 8), (⟨"KeeperRollsModel", "tells", "(IIJ)I"⟩, 8), (⟨"KeeperRollsModel", "lacksPeg", "(II)I"⟩, 8), (⟨"KeeperRollsModel", "lacksRow", "(I)I"⟩, 8)]
theorem lw_r1 : ∀ q ∈ lw_privs_1, lw_okq q := List.forall_mem_cons.mpr ⟨lw_p0, List.forall_mem_cons.mpr ⟨lw_p1, List.forall_mem_cons.mpr ⟨lw_p2, List.forall_mem_cons.mpr ⟨lw_p3, List.forall_mem_cons.mpr ⟨lw_p4, List.forall_mem_cons.mpr ⟨lw_p5, List.forall_mem_cons.mpr ⟨lw_p6, List.forall_mem_cons.mpr ⟨lw_p7, fun _ h => absurd h List.not_mem_nil⟩⟩⟩⟩⟩⟩⟩⟩
def lw_privs : List (MethodName × Nat) := lw_privs_1
def lw_tbl : List Cond := k2_sels lw_privs ++ tables_1
theorem lw_privs_ok : ∀ q ∈ lw_privs, lw_okq q := lw_r1
/-! ===== BEGIN printed: names, fields, word lists, decode rows ===== -/
def RX0 : String := "KeeperRolls$Depths"
def TX0 : u_T := fun k => match k with
  | 0 => ("KeeperRolls$Roll", "hangs", "Z", false)
  | 1 => ("KeeperRolls$Roll", "length", "I", false)
  | _ => ("KeeperRolls$Depths", "cells", "[S", true)
def tyX0 : Nat → FieldType := fun k => match k with
  | 0 => .boolean
  | 1 => .int
  | _ => .array .short
abbrev wsX00 : List Cond := u_ws RX0 TX0 3
theorem nmX0 : ∀ a, a < 3 → ∀ b, b < 3 → a ≠ b → (TX0 a).2.1 ≠ (TX0 b).2.1 := by decide +kernel
theorem tyX0_ok : ∀ k, k < 3 → parseFieldDescriptor (TX0 k).2.2.1 = some (tyX0 k) := by decide +kernel
abbrev cX0_init : ByteArray := prog_2_method_1_code
def yX0_init : MethodName := ⟨RX0, "<init>", "()V"⟩
abbrev cX0_whole : ByteArray := prog_2_method_2_code
def yX0_whole : MethodName := ⟨RX0, "whole", "(I)I"⟩
abbrev cX0_put : ByteArray := prog_2_method_3_code
def yX0_put : MethodName := ⟨RX0, "put", "(II)V"⟩
def RX1 : String := "KeeperRolls$Glass"
def TX1 : u_T := fun k => match k with
  | 0 => ("KeeperRolls$Roll", "hangs", "Z", false)
  | 1 => ("KeeperRolls$Roll", "length", "I", false)
  | _ => ("KeeperRolls$Glass", "cells", "[F", true)
def tyX1 : Nat → FieldType := fun k => match k with
  | 0 => .boolean
  | 1 => .int
  | _ => .array .float
abbrev wsX10 : List Cond := u_ws RX1 TX1 3
theorem nmX1 : ∀ a, a < 3 → ∀ b, b < 3 → a ≠ b → (TX1 a).2.1 ≠ (TX1 b).2.1 := by decide +kernel
theorem tyX1_ok : ∀ k, k < 3 → parseFieldDescriptor (TX1 k).2.2.1 = some (tyX1 k) := by decide +kernel
abbrev cX1_init : ByteArray := prog_3_method_1_code
def yX1_init : MethodName := ⟨RX1, "<init>", "()V"⟩
abbrev cX1_whole : ByteArray := prog_3_method_2_code
def yX1_whole : MethodName := ⟨RX1, "whole", "(I)I"⟩
abbrev cX1_put : ByteArray := prog_3_method_3_code
def yX1_put : MethodName := ⟨RX1, "put", "(II)V"⟩
abbrev cX1_raise : ByteArray := prog_3_method_4_code
def yX1_raise : MethodName := ⟨RX1, "raise", "(II)V"⟩
abbrev cX1_multiply : ByteArray := prog_3_method_5_code
def yX1_multiply : MethodName := ⟨RX1, "multiply", "(II)V"⟩
abbrev cX1_real : ByteArray := prog_3_method_6_code
def yX1_real : MethodName := ⟨RX1, "real", "(I)F"⟩
abbrev cX1_within : ByteArray := prog_3_method_7_code
def yX1_within : MethodName := ⟨RX1, "within", "(F)F"⟩
def RX2 : String := "KeeperRolls$Lamps"
def TX2 : u_T := fun k => match k with
  | 0 => ("KeeperRolls$Roll", "hangs", "Z", false)
  | 1 => ("KeeperRolls$Roll", "length", "I", false)
  | _ => ("KeeperRolls$Lamps", "cells", "[Z", true)
def tyX2 : Nat → FieldType := fun k => match k with
  | 0 => .boolean
  | 1 => .int
  | _ => .array .boolean
abbrev wsX20 : List Cond := u_ws RX2 TX2 3
theorem nmX2 : ∀ a, a < 3 → ∀ b, b < 3 → a ≠ b → (TX2 a).2.1 ≠ (TX2 b).2.1 := by decide +kernel
theorem tyX2_ok : ∀ k, k < 3 → parseFieldDescriptor (TX2 k).2.2.1 = some (tyX2 k) := by decide +kernel
abbrev cX2_init : ByteArray := prog_4_method_1_code
def yX2_init : MethodName := ⟨RX2, "<init>", "()V"⟩
abbrev cX2_whole : ByteArray := prog_4_method_2_code
def yX2_whole : MethodName := ⟨RX2, "whole", "(I)I"⟩
abbrev cX2_put : ByteArray := prog_4_method_3_code
def yX2_put : MethodName := ⟨RX2, "put", "(II)V"⟩
abbrev cX2_raise : ByteArray := prog_4_method_4_code
def yX2_raise : MethodName := ⟨RX2, "raise", "(II)V"⟩
abbrev cX2_multiply : ByteArray := prog_4_method_5_code
def yX2_multiply : MethodName := ⟨RX2, "multiply", "(II)V"⟩
def RX3 : String := "KeeperRolls$Letters"
def TX3 : u_T := fun k => match k with
  | 0 => ("KeeperRolls$Roll", "hangs", "Z", false)
  | 1 => ("KeeperRolls$Roll", "length", "I", false)
  | _ => ("KeeperRolls$Letters", "cells", "[C", true)
def tyX3 : Nat → FieldType := fun k => match k with
  | 0 => .boolean
  | 1 => .int
  | _ => .array .char
abbrev wsX30 : List Cond := u_ws RX3 TX3 3
theorem nmX3 : ∀ a, a < 3 → ∀ b, b < 3 → a ≠ b → (TX3 a).2.1 ≠ (TX3 b).2.1 := by decide +kernel
theorem tyX3_ok : ∀ k, k < 3 → parseFieldDescriptor (TX3 k).2.2.1 = some (tyX3 k) := by decide +kernel
abbrev cX3_init : ByteArray := prog_5_method_1_code
def yX3_init : MethodName := ⟨RX3, "<init>", "()V"⟩
abbrev cX3_whole : ByteArray := prog_5_method_2_code
def yX3_whole : MethodName := ⟨RX3, "whole", "(I)I"⟩
abbrev cX3_put : ByteArray := prog_5_method_3_code
def yX3_put : MethodName := ⟨RX3, "put", "(II)V"⟩
def RX4 : String := "KeeperRolls$Notches"
def TX4 : u_T := fun k => match k with
  | 0 => ("KeeperRolls$Roll", "hangs", "Z", false)
  | 1 => ("KeeperRolls$Roll", "length", "I", false)
  | _ => ("KeeperRolls$Notches", "cells", "[B", true)
def tyX4 : Nat → FieldType := fun k => match k with
  | 0 => .boolean
  | 1 => .int
  | _ => .array .byte
abbrev wsX40 : List Cond := u_ws RX4 TX4 3
theorem nmX4 : ∀ a, a < 3 → ∀ b, b < 3 → a ≠ b → (TX4 a).2.1 ≠ (TX4 b).2.1 := by decide +kernel
theorem tyX4_ok : ∀ k, k < 3 → parseFieldDescriptor (TX4 k).2.2.1 = some (tyX4 k) := by decide +kernel
abbrev cX4_init : ByteArray := prog_6_method_1_code
def yX4_init : MethodName := ⟨RX4, "<init>", "()V"⟩
abbrev cX4_whole : ByteArray := prog_6_method_2_code
def yX4_whole : MethodName := ⟨RX4, "whole", "(I)I"⟩
abbrev cX4_put : ByteArray := prog_6_method_3_code
def yX4_put : MethodName := ⟨RX4, "put", "(II)V"⟩
def RX5 : String := "KeeperRolls$Numbers"
def TX5 : u_T := fun k => match k with
  | _ => ("", "", "", false)
def tyX5 : Nat → FieldType := fun k => match k with
  | _ => .int
abbrev wsX50 : List Cond := u_ws RX5 TX5 0
theorem nmX5 : ∀ a, a < 0 → ∀ b, b < 0 → a ≠ b → (TX5 a).2.1 ≠ (TX5 b).2.1 := by decide +kernel
theorem tyX5_ok : ∀ k, k < 0 → parseFieldDescriptor (TX5 k).2.2.1 = some (tyX5 k) := by decide +kernel
abbrev cX5_init : ByteArray := prog_7_method_1_code
def yX5_init : MethodName := ⟨RX5, "<init>", "()V"⟩
abbrev cX5_raise : ByteArray := prog_7_method_2_code
def yX5_raise : MethodName := ⟨RX5, "raise", "(II)V"⟩
abbrev cX5_multiply : ByteArray := prog_7_method_3_code
def yX5_multiply : MethodName := ⟨RX5, "multiply", "(II)V"⟩
def RX6 : String := "KeeperRolls$PegBoard"
def TX6 : u_T := fun k => match k with
  | 0 => ("KeeperRolls$PegBoard", "values", "[[I", true)
  | 1 => ("KeeperRolls$PegBoard", "taken", "[Z", true)
  | 2 => ("KeeperRolls$PegBoard", "stands", "Z", false)
  | 3 => ("KeeperRolls$PegBoard", "rows", "I", false)
  | _ => ("KeeperRolls$PegBoard", "cells", "I", false)
def tyX6 : Nat → FieldType := fun k => match k with
  | 0 => .array (.array .int)
  | 1 => .array .boolean
  | 2 => .boolean
  | 3 => .int
  | _ => .int
abbrev wsX60 : List Cond := u_ws RX6 TX6 5
theorem nmX6 : ∀ a, a < 5 → ∀ b, b < 5 → a ≠ b → (TX6 a).2.1 ≠ (TX6 b).2.1 := by decide +kernel
theorem tyX6_ok : ∀ k, k < 5 → parseFieldDescriptor (TX6 k).2.2.1 = some (tyX6 k) := by decide +kernel
abbrev cX6_init : ByteArray := prog_8_method_1_code
def yX6_init : MethodName := ⟨RX6, "<init>", "()V"⟩
abbrev cX6_setUp : ByteArray := prog_8_method_2_code
def yX6_setUp : MethodName := ⟨RX6, "setUp", "(II)V"⟩
abbrev cX6_answerOfPlace : ByteArray := prog_8_method_3_code
def yX6_answerOfPlace : MethodName := ⟨RX6, "answerOfPlace", "(I)I"⟩
abbrev cX6_answerOfRow : ByteArray := prog_8_method_4_code
def yX6_answerOfRow : MethodName := ⟨RX6, "answerOfRow", "(I)I"⟩
abbrev cX6_answerOfPeg : ByteArray := prog_8_method_5_code
def yX6_answerOfPeg : MethodName := ⟨RX6, "answerOfPeg", "(II)I"⟩
abbrev cX6_takenRows : ByteArray := prog_8_method_6_code
def yX6_takenRows : MethodName := ⟨RX6, "takenRows", "()I"⟩
def RX7 : String := "KeeperRolls$Roll"
def TX7 : u_T := fun k => match k with
  | _ => ("", "", "", false)
def tyX7 : Nat → FieldType := fun k => match k with
  | _ => .int
abbrev wsX70 : List Cond := u_ws RX7 TX7 0
theorem nmX7 : ∀ a, a < 0 → ∀ b, b < 0 → a ≠ b → (TX7 a).2.1 ≠ (TX7 b).2.1 := by decide +kernel
theorem tyX7_ok : ∀ k, k < 0 → parseFieldDescriptor (TX7 k).2.2.1 = some (tyX7 k) := by decide +kernel
abbrev cX7_init : ByteArray := prog_9_method_1_code
def yX7_init : MethodName := ⟨RX7, "<init>", "()V"⟩
abbrev cX7_unroll : ByteArray := prog_9_method_6_code
def yX7_unroll : MethodName := ⟨RX7, "unroll", "(I)V"⟩
def RX8 : String := "KeeperRolls"
def TX8 : u_T := fun k => match k with
  | 0 => ("KeeperRolls", "rolls", "[LKeeperRolls$Roll;", true)
  | 1 => ("KeeperRolls", "pegs", "LKeeperRolls$PegBoard;", true)
  | _ => ("KeeperRolls", "latest", "I", false)
def tyX8 : Nat → FieldType := fun k => match k with
  | 0 => .array (.object "KeeperRolls$Roll")
  | 1 => .object "KeeperRolls$PegBoard"
  | _ => .int
abbrev wsX80 : List Cond := u_ws RX8 TX8 3
theorem nmX8 : ∀ a, a < 3 → ∀ b, b < 3 → a ≠ b → (TX8 a).2.1 ≠ (TX8 b).2.1 := by decide +kernel
theorem tyX8_ok : ∀ k, k < 3 → parseFieldDescriptor (TX8 k).2.2.1 = some (tyX8 k) := by decide +kernel
abbrev cX8_init : ByteArray := prog_1_method_1_code
def yX8_init : MethodName := ⟨RX8, "<init>", "()V"⟩
abbrev cX8_hang : ByteArray := prog_1_method_2_code
def yX8_hang : MethodName := ⟨RX8, "hang", "(II)I"⟩
abbrev cX8_tear : ByteArray := prog_1_method_3_code
def yX8_tear : MethodName := ⟨RX8, "tear", "(I)I"⟩
abbrev cX8_read : ByteArray := prog_1_method_4_code
def yX8_read : MethodName := ⟨RX8, "read", "(II)I"⟩
abbrev cX8_mark : ByteArray := prog_1_method_5_code
def yX8_mark : MethodName := ⟨RX8, "mark", "(III)I"⟩
abbrev cX8_more : ByteArray := prog_1_method_6_code
def yX8_more : MethodName := ⟨RX8, "more", "(III)I"⟩
abbrev cX8_times : ByteArray := prog_1_method_7_code
def yX8_times : MethodName := ⟨RX8, "times", "(III)I"⟩
abbrev cX8_size : ByteArray := prog_1_method_8_code
def yX8_size : MethodName := ⟨RX8, "size", "(I)I"⟩
abbrev cX8_pour : ByteArray := prog_1_method_9_code
def yX8_pour : MethodName := ⟨RX8, "pour", "(IIII)I"⟩
abbrev cX8_board : ByteArray := prog_1_method_10_code
def yX8_board : MethodName := ⟨RX8, "board", "(II)I"⟩
abbrev cX8_peg : ByteArray := prog_1_method_11_code
def yX8_peg : MethodName := ⟨RX8, "peg", "(III)I"⟩
abbrev cX8_look : ByteArray := prog_1_method_12_code
def yX8_look : MethodName := ⟨RX8, "look", "(II)I"⟩
abbrev cX8_take : ByteArray := prog_1_method_13_code
def yX8_take : MethodName := ⟨RX8, "take", "(I)I"⟩
abbrev cX8_width : ByteArray := prog_1_method_14_code
def yX8_width : MethodName := ⟨RX8, "width", "(I)I"⟩
abbrev cX8_told : ByteArray := prog_1_method_15_code
def yX8_told : MethodName := ⟨RX8, "told", "()I"⟩
abbrev cX8_count : ByteArray := prog_1_method_16_code
def yX8_count : MethodName := ⟨RX8, "count", "(I)I"⟩
abbrev cX8_isRoll : ByteArray := prog_1_method_17_code
def yX8_isRoll : MethodName := ⟨RX8, "isRoll", "(I)Z"⟩
abbrev cX8_answerOfRoll : ByteArray := prog_1_method_18_code
def yX8_answerOfRoll : MethodName := ⟨RX8, "answerOfRoll", "(I)I"⟩
abbrev cX8_answerOfCell : ByteArray := prog_1_method_19_code
def yX8_answerOfCell : MethodName := ⟨RX8, "answerOfCell", "(II)I"⟩
abbrev cX8_hangingRolls : ByteArray := prog_1_method_20_code
def yX8_hangingRolls : MethodName := ⟨RX8, "hangingRolls", "()I"⟩
def RX9 : String := "KeeperRollsModel"
def TX9 : u_T := fun k => match k with
  | 0 => ("KeeperRollsModel", "cells", "[J", true)
  | 1 => ("KeeperRollsModel", "sizes", "[I", true)
  | 2 => ("KeeperRollsModel", "pegs", "[I", true)
  | 3 => ("KeeperRollsModel", "taken", "[Z", true)
  | 4 => ("KeeperRollsModel", "hasBoard", "Z", false)
  | 5 => ("KeeperRollsModel", "rows", "I", false)
  | 6 => ("KeeperRollsModel", "width", "I", false)
  | _ => ("KeeperRollsModel", "told", "I", false)
def tyX9 : Nat → FieldType := fun k => match k with
  | 0 => .array .long
  | 1 => .array .int
  | 2 => .array .int
  | 3 => .array .boolean
  | 4 => .boolean
  | 5 => .int
  | 6 => .int
  | _ => .int
abbrev wsX90 : List Cond := u_ws RX9 TX9 8
theorem nmX9 : ∀ a, a < 8 → ∀ b, b < 8 → a ≠ b → (TX9 a).2.1 ≠ (TX9 b).2.1 := by decide +kernel
theorem tyX9_ok : ∀ k, k < 8 → parseFieldDescriptor (TX9 k).2.2.1 = some (tyX9 k) := by decide +kernel
abbrev cX9_init : ByteArray := prog_11_method_1_code
def yX9_init : MethodName := ⟨RX9, "<init>", "()V"⟩
abbrev cX9_rounded : ByteArray := prog_11_method_2_code
def yX9_rounded : MethodName := ⟨RX9, "rounded", "(J)J"⟩
abbrev cX9_lowest : ByteArray := prog_11_method_3_code
def yX9_lowest : MethodName := ⟨RX9, "lowest", "(JJZ)J"⟩
abbrev cX9_bounded : ByteArray := prog_11_method_4_code
def yX9_bounded : MethodName := ⟨RX9, "bounded", "(J)J"⟩
abbrev cX9_fitted : ByteArray := prog_11_method_5_code
def yX9_fitted : MethodName := ⟨RX9, "fitted", "(IJ)J"⟩
abbrev cX9_raised : ByteArray := prog_11_method_6_code
def yX9_raised : MethodName := ⟨RX9, "raised", "(IJJ)J"⟩
abbrev cX9_multiplied : ByteArray := prog_11_method_7_code
def yX9_multiplied : MethodName := ⟨RX9, "multiplied", "(IJJ)J"⟩
abbrev cX9_isRoll : ByteArray := prog_11_method_8_code
def yX9_isRoll : MethodName := ⟨RX9, "isRoll", "(I)Z"⟩
abbrev cX9_lacks : ByteArray := prog_11_method_9_code
def yX9_lacks : MethodName := ⟨RX9, "lacks", "(II)I"⟩
abbrev cX9_tells : ByteArray := prog_11_method_10_code
def yX9_tells : MethodName := ⟨RX9, "tells", "(IIJ)I"⟩
abbrev cX9_hang : ByteArray := prog_11_method_11_code
def yX9_hang : MethodName := ⟨RX9, "hang", "(II)I"⟩
abbrev cX9_tear : ByteArray := prog_11_method_12_code
def yX9_tear : MethodName := ⟨RX9, "tear", "(I)I"⟩
abbrev cX9_read : ByteArray := prog_11_method_13_code
def yX9_read : MethodName := ⟨RX9, "read", "(II)I"⟩
abbrev cX9_mark : ByteArray := prog_11_method_14_code
def yX9_mark : MethodName := ⟨RX9, "mark", "(III)I"⟩
abbrev cX9_more : ByteArray := prog_11_method_15_code
def yX9_more : MethodName := ⟨RX9, "more", "(III)I"⟩
abbrev cX9_times : ByteArray := prog_11_method_16_code
def yX9_times : MethodName := ⟨RX9, "times", "(III)I"⟩
abbrev cX9_size : ByteArray := prog_11_method_17_code
def yX9_size : MethodName := ⟨RX9, "size", "(I)I"⟩
abbrev cX9_pour : ByteArray := prog_11_method_18_code
def yX9_pour : MethodName := ⟨RX9, "pour", "(IIII)I"⟩
abbrev cX9_board : ByteArray := prog_11_method_19_code
def yX9_board : MethodName := ⟨RX9, "board", "(II)I"⟩
abbrev cX9_lacksRow : ByteArray := prog_11_method_20_code
def yX9_lacksRow : MethodName := ⟨RX9, "lacksRow", "(I)I"⟩
abbrev cX9_lacksPeg : ByteArray := prog_11_method_21_code
def yX9_lacksPeg : MethodName := ⟨RX9, "lacksPeg", "(II)I"⟩
abbrev cX9_peg : ByteArray := prog_11_method_22_code
def yX9_peg : MethodName := ⟨RX9, "peg", "(III)I"⟩
abbrev cX9_look : ByteArray := prog_11_method_23_code
def yX9_look : MethodName := ⟨RX9, "look", "(II)I"⟩
abbrev cX9_take : ByteArray := prog_11_method_24_code
def yX9_take : MethodName := ⟨RX9, "take", "(I)I"⟩
abbrev cX9_width : ByteArray := prog_11_method_25_code
def yX9_width : MethodName := ⟨RX9, "width", "(I)I"⟩
abbrev cX9_told : ByteArray := prog_11_method_26_code
def yX9_told : MethodName := ⟨RX9, "told", "()I"⟩
abbrev cX9_count : ByteArray := prog_11_method_27_code
def yX9_count : MethodName := ⟨RX9, "count", "(I)I"⟩
def RL : String := "KeeperRollsLaw"
abbrev cL_law : ByteArray := code
def yL_law : MethodName := ⟨RL, "law", "([I)Z"⟩
set_option maxRecDepth 20000 in
theorem inX0 : ∀ w ∈ wsX00, w ∈ lw_tbl := by decide +kernel
set_option maxRecDepth 20000 in
theorem inX1 : ∀ w ∈ wsX10, w ∈ lw_tbl := by decide +kernel
set_option maxRecDepth 20000 in
theorem inX2 : ∀ w ∈ wsX20, w ∈ lw_tbl := by decide +kernel
set_option maxRecDepth 20000 in
theorem inX3 : ∀ w ∈ wsX30, w ∈ lw_tbl := by decide +kernel
set_option maxRecDepth 20000 in
theorem inX4 : ∀ w ∈ wsX40, w ∈ lw_tbl := by decide +kernel
set_option maxRecDepth 20000 in
theorem inX5 : ∀ w ∈ wsX50, w ∈ lw_tbl := by decide +kernel
set_option maxRecDepth 20000 in
theorem inX6 : ∀ w ∈ wsX60, w ∈ lw_tbl := by decide +kernel
set_option maxRecDepth 20000 in
theorem inX7 : ∀ w ∈ wsX70, w ∈ lw_tbl := by decide +kernel
set_option maxRecDepth 20000 in
theorem inX8 : ∀ w ∈ wsX80, w ∈ lw_tbl := by decide +kernel
set_option maxRecDepth 20000 in
theorem inX9 : ∀ w ∈ wsX90, w ∈ lw_tbl := by decide +kernel
abbrev vwCl : List vw_C := [(RX0, TX0, 3), (RX1, TX1, 3), (RX2, TX2, 3), (RX3, TX3, 3), (RX4, TX4, 3), (RX6, TX6, 5), (RX8, TX8, 3), (RX9, TX9, 8)]
end
section
/-! the tables' words, each by its place -/
theorem tb_0 : (Cond.initialized RL) ∈ lw_tbl := List.mem_append_right _ (List.mem_of_getElem? (i := 0) (by decide +kernel))
theorem tb_1 : (Cond.initialized RX8) ∈ lw_tbl := List.mem_append_right _ (List.mem_of_getElem? (i := 1) (by decide +kernel))
theorem tb_2 : (Cond.initialized RX7) ∈ lw_tbl := List.mem_append_right _ (List.mem_of_getElem? (i := 2) (by decide +kernel))
theorem tb_3 : (Cond.initialized RX5) ∈ lw_tbl := List.mem_append_right _ (List.mem_of_getElem? (i := 3) (by decide +kernel))
theorem tb_4 : (Cond.initialized RX3) ∈ lw_tbl := List.mem_append_right _ (List.mem_of_getElem? (i := 4) (by decide +kernel))
theorem tb_5 : (Cond.initialized RX0) ∈ lw_tbl := List.mem_append_right _ (List.mem_of_getElem? (i := 5) (by decide +kernel))
theorem tb_6 : (Cond.initialized RX1) ∈ lw_tbl := List.mem_append_right _ (List.mem_of_getElem? (i := 6) (by decide +kernel))
theorem tb_7 : (Cond.initialized RX2) ∈ lw_tbl := List.mem_append_right _ (List.mem_of_getElem? (i := 7) (by decide +kernel))
theorem tb_8 : (Cond.initialized RX4) ∈ lw_tbl := List.mem_append_right _ (List.mem_of_getElem? (i := 8) (by decide +kernel))
theorem tb_9 : (Cond.initialized RX6) ∈ lw_tbl := List.mem_append_right _ (List.mem_of_getElem? (i := 9) (by decide +kernel))
theorem tb_10 : (Cond.initialized RX9) ∈ lw_tbl := List.mem_append_right _ (List.mem_of_getElem? (i := 10) (by decide +kernel))
theorem tb_11 : (Cond.classLink RL (7) RX8) ∈ lw_tbl := List.mem_append_right _ (List.mem_of_getElem? (i := 11) (by decide +kernel))
theorem tb_12 : (Cond.instantiable RX8 (3)) ∈ lw_tbl := List.mem_append_right _ (List.mem_of_getElem? (i := 12) (by decide +kernel))
theorem tb_13 : (Cond.methodLink RL (9) yX8_init) ∈ lw_tbl := List.mem_append_right _ (List.mem_of_getElem? (i := 13) (by decide +kernel))
theorem tb_14 : (Cond.instanceMethod yX8_init) ∈ lw_tbl := List.mem_append_right _ (List.mem_of_getElem? (i := 14) (by decide +kernel))
theorem tb_15 : (Cond.code yX8_init cX8_init (1) (none : Option Jvm.ClassFile.FieldType)) ∈ lw_tbl := List.mem_append_right _ (List.mem_of_getElem? (i := 15) (by decide +kernel))
theorem tb_16 : (Cond.methodLink RX8 (1) objectInit) ∈ lw_tbl := List.mem_append_right _ (List.mem_of_getElem? (i := 16) (by decide +kernel))
theorem tb_17 : (Cond.instanceMethod objectInit) ∈ lw_tbl := List.mem_append_right _ (List.mem_of_getElem? (i := 17) (by decide +kernel))
theorem tb_18 : (Cond.code objectInit object_method_1_code (1) (none : Option Jvm.ClassFile.FieldType)) ∈ lw_tbl := List.mem_append_right _ (List.mem_of_getElem? (i := 18) (by decide +kernel))
theorem tb_19 : (Cond.classLink RX8 (7) RX7) ∈ lw_tbl := List.mem_append_right _ (List.mem_of_getElem? (i := 19) (by decide +kernel))
theorem tb_20 : (Cond.arrayOver (.object RX7)) ∈ lw_tbl := List.mem_append_right _ (List.mem_of_getElem? (i := 20) (by decide +kernel))
theorem tb_21 : (Cond.classLink RX8 (9) RX3) ∈ lw_tbl := List.mem_append_right _ (List.mem_of_getElem? (i := 21) (by decide +kernel))
theorem tb_22 : (Cond.instantiable RX3 (3)) ∈ lw_tbl := List.mem_append_right _ (List.mem_of_getElem? (i := 22) (by decide +kernel))
theorem tb_23 : (Cond.methodLinkNest RX8 (11) yX3_init RX8) ∈ lw_tbl := List.mem_append_right _ (List.mem_of_getElem? (i := 23) (by decide +kernel))
theorem tb_24 : (Cond.instanceMethod yX3_init) ∈ lw_tbl := List.mem_append_right _ (List.mem_of_getElem? (i := 24) (by decide +kernel))
theorem tb_25 : (Cond.code yX3_init cX3_init (1) (none : Option Jvm.ClassFile.FieldType)) ∈ lw_tbl := List.mem_append_right _ (List.mem_of_getElem? (i := 25) (by decide +kernel))
theorem tb_26 : (Cond.methodLinkNest RX3 (3) yX5_init RX8) ∈ lw_tbl := List.mem_append_right _ (List.mem_of_getElem? (i := 26) (by decide +kernel))
theorem tb_27 : (Cond.instanceMethod yX5_init) ∈ lw_tbl := List.mem_append_right _ (List.mem_of_getElem? (i := 27) (by decide +kernel))
theorem tb_28 : (Cond.code yX5_init cX5_init (1) (none : Option Jvm.ClassFile.FieldType)) ∈ lw_tbl := List.mem_append_right _ (List.mem_of_getElem? (i := 28) (by decide +kernel))
theorem tb_29 : (Cond.methodLinkNest RX5 (1) yX7_init RX8) ∈ lw_tbl := List.mem_append_right _ (List.mem_of_getElem? (i := 29) (by decide +kernel))
theorem tb_30 : (Cond.instanceMethod yX7_init) ∈ lw_tbl := List.mem_append_right _ (List.mem_of_getElem? (i := 30) (by decide +kernel))
theorem tb_31 : (Cond.code yX7_init cX7_init (1) (none : Option Jvm.ClassFile.FieldType)) ∈ lw_tbl := List.mem_append_right _ (List.mem_of_getElem? (i := 31) (by decide +kernel))
theorem tb_32 : (Cond.methodLink RX7 (1) objectInit) ∈ lw_tbl := List.mem_append_right _ (List.mem_of_getElem? (i := 32) (by decide +kernel))
theorem tb_33 : (Cond.fieldLink RX3 (9) RX3 "cells" "[C") ∈ lw_tbl := List.mem_append_right _ (List.mem_of_getElem? (i := 33) (by decide +kernel))
theorem tb_34 : (Cond.fieldLink RX8 (53) RX7 "hangs" "Z") ∈ lw_tbl := List.mem_append_right _ (List.mem_of_getElem? (i := 34) (by decide +kernel))
theorem tb_35 : (Cond.fieldLink RX7 (17) RX7 "hangs" "Z") ∈ lw_tbl := List.mem_append_right _ (List.mem_of_getElem? (i := 35) (by decide +kernel))
theorem tb_36 : (Cond.fieldLink RX7 (13) RX7 "length" "I") ∈ lw_tbl := List.mem_append_right _ (List.mem_of_getElem? (i := 36) (by decide +kernel))
theorem tb_37 : (Cond.fieldLink RX8 (74) RX7 "length" "I") ∈ lw_tbl := List.mem_append_right _ (List.mem_of_getElem? (i := 37) (by decide +kernel))
theorem tb_38 : (Cond.laysFinal RX3 RX3 "cells" "[C") ∈ lw_tbl := List.mem_append_right _ (List.mem_of_getElem? (i := 38) (by decide +kernel))
theorem tb_39 : (Cond.soleField RX3 "cells") ∈ lw_tbl := List.mem_append_right _ (List.mem_of_getElem? (i := 39) (by decide +kernel))
theorem tb_40 : (Cond.lays RX3 RX7 "hangs" "Z") ∈ lw_tbl := List.mem_append_right _ (List.mem_of_getElem? (i := 40) (by decide +kernel))
theorem tb_41 : (Cond.soleField RX7 "hangs") ∈ lw_tbl := List.mem_append_right _ (List.mem_of_getElem? (i := 41) (by decide +kernel))
theorem tb_42 : (Cond.lays RX3 RX7 "length" "I") ∈ lw_tbl := List.mem_append_right _ (List.mem_of_getElem? (i := 42) (by decide +kernel))
theorem tb_43 : (Cond.soleField RX7 "length") ∈ lw_tbl := List.mem_append_right _ (List.mem_of_getElem? (i := 43) (by decide +kernel))
theorem tb_44 : (Cond.superclass RX3 RX5) ∈ lw_tbl := List.mem_append_right _ (List.mem_of_getElem? (i := 44) (by decide +kernel))
theorem tb_45 : (Cond.arrayClass .char) ∈ lw_tbl := List.mem_append_right _ (List.mem_of_getElem? (i := 45) (by decide +kernel))
theorem tb_46 : (Cond.classLink RX8 (12) RX0) ∈ lw_tbl := List.mem_append_right _ (List.mem_of_getElem? (i := 46) (by decide +kernel))
theorem tb_47 : (Cond.instantiable RX0 (3)) ∈ lw_tbl := List.mem_append_right _ (List.mem_of_getElem? (i := 47) (by decide +kernel))
theorem tb_48 : (Cond.methodLinkNest RX8 (14) yX0_init RX8) ∈ lw_tbl := List.mem_append_right _ (List.mem_of_getElem? (i := 48) (by decide +kernel))
theorem tb_49 : (Cond.instanceMethod yX0_init) ∈ lw_tbl := List.mem_append_right _ (List.mem_of_getElem? (i := 49) (by decide +kernel))
theorem tb_50 : (Cond.code yX0_init cX0_init (1) (none : Option Jvm.ClassFile.FieldType)) ∈ lw_tbl := List.mem_append_right _ (List.mem_of_getElem? (i := 50) (by decide +kernel))
theorem tb_51 : (Cond.methodLinkNest RX0 (3) yX5_init RX8) ∈ lw_tbl := List.mem_append_right _ (List.mem_of_getElem? (i := 51) (by decide +kernel))
theorem tb_52 : (Cond.fieldLink RX0 (9) RX0 "cells" "[S") ∈ lw_tbl := List.mem_append_right _ (List.mem_of_getElem? (i := 52) (by decide +kernel))
theorem tb_53 : (Cond.laysFinal RX0 RX0 "cells" "[S") ∈ lw_tbl := List.mem_append_right _ (List.mem_of_getElem? (i := 53) (by decide +kernel))
theorem tb_54 : (Cond.soleField RX0 "cells") ∈ lw_tbl := List.mem_append_right _ (List.mem_of_getElem? (i := 54) (by decide +kernel))
theorem tb_55 : (Cond.lays RX0 RX7 "hangs" "Z") ∈ lw_tbl := List.mem_append_right _ (List.mem_of_getElem? (i := 55) (by decide +kernel))
theorem tb_56 : (Cond.lays RX0 RX7 "length" "I") ∈ lw_tbl := List.mem_append_right _ (List.mem_of_getElem? (i := 56) (by decide +kernel))
theorem tb_57 : (Cond.superclass RX0 RX5) ∈ lw_tbl := List.mem_append_right _ (List.mem_of_getElem? (i := 57) (by decide +kernel))
theorem tb_58 : (Cond.arrayClass .short) ∈ lw_tbl := List.mem_append_right _ (List.mem_of_getElem? (i := 58) (by decide +kernel))
theorem tb_59 : (Cond.classLink RX8 (15) RX1) ∈ lw_tbl := List.mem_append_right _ (List.mem_of_getElem? (i := 59) (by decide +kernel))
theorem tb_60 : (Cond.instantiable RX1 (3)) ∈ lw_tbl := List.mem_append_right _ (List.mem_of_getElem? (i := 60) (by decide +kernel))
theorem tb_61 : (Cond.methodLinkNest RX8 (17) yX1_init RX8) ∈ lw_tbl := List.mem_append_right _ (List.mem_of_getElem? (i := 61) (by decide +kernel))
theorem tb_62 : (Cond.instanceMethod yX1_init) ∈ lw_tbl := List.mem_append_right _ (List.mem_of_getElem? (i := 62) (by decide +kernel))
theorem tb_63 : (Cond.code yX1_init cX1_init (1) (none : Option Jvm.ClassFile.FieldType)) ∈ lw_tbl := List.mem_append_right _ (List.mem_of_getElem? (i := 63) (by decide +kernel))
theorem tb_64 : (Cond.methodLinkNest RX1 (3) yX7_init RX8) ∈ lw_tbl := List.mem_append_right _ (List.mem_of_getElem? (i := 64) (by decide +kernel))
theorem tb_65 : (Cond.fieldLink RX1 (9) RX1 "cells" "[F") ∈ lw_tbl := List.mem_append_right _ (List.mem_of_getElem? (i := 65) (by decide +kernel))
theorem tb_66 : (Cond.laysFinal RX1 RX1 "cells" "[F") ∈ lw_tbl := List.mem_append_right _ (List.mem_of_getElem? (i := 66) (by decide +kernel))
theorem tb_67 : (Cond.soleField RX1 "cells") ∈ lw_tbl := List.mem_append_right _ (List.mem_of_getElem? (i := 67) (by decide +kernel))
theorem tb_68 : (Cond.lays RX1 RX7 "hangs" "Z") ∈ lw_tbl := List.mem_append_right _ (List.mem_of_getElem? (i := 68) (by decide +kernel))
theorem tb_69 : (Cond.lays RX1 RX7 "length" "I") ∈ lw_tbl := List.mem_append_right _ (List.mem_of_getElem? (i := 69) (by decide +kernel))
theorem tb_70 : (Cond.superclass RX1 RX7) ∈ lw_tbl := List.mem_append_right _ (List.mem_of_getElem? (i := 70) (by decide +kernel))
theorem tb_71 : (Cond.arrayClass .float) ∈ lw_tbl := List.mem_append_right _ (List.mem_of_getElem? (i := 71) (by decide +kernel))
theorem tb_72 : (Cond.classLink RX8 (18) RX2) ∈ lw_tbl := List.mem_append_right _ (List.mem_of_getElem? (i := 72) (by decide +kernel))
theorem tb_73 : (Cond.instantiable RX2 (3)) ∈ lw_tbl := List.mem_append_right _ (List.mem_of_getElem? (i := 73) (by decide +kernel))
theorem tb_74 : (Cond.methodLinkNest RX8 (20) yX2_init RX8) ∈ lw_tbl := List.mem_append_right _ (List.mem_of_getElem? (i := 74) (by decide +kernel))
theorem tb_75 : (Cond.instanceMethod yX2_init) ∈ lw_tbl := List.mem_append_right _ (List.mem_of_getElem? (i := 75) (by decide +kernel))
theorem tb_76 : (Cond.code yX2_init cX2_init (1) (none : Option Jvm.ClassFile.FieldType)) ∈ lw_tbl := List.mem_append_right _ (List.mem_of_getElem? (i := 76) (by decide +kernel))
theorem tb_77 : (Cond.methodLinkNest RX2 (3) yX7_init RX8) ∈ lw_tbl := List.mem_append_right _ (List.mem_of_getElem? (i := 77) (by decide +kernel))
theorem tb_78 : (Cond.fieldLink RX2 (9) RX2 "cells" "[Z") ∈ lw_tbl := List.mem_append_right _ (List.mem_of_getElem? (i := 78) (by decide +kernel))
theorem tb_79 : (Cond.laysFinal RX2 RX2 "cells" "[Z") ∈ lw_tbl := List.mem_append_right _ (List.mem_of_getElem? (i := 79) (by decide +kernel))
theorem tb_80 : (Cond.soleField RX2 "cells") ∈ lw_tbl := List.mem_append_right _ (List.mem_of_getElem? (i := 80) (by decide +kernel))
theorem tb_81 : (Cond.lays RX2 RX7 "hangs" "Z") ∈ lw_tbl := List.mem_append_right _ (List.mem_of_getElem? (i := 81) (by decide +kernel))
theorem tb_82 : (Cond.lays RX2 RX7 "length" "I") ∈ lw_tbl := List.mem_append_right _ (List.mem_of_getElem? (i := 82) (by decide +kernel))
theorem tb_83 : (Cond.superclass RX2 RX7) ∈ lw_tbl := List.mem_append_right _ (List.mem_of_getElem? (i := 83) (by decide +kernel))
theorem tb_84 : (Cond.arrayClass .boolean) ∈ lw_tbl := List.mem_append_right _ (List.mem_of_getElem? (i := 84) (by decide +kernel))
theorem tb_85 : (Cond.classLink RX8 (21) RX4) ∈ lw_tbl := List.mem_append_right _ (List.mem_of_getElem? (i := 85) (by decide +kernel))
theorem tb_86 : (Cond.instantiable RX4 (3)) ∈ lw_tbl := List.mem_append_right _ (List.mem_of_getElem? (i := 86) (by decide +kernel))
theorem tb_87 : (Cond.methodLinkNest RX8 (23) yX4_init RX8) ∈ lw_tbl := List.mem_append_right _ (List.mem_of_getElem? (i := 87) (by decide +kernel))
theorem tb_88 : (Cond.instanceMethod yX4_init) ∈ lw_tbl := List.mem_append_right _ (List.mem_of_getElem? (i := 88) (by decide +kernel))
theorem tb_89 : (Cond.code yX4_init cX4_init (1) (none : Option Jvm.ClassFile.FieldType)) ∈ lw_tbl := List.mem_append_right _ (List.mem_of_getElem? (i := 89) (by decide +kernel))
theorem tb_90 : (Cond.methodLinkNest RX4 (3) yX5_init RX8) ∈ lw_tbl := List.mem_append_right _ (List.mem_of_getElem? (i := 90) (by decide +kernel))
theorem tb_91 : (Cond.fieldLink RX4 (9) RX4 "cells" "[B") ∈ lw_tbl := List.mem_append_right _ (List.mem_of_getElem? (i := 91) (by decide +kernel))
theorem tb_92 : (Cond.laysFinal RX4 RX4 "cells" "[B") ∈ lw_tbl := List.mem_append_right _ (List.mem_of_getElem? (i := 92) (by decide +kernel))
theorem tb_93 : (Cond.soleField RX4 "cells") ∈ lw_tbl := List.mem_append_right _ (List.mem_of_getElem? (i := 93) (by decide +kernel))
theorem tb_94 : (Cond.lays RX4 RX7 "hangs" "Z") ∈ lw_tbl := List.mem_append_right _ (List.mem_of_getElem? (i := 94) (by decide +kernel))
theorem tb_95 : (Cond.lays RX4 RX7 "length" "I") ∈ lw_tbl := List.mem_append_right _ (List.mem_of_getElem? (i := 95) (by decide +kernel))
theorem tb_96 : (Cond.superclass RX4 RX5) ∈ lw_tbl := List.mem_append_right _ (List.mem_of_getElem? (i := 96) (by decide +kernel))
theorem tb_97 : (Cond.arrayClass .byte) ∈ lw_tbl := List.mem_append_right _ (List.mem_of_getElem? (i := 97) (by decide +kernel))
theorem tb_98 : (Cond.classLink RX8 (30) RX6) ∈ lw_tbl := List.mem_append_right _ (List.mem_of_getElem? (i := 98) (by decide +kernel))
theorem tb_99 : (Cond.instantiable RX6 (5)) ∈ lw_tbl := List.mem_append_right _ (List.mem_of_getElem? (i := 99) (by decide +kernel))
theorem tb_100 : (Cond.methodLinkNest RX8 (32) yX6_init RX8) ∈ lw_tbl := List.mem_append_right _ (List.mem_of_getElem? (i := 100) (by decide +kernel))
theorem tb_101 : (Cond.instanceMethod yX6_init) ∈ lw_tbl := List.mem_append_right _ (List.mem_of_getElem? (i := 101) (by decide +kernel))
theorem tb_102 : (Cond.code yX6_init cX6_init (1) (none : Option Jvm.ClassFile.FieldType)) ∈ lw_tbl := List.mem_append_right _ (List.mem_of_getElem? (i := 102) (by decide +kernel))
theorem tb_103 : (Cond.methodLink RX6 (3) objectInit) ∈ lw_tbl := List.mem_append_right _ (List.mem_of_getElem? (i := 103) (by decide +kernel))
theorem tb_104 : (Cond.classLink RX6 (9) "[[I") ∈ lw_tbl := List.mem_append_right _ (List.mem_of_getElem? (i := 104) (by decide +kernel))
theorem tb_105 : (Cond.arrayOver (.array .int)) ∈ lw_tbl := List.mem_append_right _ (List.mem_of_getElem? (i := 105) (by decide +kernel))
theorem tb_106 : (Cond.fieldLink RX6 (11) RX6 "values" "[[I") ∈ lw_tbl := List.mem_append_right _ (List.mem_of_getElem? (i := 106) (by decide +kernel))
theorem tb_107 : (Cond.fieldLink RX8 (83) RX6 "values" "[[I") ∈ lw_tbl := List.mem_append_right _ (List.mem_of_getElem? (i := 107) (by decide +kernel))
theorem tb_108 : (Cond.fieldLink RX6 (16) RX6 "taken" "[Z") ∈ lw_tbl := List.mem_append_right _ (List.mem_of_getElem? (i := 108) (by decide +kernel))
theorem tb_109 : (Cond.fieldLink RX8 (90) RX6 "taken" "[Z") ∈ lw_tbl := List.mem_append_right _ (List.mem_of_getElem? (i := 109) (by decide +kernel))
theorem tb_110 : (Cond.fieldLink RX6 (27) RX6 "stands" "Z") ∈ lw_tbl := List.mem_append_right _ (List.mem_of_getElem? (i := 110) (by decide +kernel))
theorem tb_111 : (Cond.fieldLink RX8 (104) RX6 "stands" "Z") ∈ lw_tbl := List.mem_append_right _ (List.mem_of_getElem? (i := 111) (by decide +kernel))
theorem tb_112 : (Cond.fieldLink RX6 (20) RX6 "rows" "I") ∈ lw_tbl := List.mem_append_right _ (List.mem_of_getElem? (i := 112) (by decide +kernel))
theorem tb_113 : (Cond.fieldLink RX8 (107) RX6 "rows" "I") ∈ lw_tbl := List.mem_append_right _ (List.mem_of_getElem? (i := 113) (by decide +kernel))
theorem tb_114 : (Cond.fieldLink RX6 (24) RX6 "cells" "I") ∈ lw_tbl := List.mem_append_right _ (List.mem_of_getElem? (i := 114) (by decide +kernel))
theorem tb_115 : (Cond.fieldLink RX8 (97) RX6 "cells" "I") ∈ lw_tbl := List.mem_append_right _ (List.mem_of_getElem? (i := 115) (by decide +kernel))
theorem tb_116 : (Cond.laysFinal RX6 RX6 "values" "[[I") ∈ lw_tbl := List.mem_append_right _ (List.mem_of_getElem? (i := 116) (by decide +kernel))
theorem tb_117 : (Cond.soleField RX6 "values") ∈ lw_tbl := List.mem_append_right _ (List.mem_of_getElem? (i := 117) (by decide +kernel))
theorem tb_118 : (Cond.laysFinal RX6 RX6 "taken" "[Z") ∈ lw_tbl := List.mem_append_right _ (List.mem_of_getElem? (i := 118) (by decide +kernel))
theorem tb_119 : (Cond.soleField RX6 "taken") ∈ lw_tbl := List.mem_append_right _ (List.mem_of_getElem? (i := 119) (by decide +kernel))
theorem tb_120 : (Cond.lays RX6 RX6 "stands" "Z") ∈ lw_tbl := List.mem_append_right _ (List.mem_of_getElem? (i := 120) (by decide +kernel))
theorem tb_121 : (Cond.soleField RX6 "stands") ∈ lw_tbl := List.mem_append_right _ (List.mem_of_getElem? (i := 121) (by decide +kernel))
theorem tb_122 : (Cond.lays RX6 RX6 "rows" "I") ∈ lw_tbl := List.mem_append_right _ (List.mem_of_getElem? (i := 122) (by decide +kernel))
theorem tb_123 : (Cond.soleField RX6 "rows") ∈ lw_tbl := List.mem_append_right _ (List.mem_of_getElem? (i := 123) (by decide +kernel))
theorem tb_124 : (Cond.lays RX6 RX6 "cells" "I") ∈ lw_tbl := List.mem_append_right _ (List.mem_of_getElem? (i := 124) (by decide +kernel))
theorem tb_125 : (Cond.soleField RX6 "cells") ∈ lw_tbl := List.mem_append_right _ (List.mem_of_getElem? (i := 125) (by decide +kernel))
theorem tb_126 : (Cond.superclass RX6 "java/lang/Object") ∈ lw_tbl := List.mem_append_right _ (List.mem_of_getElem? (i := 126) (by decide +kernel))
theorem tb_127 : (Cond.arrayClass .int) ∈ lw_tbl := List.mem_append_right _ (List.mem_of_getElem? (i := 127) (by decide +kernel))
theorem tb_128 : (Cond.fieldLink RX8 (24) RX8 "rolls" "[LKeeperRolls$Roll;") ∈ lw_tbl := List.mem_append_right _ (List.mem_of_getElem? (i := 128) (by decide +kernel))
theorem tb_129 : (Cond.fieldLink RX8 (33) RX8 "pegs" "LKeeperRolls$PegBoard;") ∈ lw_tbl := List.mem_append_right _ (List.mem_of_getElem? (i := 129) (by decide +kernel))
theorem tb_130 : (Cond.fieldLink RX8 (37) RX8 "latest" "I") ∈ lw_tbl := List.mem_append_right _ (List.mem_of_getElem? (i := 130) (by decide +kernel))
theorem tb_131 : (Cond.laysFinal RX8 RX8 "rolls" "[LKeeperRolls$Roll;") ∈ lw_tbl := List.mem_append_right _ (List.mem_of_getElem? (i := 131) (by decide +kernel))
theorem tb_132 : (Cond.soleField RX8 "rolls") ∈ lw_tbl := List.mem_append_right _ (List.mem_of_getElem? (i := 132) (by decide +kernel))
theorem tb_133 : (Cond.laysFinal RX8 RX8 "pegs" "LKeeperRolls$PegBoard;") ∈ lw_tbl := List.mem_append_right _ (List.mem_of_getElem? (i := 133) (by decide +kernel))
theorem tb_134 : (Cond.soleField RX8 "pegs") ∈ lw_tbl := List.mem_append_right _ (List.mem_of_getElem? (i := 134) (by decide +kernel))
theorem tb_135 : (Cond.lays RX8 RX8 "latest" "I") ∈ lw_tbl := List.mem_append_right _ (List.mem_of_getElem? (i := 135) (by decide +kernel))
theorem tb_136 : (Cond.soleField RX8 "latest") ∈ lw_tbl := List.mem_append_right _ (List.mem_of_getElem? (i := 136) (by decide +kernel))
theorem tb_137 : (Cond.superclass RX8 "java/lang/Object") ∈ lw_tbl := List.mem_append_right _ (List.mem_of_getElem? (i := 137) (by decide +kernel))
theorem tb_138 : (Cond.methodLink RL (13) yX8_hang) ∈ lw_tbl := List.mem_append_right _ (List.mem_of_getElem? (i := 138) (by decide +kernel))
theorem tb_139 : (Cond.instanceMethod yX8_hang) ∈ lw_tbl := List.mem_append_right _ (List.mem_of_getElem? (i := 139) (by decide +kernel))
theorem tb_140 : (Cond.selects RX8 yX8_hang yX8_hang) ∈ lw_tbl := List.mem_append_right _ (List.mem_of_getElem? (i := 140) (by decide +kernel))
theorem tb_141 : (Cond.code yX8_hang cX8_hang (3) (some .int)) ∈ lw_tbl := List.mem_append_right _ (List.mem_of_getElem? (i := 141) (by decide +kernel))
theorem tb_142 : (Cond.methodLink RX8 (41) yX8_isRoll) ∈ lw_tbl := List.mem_append_right _ (List.mem_of_getElem? (i := 142) (by decide +kernel))
theorem tb_143 : (Cond.privateMethod yX8_isRoll) ∈ lw_tbl := List.mem_append_right _ (List.mem_of_getElem? (i := 143) (by decide +kernel))
theorem tb_144 : (Cond.instanceMethod yX8_isRoll) ∈ lw_tbl := List.mem_append_right _ (List.mem_of_getElem? (i := 144) (by decide +kernel))
theorem tb_145 : (Cond.code yX8_isRoll cX8_isRoll (2) (some .boolean)) ∈ lw_tbl := List.mem_append_right _ (List.mem_of_getElem? (i := 145) (by decide +kernel))
theorem tb_146 : (Cond.methodLink RX8 (45) yX7_unroll) ∈ lw_tbl := List.mem_append_right _ (List.mem_of_getElem? (i := 146) (by decide +kernel))
theorem tb_147 : (Cond.instanceMethod yX7_unroll) ∈ lw_tbl := List.mem_append_right _ (List.mem_of_getElem? (i := 147) (by decide +kernel))
theorem tb_148 : (Cond.sameMethod RX7 RX7 "unroll" "(I)V") ∈ lw_tbl := List.mem_append_right _ (List.mem_of_getElem? (i := 148) (by decide +kernel))
theorem tb_149 : (Cond.selects RX0 yX7_unroll yX7_unroll) ∈ lw_tbl := List.mem_append_right _ (List.mem_of_getElem? (i := 149) (by decide +kernel))
theorem tb_150 : (Cond.selects RX1 yX7_unroll yX7_unroll) ∈ lw_tbl := List.mem_append_right _ (List.mem_of_getElem? (i := 150) (by decide +kernel))
theorem tb_151 : (Cond.selects RX2 yX7_unroll yX7_unroll) ∈ lw_tbl := List.mem_append_right _ (List.mem_of_getElem? (i := 151) (by decide +kernel))
theorem tb_152 : (Cond.selects RX3 yX7_unroll yX7_unroll) ∈ lw_tbl := List.mem_append_right _ (List.mem_of_getElem? (i := 152) (by decide +kernel))
theorem tb_153 : (Cond.selects RX4 yX7_unroll yX7_unroll) ∈ lw_tbl := List.mem_append_right _ (List.mem_of_getElem? (i := 153) (by decide +kernel))
theorem tb_154 : (Cond.code yX7_unroll cX7_unroll (3) (none : Option Jvm.ClassFile.FieldType)) ∈ lw_tbl := List.mem_append_right _ (List.mem_of_getElem? (i := 154) (by decide +kernel))
theorem tb_155 : (Cond.methodLink RX7 (7) ⟨RX7, "put", "(II)V"⟩) ∈ lw_tbl := List.mem_append_right _ (List.mem_of_getElem? (i := 155) (by decide +kernel))
theorem tb_156 : (Cond.declares ⟨RX7, "put", "(II)V"⟩) ∈ lw_tbl := List.mem_append_right _ (List.mem_of_getElem? (i := 156) (by decide +kernel))
theorem tb_157 : (Cond.sameMethod RX7 RX7 "put" "(II)V") ∈ lw_tbl := List.mem_append_right _ (List.mem_of_getElem? (i := 157) (by decide +kernel))
theorem tb_158 : (Cond.selects RX0 ⟨RX7, "put", "(II)V"⟩ yX0_put) ∈ lw_tbl := List.mem_append_right _ (List.mem_of_getElem? (i := 158) (by decide +kernel))
theorem tb_159 : (Cond.instanceMethod yX0_put) ∈ lw_tbl := List.mem_append_right _ (List.mem_of_getElem? (i := 159) (by decide +kernel))
theorem tb_160 : (Cond.code yX0_put cX0_put (3) (none : Option Jvm.ClassFile.FieldType)) ∈ lw_tbl := List.mem_append_right _ (List.mem_of_getElem? (i := 160) (by decide +kernel))
theorem tb_161 : (Cond.selects RX1 ⟨RX7, "put", "(II)V"⟩ yX1_put) ∈ lw_tbl := List.mem_append_right _ (List.mem_of_getElem? (i := 161) (by decide +kernel))
theorem tb_162 : (Cond.instanceMethod yX1_put) ∈ lw_tbl := List.mem_append_right _ (List.mem_of_getElem? (i := 162) (by decide +kernel))
theorem tb_163 : (Cond.code yX1_put cX1_put (3) (none : Option Jvm.ClassFile.FieldType)) ∈ lw_tbl := List.mem_append_right _ (List.mem_of_getElem? (i := 163) (by decide +kernel))
theorem tb_164 : (Cond.methodLink RX1 (16) yX1_real) ∈ lw_tbl := List.mem_append_right _ (List.mem_of_getElem? (i := 164) (by decide +kernel))
theorem tb_165 : (Cond.static yX1_real) ∈ lw_tbl := List.mem_append_right _ (List.mem_of_getElem? (i := 165) (by decide +kernel))
theorem tb_166 : (Cond.code yX1_real cX1_real (1) (some .float)) ∈ lw_tbl := List.mem_append_right _ (List.mem_of_getElem? (i := 166) (by decide +kernel))
theorem tb_167 : (Cond.constantFloat RX1 (15) (1098907648)) ∈ lw_tbl := List.mem_append_right _ (List.mem_of_getElem? (i := 167) (by decide +kernel))
theorem tb_168 : (Cond.selects RX2 ⟨RX7, "put", "(II)V"⟩ yX2_put) ∈ lw_tbl := List.mem_append_right _ (List.mem_of_getElem? (i := 168) (by decide +kernel))
theorem tb_169 : (Cond.instanceMethod yX2_put) ∈ lw_tbl := List.mem_append_right _ (List.mem_of_getElem? (i := 169) (by decide +kernel))
theorem tb_170 : (Cond.code yX2_put cX2_put (3) (none : Option Jvm.ClassFile.FieldType)) ∈ lw_tbl := List.mem_append_right _ (List.mem_of_getElem? (i := 170) (by decide +kernel))
theorem tb_171 : (Cond.selects RX3 ⟨RX7, "put", "(II)V"⟩ yX3_put) ∈ lw_tbl := List.mem_append_right _ (List.mem_of_getElem? (i := 171) (by decide +kernel))
theorem tb_172 : (Cond.instanceMethod yX3_put) ∈ lw_tbl := List.mem_append_right _ (List.mem_of_getElem? (i := 172) (by decide +kernel))
theorem tb_173 : (Cond.code yX3_put cX3_put (3) (none : Option Jvm.ClassFile.FieldType)) ∈ lw_tbl := List.mem_append_right _ (List.mem_of_getElem? (i := 173) (by decide +kernel))
theorem tb_174 : (Cond.selects RX4 ⟨RX7, "put", "(II)V"⟩ yX4_put) ∈ lw_tbl := List.mem_append_right _ (List.mem_of_getElem? (i := 174) (by decide +kernel))
theorem tb_175 : (Cond.instanceMethod yX4_put) ∈ lw_tbl := List.mem_append_right _ (List.mem_of_getElem? (i := 175) (by decide +kernel))
theorem tb_176 : (Cond.code yX4_put cX4_put (3) (none : Option Jvm.ClassFile.FieldType)) ∈ lw_tbl := List.mem_append_right _ (List.mem_of_getElem? (i := 176) (by decide +kernel))
theorem tb_177 : (Cond.methodLink RL (18) yX8_tear) ∈ lw_tbl := List.mem_append_right _ (List.mem_of_getElem? (i := 177) (by decide +kernel))
theorem tb_178 : (Cond.instanceMethod yX8_tear) ∈ lw_tbl := List.mem_append_right _ (List.mem_of_getElem? (i := 178) (by decide +kernel))
theorem tb_179 : (Cond.selects RX8 yX8_tear yX8_tear) ∈ lw_tbl := List.mem_append_right _ (List.mem_of_getElem? (i := 179) (by decide +kernel))
theorem tb_180 : (Cond.code yX8_tear cX8_tear (3) (some .int)) ∈ lw_tbl := List.mem_append_right _ (List.mem_of_getElem? (i := 180) (by decide +kernel))
theorem tb_181 : (Cond.methodLink RX8 (49) yX8_answerOfRoll) ∈ lw_tbl := List.mem_append_right _ (List.mem_of_getElem? (i := 181) (by decide +kernel))
theorem tb_182 : (Cond.privateMethod yX8_answerOfRoll) ∈ lw_tbl := List.mem_append_right _ (List.mem_of_getElem? (i := 182) (by decide +kernel))
theorem tb_183 : (Cond.instanceMethod yX8_answerOfRoll) ∈ lw_tbl := List.mem_append_right _ (List.mem_of_getElem? (i := 183) (by decide +kernel))
theorem tb_184 : (Cond.code yX8_answerOfRoll cX8_answerOfRoll (2) (some .int)) ∈ lw_tbl := List.mem_append_right _ (List.mem_of_getElem? (i := 184) (by decide +kernel))
theorem tb_185 : (Cond.methodLink RL (23) yX8_read) ∈ lw_tbl := List.mem_append_right _ (List.mem_of_getElem? (i := 185) (by decide +kernel))
theorem tb_186 : (Cond.instanceMethod yX8_read) ∈ lw_tbl := List.mem_append_right _ (List.mem_of_getElem? (i := 186) (by decide +kernel))
theorem tb_187 : (Cond.selects RX8 yX8_read yX8_read) ∈ lw_tbl := List.mem_append_right _ (List.mem_of_getElem? (i := 187) (by decide +kernel))
theorem tb_188 : (Cond.code yX8_read cX8_read (4) (some .int)) ∈ lw_tbl := List.mem_append_right _ (List.mem_of_getElem? (i := 188) (by decide +kernel))
theorem tb_189 : (Cond.methodLink RX8 (57) yX8_answerOfCell) ∈ lw_tbl := List.mem_append_right _ (List.mem_of_getElem? (i := 189) (by decide +kernel))
theorem tb_190 : (Cond.privateMethod yX8_answerOfCell) ∈ lw_tbl := List.mem_append_right _ (List.mem_of_getElem? (i := 190) (by decide +kernel))
theorem tb_191 : (Cond.instanceMethod yX8_answerOfCell) ∈ lw_tbl := List.mem_append_right _ (List.mem_of_getElem? (i := 191) (by decide +kernel))
theorem tb_192 : (Cond.code yX8_answerOfCell cX8_answerOfCell (4) (some .int)) ∈ lw_tbl := List.mem_append_right _ (List.mem_of_getElem? (i := 192) (by decide +kernel))
theorem tb_193 : (Cond.methodLink RX8 (61) ⟨RX7, "whole", "(I)I"⟩) ∈ lw_tbl := List.mem_append_right _ (List.mem_of_getElem? (i := 193) (by decide +kernel))
theorem tb_194 : (Cond.declares ⟨RX7, "whole", "(I)I"⟩) ∈ lw_tbl := List.mem_append_right _ (List.mem_of_getElem? (i := 194) (by decide +kernel))
theorem tb_195 : (Cond.sameMethod RX7 RX7 "whole" "(I)I") ∈ lw_tbl := List.mem_append_right _ (List.mem_of_getElem? (i := 195) (by decide +kernel))
theorem tb_196 : (Cond.selects RX0 ⟨RX7, "whole", "(I)I"⟩ yX0_whole) ∈ lw_tbl := List.mem_append_right _ (List.mem_of_getElem? (i := 196) (by decide +kernel))
theorem tb_197 : (Cond.instanceMethod yX0_whole) ∈ lw_tbl := List.mem_append_right _ (List.mem_of_getElem? (i := 197) (by decide +kernel))
theorem tb_198 : (Cond.code yX0_whole cX0_whole (2) (some .int)) ∈ lw_tbl := List.mem_append_right _ (List.mem_of_getElem? (i := 198) (by decide +kernel))
theorem tb_199 : (Cond.selects RX1 ⟨RX7, "whole", "(I)I"⟩ yX1_whole) ∈ lw_tbl := List.mem_append_right _ (List.mem_of_getElem? (i := 199) (by decide +kernel))
theorem tb_200 : (Cond.instanceMethod yX1_whole) ∈ lw_tbl := List.mem_append_right _ (List.mem_of_getElem? (i := 200) (by decide +kernel))
theorem tb_201 : (Cond.code yX1_whole cX1_whole (2) (some .int)) ∈ lw_tbl := List.mem_append_right _ (List.mem_of_getElem? (i := 201) (by decide +kernel))
theorem tb_202 : (Cond.selects RX2 ⟨RX7, "whole", "(I)I"⟩ yX2_whole) ∈ lw_tbl := List.mem_append_right _ (List.mem_of_getElem? (i := 202) (by decide +kernel))
theorem tb_203 : (Cond.instanceMethod yX2_whole) ∈ lw_tbl := List.mem_append_right _ (List.mem_of_getElem? (i := 203) (by decide +kernel))
theorem tb_204 : (Cond.code yX2_whole cX2_whole (2) (some .int)) ∈ lw_tbl := List.mem_append_right _ (List.mem_of_getElem? (i := 204) (by decide +kernel))
theorem tb_205 : (Cond.selects RX3 ⟨RX7, "whole", "(I)I"⟩ yX3_whole) ∈ lw_tbl := List.mem_append_right _ (List.mem_of_getElem? (i := 205) (by decide +kernel))
theorem tb_206 : (Cond.instanceMethod yX3_whole) ∈ lw_tbl := List.mem_append_right _ (List.mem_of_getElem? (i := 206) (by decide +kernel))
theorem tb_207 : (Cond.code yX3_whole cX3_whole (2) (some .int)) ∈ lw_tbl := List.mem_append_right _ (List.mem_of_getElem? (i := 207) (by decide +kernel))
theorem tb_208 : (Cond.selects RX4 ⟨RX7, "whole", "(I)I"⟩ yX4_whole) ∈ lw_tbl := List.mem_append_right _ (List.mem_of_getElem? (i := 208) (by decide +kernel))
theorem tb_209 : (Cond.instanceMethod yX4_whole) ∈ lw_tbl := List.mem_append_right _ (List.mem_of_getElem? (i := 209) (by decide +kernel))
theorem tb_210 : (Cond.code yX4_whole cX4_whole (2) (some .int)) ∈ lw_tbl := List.mem_append_right _ (List.mem_of_getElem? (i := 210) (by decide +kernel))
theorem tb_211 : (Cond.methodLink RL (27) yX8_mark) ∈ lw_tbl := List.mem_append_right _ (List.mem_of_getElem? (i := 211) (by decide +kernel))
theorem tb_212 : (Cond.instanceMethod yX8_mark) ∈ lw_tbl := List.mem_append_right _ (List.mem_of_getElem? (i := 212) (by decide +kernel))
theorem tb_213 : (Cond.selects RX8 yX8_mark yX8_mark) ∈ lw_tbl := List.mem_append_right _ (List.mem_of_getElem? (i := 213) (by decide +kernel))
theorem tb_214 : (Cond.code yX8_mark cX8_mark (5) (some .int)) ∈ lw_tbl := List.mem_append_right _ (List.mem_of_getElem? (i := 214) (by decide +kernel))
theorem tb_215 : (Cond.methodLink RX8 (64) ⟨RX7, "put", "(II)V"⟩) ∈ lw_tbl := List.mem_append_right _ (List.mem_of_getElem? (i := 215) (by decide +kernel))
theorem tb_216 : (Cond.methodLink RL (32) yX8_more) ∈ lw_tbl := List.mem_append_right _ (List.mem_of_getElem? (i := 216) (by decide +kernel))
theorem tb_217 : (Cond.instanceMethod yX8_more) ∈ lw_tbl := List.mem_append_right _ (List.mem_of_getElem? (i := 217) (by decide +kernel))
theorem tb_218 : (Cond.selects RX8 yX8_more yX8_more) ∈ lw_tbl := List.mem_append_right _ (List.mem_of_getElem? (i := 218) (by decide +kernel))
theorem tb_219 : (Cond.code yX8_more cX8_more (5) (some .int)) ∈ lw_tbl := List.mem_append_right _ (List.mem_of_getElem? (i := 219) (by decide +kernel))
theorem tb_220 : (Cond.methodLink RX8 (68) ⟨RX7, "raise", "(II)V"⟩) ∈ lw_tbl := List.mem_append_right _ (List.mem_of_getElem? (i := 220) (by decide +kernel))
theorem tb_221 : (Cond.declares ⟨RX7, "raise", "(II)V"⟩) ∈ lw_tbl := List.mem_append_right _ (List.mem_of_getElem? (i := 221) (by decide +kernel))
theorem tb_222 : (Cond.sameMethod RX7 RX7 "raise" "(II)V") ∈ lw_tbl := List.mem_append_right _ (List.mem_of_getElem? (i := 222) (by decide +kernel))
theorem tb_223 : (Cond.selects RX0 ⟨RX7, "raise", "(II)V"⟩ yX5_raise) ∈ lw_tbl := List.mem_append_right _ (List.mem_of_getElem? (i := 223) (by decide +kernel))
theorem tb_224 : (Cond.instanceMethod yX5_raise) ∈ lw_tbl := List.mem_append_right _ (List.mem_of_getElem? (i := 224) (by decide +kernel))
theorem tb_225 : (Cond.code yX5_raise cX5_raise (3) (none : Option Jvm.ClassFile.FieldType)) ∈ lw_tbl := List.mem_append_right _ (List.mem_of_getElem? (i := 225) (by decide +kernel))
theorem tb_226 : (Cond.methodLink RX5 (7) ⟨RX5, "whole", "(I)I"⟩) ∈ lw_tbl := List.mem_append_right _ (List.mem_of_getElem? (i := 226) (by decide +kernel))
theorem tb_227 : (Cond.sameMethod RX5 RX7 "whole" "(I)I") ∈ lw_tbl := List.mem_append_right _ (List.mem_of_getElem? (i := 227) (by decide +kernel))
theorem tb_228 : (Cond.selects RX0 ⟨RX5, "whole", "(I)I"⟩ yX0_whole) ∈ lw_tbl := List.mem_append_right _ (List.mem_of_getElem? (i := 228) (by decide +kernel))
theorem tb_229 : (Cond.selects RX3 ⟨RX5, "whole", "(I)I"⟩ yX3_whole) ∈ lw_tbl := List.mem_append_right _ (List.mem_of_getElem? (i := 229) (by decide +kernel))
theorem tb_230 : (Cond.selects RX4 ⟨RX5, "whole", "(I)I"⟩ yX4_whole) ∈ lw_tbl := List.mem_append_right _ (List.mem_of_getElem? (i := 230) (by decide +kernel))
theorem tb_231 : (Cond.methodLink RX5 (13) ⟨RX5, "put", "(II)V"⟩) ∈ lw_tbl := List.mem_append_right _ (List.mem_of_getElem? (i := 231) (by decide +kernel))
theorem tb_232 : (Cond.sameMethod RX5 RX7 "put" "(II)V") ∈ lw_tbl := List.mem_append_right _ (List.mem_of_getElem? (i := 232) (by decide +kernel))
theorem tb_233 : (Cond.selects RX0 ⟨RX5, "put", "(II)V"⟩ yX0_put) ∈ lw_tbl := List.mem_append_right _ (List.mem_of_getElem? (i := 233) (by decide +kernel))
theorem tb_234 : (Cond.selects RX3 ⟨RX5, "put", "(II)V"⟩ yX3_put) ∈ lw_tbl := List.mem_append_right _ (List.mem_of_getElem? (i := 234) (by decide +kernel))
theorem tb_235 : (Cond.selects RX4 ⟨RX5, "put", "(II)V"⟩ yX4_put) ∈ lw_tbl := List.mem_append_right _ (List.mem_of_getElem? (i := 235) (by decide +kernel))
theorem tb_236 : (Cond.selects RX1 ⟨RX7, "raise", "(II)V"⟩ yX1_raise) ∈ lw_tbl := List.mem_append_right _ (List.mem_of_getElem? (i := 236) (by decide +kernel))
theorem tb_237 : (Cond.instanceMethod yX1_raise) ∈ lw_tbl := List.mem_append_right _ (List.mem_of_getElem? (i := 237) (by decide +kernel))
theorem tb_238 : (Cond.code yX1_raise cX1_raise (3) (none : Option Jvm.ClassFile.FieldType)) ∈ lw_tbl := List.mem_append_right _ (List.mem_of_getElem? (i := 238) (by decide +kernel))
theorem tb_239 : (Cond.methodLink RX1 (20) yX1_within) ∈ lw_tbl := List.mem_append_right _ (List.mem_of_getElem? (i := 239) (by decide +kernel))
theorem tb_240 : (Cond.static yX1_within) ∈ lw_tbl := List.mem_append_right _ (List.mem_of_getElem? (i := 240) (by decide +kernel))
theorem tb_241 : (Cond.code yX1_within cX1_within (1) (some .float)) ∈ lw_tbl := List.mem_append_right _ (List.mem_of_getElem? (i := 241) (by decide +kernel))
theorem tb_242 : (Cond.constantFloat RX1 (24) (1223959552)) ∈ lw_tbl := List.mem_append_right _ (List.mem_of_getElem? (i := 242) (by decide +kernel))
theorem tb_243 : (Cond.constantFloat RX1 (25) (3371443200)) ∈ lw_tbl := List.mem_append_right _ (List.mem_of_getElem? (i := 243) (by decide +kernel))
theorem tb_244 : (Cond.selects RX2 ⟨RX7, "raise", "(II)V"⟩ yX2_raise) ∈ lw_tbl := List.mem_append_right _ (List.mem_of_getElem? (i := 244) (by decide +kernel))
theorem tb_245 : (Cond.instanceMethod yX2_raise) ∈ lw_tbl := List.mem_append_right _ (List.mem_of_getElem? (i := 245) (by decide +kernel))
theorem tb_246 : (Cond.code yX2_raise cX2_raise (3) (none : Option Jvm.ClassFile.FieldType)) ∈ lw_tbl := List.mem_append_right _ (List.mem_of_getElem? (i := 246) (by decide +kernel))
theorem tb_247 : (Cond.selects RX3 ⟨RX7, "raise", "(II)V"⟩ yX5_raise) ∈ lw_tbl := List.mem_append_right _ (List.mem_of_getElem? (i := 247) (by decide +kernel))
theorem tb_248 : (Cond.selects RX4 ⟨RX7, "raise", "(II)V"⟩ yX5_raise) ∈ lw_tbl := List.mem_append_right _ (List.mem_of_getElem? (i := 248) (by decide +kernel))
theorem tb_249 : (Cond.methodLink RL (36) yX8_times) ∈ lw_tbl := List.mem_append_right _ (List.mem_of_getElem? (i := 249) (by decide +kernel))
theorem tb_250 : (Cond.instanceMethod yX8_times) ∈ lw_tbl := List.mem_append_right _ (List.mem_of_getElem? (i := 250) (by decide +kernel))
theorem tb_251 : (Cond.selects RX8 yX8_times yX8_times) ∈ lw_tbl := List.mem_append_right _ (List.mem_of_getElem? (i := 251) (by decide +kernel))
theorem tb_252 : (Cond.code yX8_times cX8_times (5) (some .int)) ∈ lw_tbl := List.mem_append_right _ (List.mem_of_getElem? (i := 252) (by decide +kernel))
theorem tb_253 : (Cond.methodLink RX8 (71) ⟨RX7, "multiply", "(II)V"⟩) ∈ lw_tbl := List.mem_append_right _ (List.mem_of_getElem? (i := 253) (by decide +kernel))
theorem tb_254 : (Cond.declares ⟨RX7, "multiply", "(II)V"⟩) ∈ lw_tbl := List.mem_append_right _ (List.mem_of_getElem? (i := 254) (by decide +kernel))
theorem tb_255 : (Cond.sameMethod RX7 RX7 "multiply" "(II)V") ∈ lw_tbl := List.mem_append_right _ (List.mem_of_getElem? (i := 255) (by decide +kernel))
theorem tb_256 : (Cond.selects RX0 ⟨RX7, "multiply", "(II)V"⟩ yX5_multiply) ∈ lw_tbl := List.mem_append_right _ (List.mem_of_getElem? (i := 256) (by decide +kernel))
theorem tb_257 : (Cond.instanceMethod yX5_multiply) ∈ lw_tbl := List.mem_append_right _ (List.mem_of_getElem? (i := 257) (by decide +kernel))
theorem tb_258 : (Cond.code yX5_multiply cX5_multiply (3) (none : Option Jvm.ClassFile.FieldType)) ∈ lw_tbl := List.mem_append_right _ (List.mem_of_getElem? (i := 258) (by decide +kernel))
theorem tb_259 : (Cond.selects RX1 ⟨RX7, "multiply", "(II)V"⟩ yX1_multiply) ∈ lw_tbl := List.mem_append_right _ (List.mem_of_getElem? (i := 259) (by decide +kernel))
theorem tb_260 : (Cond.instanceMethod yX1_multiply) ∈ lw_tbl := List.mem_append_right _ (List.mem_of_getElem? (i := 260) (by decide +kernel))
theorem tb_261 : (Cond.code yX1_multiply cX1_multiply (3) (none : Option Jvm.ClassFile.FieldType)) ∈ lw_tbl := List.mem_append_right _ (List.mem_of_getElem? (i := 261) (by decide +kernel))
theorem tb_262 : (Cond.selects RX2 ⟨RX7, "multiply", "(II)V"⟩ yX2_multiply) ∈ lw_tbl := List.mem_append_right _ (List.mem_of_getElem? (i := 262) (by decide +kernel))
theorem tb_263 : (Cond.instanceMethod yX2_multiply) ∈ lw_tbl := List.mem_append_right _ (List.mem_of_getElem? (i := 263) (by decide +kernel))
theorem tb_264 : (Cond.code yX2_multiply cX2_multiply (3) (none : Option Jvm.ClassFile.FieldType)) ∈ lw_tbl := List.mem_append_right _ (List.mem_of_getElem? (i := 264) (by decide +kernel))
theorem tb_265 : (Cond.selects RX3 ⟨RX7, "multiply", "(II)V"⟩ yX5_multiply) ∈ lw_tbl := List.mem_append_right _ (List.mem_of_getElem? (i := 265) (by decide +kernel))
theorem tb_266 : (Cond.selects RX4 ⟨RX7, "multiply", "(II)V"⟩ yX5_multiply) ∈ lw_tbl := List.mem_append_right _ (List.mem_of_getElem? (i := 266) (by decide +kernel))
theorem tb_267 : (Cond.methodLink RL (40) yX8_size) ∈ lw_tbl := List.mem_append_right _ (List.mem_of_getElem? (i := 267) (by decide +kernel))
theorem tb_268 : (Cond.instanceMethod yX8_size) ∈ lw_tbl := List.mem_append_right _ (List.mem_of_getElem? (i := 268) (by decide +kernel))
theorem tb_269 : (Cond.selects RX8 yX8_size yX8_size) ∈ lw_tbl := List.mem_append_right _ (List.mem_of_getElem? (i := 269) (by decide +kernel))
theorem tb_270 : (Cond.code yX8_size cX8_size (3) (some .int)) ∈ lw_tbl := List.mem_append_right _ (List.mem_of_getElem? (i := 270) (by decide +kernel))
theorem tb_271 : (Cond.methodLink RL (44) yX8_pour) ∈ lw_tbl := List.mem_append_right _ (List.mem_of_getElem? (i := 271) (by decide +kernel))
theorem tb_272 : (Cond.instanceMethod yX8_pour) ∈ lw_tbl := List.mem_append_right _ (List.mem_of_getElem? (i := 272) (by decide +kernel))
theorem tb_273 : (Cond.selects RX8 yX8_pour yX8_pour) ∈ lw_tbl := List.mem_append_right _ (List.mem_of_getElem? (i := 273) (by decide +kernel))
theorem tb_274 : (Cond.code yX8_pour cX8_pour (6) (some .int)) ∈ lw_tbl := List.mem_append_right _ (List.mem_of_getElem? (i := 274) (by decide +kernel))
theorem tb_275 : (Cond.methodLink RL (49) yX8_board) ∈ lw_tbl := List.mem_append_right _ (List.mem_of_getElem? (i := 275) (by decide +kernel))
theorem tb_276 : (Cond.instanceMethod yX8_board) ∈ lw_tbl := List.mem_append_right _ (List.mem_of_getElem? (i := 276) (by decide +kernel))
theorem tb_277 : (Cond.selects RX8 yX8_board yX8_board) ∈ lw_tbl := List.mem_append_right _ (List.mem_of_getElem? (i := 277) (by decide +kernel))
theorem tb_278 : (Cond.code yX8_board cX8_board (3) (some .int)) ∈ lw_tbl := List.mem_append_right _ (List.mem_of_getElem? (i := 278) (by decide +kernel))
theorem tb_279 : (Cond.methodLink RX8 (77) yX6_setUp) ∈ lw_tbl := List.mem_append_right _ (List.mem_of_getElem? (i := 279) (by decide +kernel))
theorem tb_280 : (Cond.instanceMethod yX6_setUp) ∈ lw_tbl := List.mem_append_right _ (List.mem_of_getElem? (i := 280) (by decide +kernel))
theorem tb_281 : (Cond.selects RX6 yX6_setUp yX6_setUp) ∈ lw_tbl := List.mem_append_right _ (List.mem_of_getElem? (i := 281) (by decide +kernel))
theorem tb_282 : (Cond.code yX6_setUp cX6_setUp (5) (none : Option Jvm.ClassFile.FieldType)) ∈ lw_tbl := List.mem_append_right _ (List.mem_of_getElem? (i := 282) (by decide +kernel))
theorem tb_283 : (Cond.methodLink RL (53) yX8_peg) ∈ lw_tbl := List.mem_append_right _ (List.mem_of_getElem? (i := 283) (by decide +kernel))
theorem tb_284 : (Cond.instanceMethod yX8_peg) ∈ lw_tbl := List.mem_append_right _ (List.mem_of_getElem? (i := 284) (by decide +kernel))
theorem tb_285 : (Cond.selects RX8 yX8_peg yX8_peg) ∈ lw_tbl := List.mem_append_right _ (List.mem_of_getElem? (i := 285) (by decide +kernel))
theorem tb_286 : (Cond.code yX8_peg cX8_peg (5) (some .int)) ∈ lw_tbl := List.mem_append_right _ (List.mem_of_getElem? (i := 286) (by decide +kernel))
theorem tb_287 : (Cond.methodLink RX8 (80) yX6_answerOfPeg) ∈ lw_tbl := List.mem_append_right _ (List.mem_of_getElem? (i := 287) (by decide +kernel))
theorem tb_288 : (Cond.instanceMethod yX6_answerOfPeg) ∈ lw_tbl := List.mem_append_right _ (List.mem_of_getElem? (i := 288) (by decide +kernel))
theorem tb_289 : (Cond.selects RX6 yX6_answerOfPeg yX6_answerOfPeg) ∈ lw_tbl := List.mem_append_right _ (List.mem_of_getElem? (i := 289) (by decide +kernel))
theorem tb_290 : (Cond.code yX6_answerOfPeg cX6_answerOfPeg (4) (some .int)) ∈ lw_tbl := List.mem_append_right _ (List.mem_of_getElem? (i := 290) (by decide +kernel))
theorem tb_291 : (Cond.methodLink RX6 (35) yX6_answerOfRow) ∈ lw_tbl := List.mem_append_right _ (List.mem_of_getElem? (i := 291) (by decide +kernel))
theorem tb_292 : (Cond.instanceMethod yX6_answerOfRow) ∈ lw_tbl := List.mem_append_right _ (List.mem_of_getElem? (i := 292) (by decide +kernel))
theorem tb_293 : (Cond.selects RX6 yX6_answerOfRow yX6_answerOfRow) ∈ lw_tbl := List.mem_append_right _ (List.mem_of_getElem? (i := 293) (by decide +kernel))
theorem tb_294 : (Cond.code yX6_answerOfRow cX6_answerOfRow (3) (some .int)) ∈ lw_tbl := List.mem_append_right _ (List.mem_of_getElem? (i := 294) (by decide +kernel))
theorem tb_295 : (Cond.methodLink RX6 (31) yX6_answerOfPlace) ∈ lw_tbl := List.mem_append_right _ (List.mem_of_getElem? (i := 295) (by decide +kernel))
theorem tb_296 : (Cond.instanceMethod yX6_answerOfPlace) ∈ lw_tbl := List.mem_append_right _ (List.mem_of_getElem? (i := 296) (by decide +kernel))
theorem tb_297 : (Cond.selects RX6 yX6_answerOfPlace yX6_answerOfPlace) ∈ lw_tbl := List.mem_append_right _ (List.mem_of_getElem? (i := 297) (by decide +kernel))
theorem tb_298 : (Cond.code yX6_answerOfPlace cX6_answerOfPlace (2) (some .int)) ∈ lw_tbl := List.mem_append_right _ (List.mem_of_getElem? (i := 298) (by decide +kernel))
theorem tb_299 : (Cond.methodLink RL (57) yX8_look) ∈ lw_tbl := List.mem_append_right _ (List.mem_of_getElem? (i := 299) (by decide +kernel))
theorem tb_300 : (Cond.instanceMethod yX8_look) ∈ lw_tbl := List.mem_append_right _ (List.mem_of_getElem? (i := 300) (by decide +kernel))
theorem tb_301 : (Cond.selects RX8 yX8_look yX8_look) ∈ lw_tbl := List.mem_append_right _ (List.mem_of_getElem? (i := 301) (by decide +kernel))
theorem tb_302 : (Cond.code yX8_look cX8_look (4) (some .int)) ∈ lw_tbl := List.mem_append_right _ (List.mem_of_getElem? (i := 302) (by decide +kernel))
theorem tb_303 : (Cond.methodLink RL (61) yX8_take) ∈ lw_tbl := List.mem_append_right _ (List.mem_of_getElem? (i := 303) (by decide +kernel))
theorem tb_304 : (Cond.instanceMethod yX8_take) ∈ lw_tbl := List.mem_append_right _ (List.mem_of_getElem? (i := 304) (by decide +kernel))
theorem tb_305 : (Cond.selects RX8 yX8_take yX8_take) ∈ lw_tbl := List.mem_append_right _ (List.mem_of_getElem? (i := 305) (by decide +kernel))
theorem tb_306 : (Cond.code yX8_take cX8_take (3) (some .int)) ∈ lw_tbl := List.mem_append_right _ (List.mem_of_getElem? (i := 306) (by decide +kernel))
theorem tb_307 : (Cond.methodLink RX8 (87) yX6_answerOfPlace) ∈ lw_tbl := List.mem_append_right _ (List.mem_of_getElem? (i := 307) (by decide +kernel))
theorem tb_308 : (Cond.methodLink RL (65) yX8_width) ∈ lw_tbl := List.mem_append_right _ (List.mem_of_getElem? (i := 308) (by decide +kernel))
theorem tb_309 : (Cond.instanceMethod yX8_width) ∈ lw_tbl := List.mem_append_right _ (List.mem_of_getElem? (i := 309) (by decide +kernel))
theorem tb_310 : (Cond.selects RX8 yX8_width yX8_width) ∈ lw_tbl := List.mem_append_right _ (List.mem_of_getElem? (i := 310) (by decide +kernel))
theorem tb_311 : (Cond.code yX8_width cX8_width (3) (some .int)) ∈ lw_tbl := List.mem_append_right _ (List.mem_of_getElem? (i := 311) (by decide +kernel))
theorem tb_312 : (Cond.methodLink RX8 (94) yX6_answerOfRow) ∈ lw_tbl := List.mem_append_right _ (List.mem_of_getElem? (i := 312) (by decide +kernel))
theorem tb_313 : (Cond.methodLink RL (69) yX8_told) ∈ lw_tbl := List.mem_append_right _ (List.mem_of_getElem? (i := 313) (by decide +kernel))
theorem tb_314 : (Cond.instanceMethod yX8_told) ∈ lw_tbl := List.mem_append_right _ (List.mem_of_getElem? (i := 314) (by decide +kernel))
theorem tb_315 : (Cond.selects RX8 yX8_told yX8_told) ∈ lw_tbl := List.mem_append_right _ (List.mem_of_getElem? (i := 315) (by decide +kernel))
theorem tb_316 : (Cond.code yX8_told cX8_told (1) (some .int)) ∈ lw_tbl := List.mem_append_right _ (List.mem_of_getElem? (i := 316) (by decide +kernel))
theorem tb_317 : (Cond.methodLink RL (74) yX8_count) ∈ lw_tbl := List.mem_append_right _ (List.mem_of_getElem? (i := 317) (by decide +kernel))
theorem tb_318 : (Cond.instanceMethod yX8_count) ∈ lw_tbl := List.mem_append_right _ (List.mem_of_getElem? (i := 318) (by decide +kernel))
theorem tb_319 : (Cond.selects RX8 yX8_count yX8_count) ∈ lw_tbl := List.mem_append_right _ (List.mem_of_getElem? (i := 319) (by decide +kernel))
theorem tb_320 : (Cond.code yX8_count cX8_count (2) (some .int)) ∈ lw_tbl := List.mem_append_right _ (List.mem_of_getElem? (i := 320) (by decide +kernel))
theorem tb_321 : (Cond.methodLink RX8 (100) yX8_hangingRolls) ∈ lw_tbl := List.mem_append_right _ (List.mem_of_getElem? (i := 321) (by decide +kernel))
theorem tb_322 : (Cond.privateMethod yX8_hangingRolls) ∈ lw_tbl := List.mem_append_right _ (List.mem_of_getElem? (i := 322) (by decide +kernel))
theorem tb_323 : (Cond.instanceMethod yX8_hangingRolls) ∈ lw_tbl := List.mem_append_right _ (List.mem_of_getElem? (i := 323) (by decide +kernel))
theorem tb_324 : (Cond.code yX8_hangingRolls cX8_hangingRolls (3) (some .int)) ∈ lw_tbl := List.mem_append_right _ (List.mem_of_getElem? (i := 324) (by decide +kernel))
theorem tb_325 : (Cond.methodLink RX8 (110) yX6_takenRows) ∈ lw_tbl := List.mem_append_right _ (List.mem_of_getElem? (i := 325) (by decide +kernel))
theorem tb_326 : (Cond.instanceMethod yX6_takenRows) ∈ lw_tbl := List.mem_append_right _ (List.mem_of_getElem? (i := 326) (by decide +kernel))
theorem tb_327 : (Cond.selects RX6 yX6_takenRows yX6_takenRows) ∈ lw_tbl := List.mem_append_right _ (List.mem_of_getElem? (i := 327) (by decide +kernel))
theorem tb_328 : (Cond.code yX6_takenRows cX6_takenRows (3) (some .int)) ∈ lw_tbl := List.mem_append_right _ (List.mem_of_getElem? (i := 328) (by decide +kernel))
theorem tb_329 : (Cond.classLink RL (10) RX9) ∈ lw_tbl := List.mem_append_right _ (List.mem_of_getElem? (i := 329) (by decide +kernel))
theorem tb_330 : (Cond.instantiable RX9 (8)) ∈ lw_tbl := List.mem_append_right _ (List.mem_of_getElem? (i := 330) (by decide +kernel))
theorem tb_331 : (Cond.methodLink RL (12) yX9_init) ∈ lw_tbl := List.mem_append_right _ (List.mem_of_getElem? (i := 331) (by decide +kernel))
theorem tb_332 : (Cond.instanceMethod yX9_init) ∈ lw_tbl := List.mem_append_right _ (List.mem_of_getElem? (i := 332) (by decide +kernel))
theorem tb_333 : (Cond.code yX9_init cX9_init (2) (none : Option Jvm.ClassFile.FieldType)) ∈ lw_tbl := List.mem_append_right _ (List.mem_of_getElem? (i := 333) (by decide +kernel))
theorem tb_334 : (Cond.methodLink RX9 (1) objectInit) ∈ lw_tbl := List.mem_append_right _ (List.mem_of_getElem? (i := 334) (by decide +kernel))
theorem tb_335 : (Cond.fieldLink RX9 (7) RX9 "cells" "[J") ∈ lw_tbl := List.mem_append_right _ (List.mem_of_getElem? (i := 335) (by decide +kernel))
theorem tb_336 : (Cond.fieldLink RX9 (13) RX9 "sizes" "[I") ∈ lw_tbl := List.mem_append_right _ (List.mem_of_getElem? (i := 336) (by decide +kernel))
theorem tb_337 : (Cond.fieldLink RX9 (17) RX9 "pegs" "[I") ∈ lw_tbl := List.mem_append_right _ (List.mem_of_getElem? (i := 337) (by decide +kernel))
theorem tb_338 : (Cond.fieldLink RX9 (20) RX9 "taken" "[Z") ∈ lw_tbl := List.mem_append_right _ (List.mem_of_getElem? (i := 338) (by decide +kernel))
theorem tb_339 : (Cond.fieldLink RX9 (77) RX9 "hasBoard" "Z") ∈ lw_tbl := List.mem_append_right _ (List.mem_of_getElem? (i := 339) (by decide +kernel))
theorem tb_340 : (Cond.fieldLink RX9 (81) RX9 "rows" "I") ∈ lw_tbl := List.mem_append_right _ (List.mem_of_getElem? (i := 340) (by decide +kernel))
theorem tb_341 : (Cond.fieldLink RX9 (84) RX9 "width" "I") ∈ lw_tbl := List.mem_append_right _ (List.mem_of_getElem? (i := 341) (by decide +kernel))
theorem tb_342 : (Cond.fieldLink RX9 (58) RX9 "told" "I") ∈ lw_tbl := List.mem_append_right _ (List.mem_of_getElem? (i := 342) (by decide +kernel))
theorem tb_343 : (Cond.laysFinal RX9 RX9 "cells" "[J") ∈ lw_tbl := List.mem_append_right _ (List.mem_of_getElem? (i := 343) (by decide +kernel))
theorem tb_344 : (Cond.soleField RX9 "cells") ∈ lw_tbl := List.mem_append_right _ (List.mem_of_getElem? (i := 344) (by decide +kernel))
theorem tb_345 : (Cond.laysFinal RX9 RX9 "sizes" "[I") ∈ lw_tbl := List.mem_append_right _ (List.mem_of_getElem? (i := 345) (by decide +kernel))
theorem tb_346 : (Cond.soleField RX9 "sizes") ∈ lw_tbl := List.mem_append_right _ (List.mem_of_getElem? (i := 346) (by decide +kernel))
theorem tb_347 : (Cond.laysFinal RX9 RX9 "pegs" "[I") ∈ lw_tbl := List.mem_append_right _ (List.mem_of_getElem? (i := 347) (by decide +kernel))
theorem tb_348 : (Cond.soleField RX9 "pegs") ∈ lw_tbl := List.mem_append_right _ (List.mem_of_getElem? (i := 348) (by decide +kernel))
theorem tb_349 : (Cond.laysFinal RX9 RX9 "taken" "[Z") ∈ lw_tbl := List.mem_append_right _ (List.mem_of_getElem? (i := 349) (by decide +kernel))
theorem tb_350 : (Cond.soleField RX9 "taken") ∈ lw_tbl := List.mem_append_right _ (List.mem_of_getElem? (i := 350) (by decide +kernel))
theorem tb_351 : (Cond.lays RX9 RX9 "hasBoard" "Z") ∈ lw_tbl := List.mem_append_right _ (List.mem_of_getElem? (i := 351) (by decide +kernel))
theorem tb_352 : (Cond.soleField RX9 "hasBoard") ∈ lw_tbl := List.mem_append_right _ (List.mem_of_getElem? (i := 352) (by decide +kernel))
theorem tb_353 : (Cond.lays RX9 RX9 "rows" "I") ∈ lw_tbl := List.mem_append_right _ (List.mem_of_getElem? (i := 353) (by decide +kernel))
theorem tb_354 : (Cond.soleField RX9 "rows") ∈ lw_tbl := List.mem_append_right _ (List.mem_of_getElem? (i := 354) (by decide +kernel))
theorem tb_355 : (Cond.lays RX9 RX9 "width" "I") ∈ lw_tbl := List.mem_append_right _ (List.mem_of_getElem? (i := 355) (by decide +kernel))
theorem tb_356 : (Cond.soleField RX9 "width") ∈ lw_tbl := List.mem_append_right _ (List.mem_of_getElem? (i := 356) (by decide +kernel))
theorem tb_357 : (Cond.lays RX9 RX9 "told" "I") ∈ lw_tbl := List.mem_append_right _ (List.mem_of_getElem? (i := 357) (by decide +kernel))
theorem tb_358 : (Cond.soleField RX9 "told") ∈ lw_tbl := List.mem_append_right _ (List.mem_of_getElem? (i := 358) (by decide +kernel))
theorem tb_359 : (Cond.superclass RX9 "java/lang/Object") ∈ lw_tbl := List.mem_append_right _ (List.mem_of_getElem? (i := 359) (by decide +kernel))
theorem tb_360 : (Cond.arrayClass .long) ∈ lw_tbl := List.mem_append_right _ (List.mem_of_getElem? (i := 360) (by decide +kernel))
theorem tb_361 : (Cond.methodLink RL (17) yX9_hang) ∈ lw_tbl := List.mem_append_right _ (List.mem_of_getElem? (i := 361) (by decide +kernel))
theorem tb_362 : (Cond.instanceMethod yX9_hang) ∈ lw_tbl := List.mem_append_right _ (List.mem_of_getElem? (i := 362) (by decide +kernel))
theorem tb_363 : (Cond.selects RX9 yX9_hang yX9_hang) ∈ lw_tbl := List.mem_append_right _ (List.mem_of_getElem? (i := 363) (by decide +kernel))
theorem tb_364 : (Cond.code yX9_hang cX9_hang (4) (some .int)) ∈ lw_tbl := List.mem_append_right _ (List.mem_of_getElem? (i := 364) (by decide +kernel))
theorem tb_365 : (Cond.methodLink RX9 (51) yX9_isRoll) ∈ lw_tbl := List.mem_append_right _ (List.mem_of_getElem? (i := 365) (by decide +kernel))
theorem tb_366 : (Cond.static yX9_isRoll) ∈ lw_tbl := List.mem_append_right _ (List.mem_of_getElem? (i := 366) (by decide +kernel))
theorem tb_367 : (Cond.code yX9_isRoll cX9_isRoll (1) (some .boolean)) ∈ lw_tbl := List.mem_append_right _ (List.mem_of_getElem? (i := 367) (by decide +kernel))
theorem tb_368 : (Cond.methodLink RL (22) yX9_tear) ∈ lw_tbl := List.mem_append_right _ (List.mem_of_getElem? (i := 368) (by decide +kernel))
theorem tb_369 : (Cond.instanceMethod yX9_tear) ∈ lw_tbl := List.mem_append_right _ (List.mem_of_getElem? (i := 369) (by decide +kernel))
theorem tb_370 : (Cond.selects RX9 yX9_tear yX9_tear) ∈ lw_tbl := List.mem_append_right _ (List.mem_of_getElem? (i := 370) (by decide +kernel))
theorem tb_371 : (Cond.code yX9_tear cX9_tear (2) (some .int)) ∈ lw_tbl := List.mem_append_right _ (List.mem_of_getElem? (i := 371) (by decide +kernel))
theorem tb_372 : (Cond.methodLink RL (26) yX9_read) ∈ lw_tbl := List.mem_append_right _ (List.mem_of_getElem? (i := 372) (by decide +kernel))
theorem tb_373 : (Cond.instanceMethod yX9_read) ∈ lw_tbl := List.mem_append_right _ (List.mem_of_getElem? (i := 373) (by decide +kernel))
theorem tb_374 : (Cond.selects RX9 yX9_read yX9_read) ∈ lw_tbl := List.mem_append_right _ (List.mem_of_getElem? (i := 374) (by decide +kernel))
theorem tb_375 : (Cond.code yX9_read cX9_read (4) (some .int)) ∈ lw_tbl := List.mem_append_right _ (List.mem_of_getElem? (i := 375) (by decide +kernel))
theorem tb_376 : (Cond.methodLink RX9 (62) yX9_lacks) ∈ lw_tbl := List.mem_append_right _ (List.mem_of_getElem? (i := 376) (by decide +kernel))
theorem tb_377 : (Cond.privateMethod yX9_lacks) ∈ lw_tbl := List.mem_append_right _ (List.mem_of_getElem? (i := 377) (by decide +kernel))
theorem tb_378 : (Cond.instanceMethod yX9_lacks) ∈ lw_tbl := List.mem_append_right _ (List.mem_of_getElem? (i := 378) (by decide +kernel))
theorem tb_379 : (Cond.code yX9_lacks cX9_lacks (3) (some .int)) ∈ lw_tbl := List.mem_append_right _ (List.mem_of_getElem? (i := 379) (by decide +kernel))
theorem tb_380 : (Cond.methodLink RX9 (66) yX9_tells) ∈ lw_tbl := List.mem_append_right _ (List.mem_of_getElem? (i := 380) (by decide +kernel))
theorem tb_381 : (Cond.privateMethod yX9_tells) ∈ lw_tbl := List.mem_append_right _ (List.mem_of_getElem? (i := 381) (by decide +kernel))
theorem tb_382 : (Cond.instanceMethod yX9_tells) ∈ lw_tbl := List.mem_append_right _ (List.mem_of_getElem? (i := 382) (by decide +kernel))
theorem tb_383 : (Cond.code yX9_tells cX9_tells (5) (some .int)) ∈ lw_tbl := List.mem_append_right _ (List.mem_of_getElem? (i := 383) (by decide +kernel))
theorem tb_384 : (Cond.constantLong RX9 (55) (2147483647)) ∈ lw_tbl := List.mem_append_right _ (List.mem_of_getElem? (i := 384) (by decide +kernel))
theorem tb_385 : (Cond.constant RX9 (57) (2147483647)) ∈ lw_tbl := List.mem_append_right _ (List.mem_of_getElem? (i := 385) (by decide +kernel))
theorem tb_386 : (Cond.methodLink RL (31) yX9_mark) ∈ lw_tbl := List.mem_append_right _ (List.mem_of_getElem? (i := 386) (by decide +kernel))
theorem tb_387 : (Cond.instanceMethod yX9_mark) ∈ lw_tbl := List.mem_append_right _ (List.mem_of_getElem? (i := 387) (by decide +kernel))
theorem tb_388 : (Cond.selects RX9 yX9_mark yX9_mark) ∈ lw_tbl := List.mem_append_right _ (List.mem_of_getElem? (i := 388) (by decide +kernel))
theorem tb_389 : (Cond.code yX9_mark cX9_mark (5) (some .int)) ∈ lw_tbl := List.mem_append_right _ (List.mem_of_getElem? (i := 389) (by decide +kernel))
theorem tb_390 : (Cond.methodLink RX9 (47) yX9_fitted) ∈ lw_tbl := List.mem_append_right _ (List.mem_of_getElem? (i := 390) (by decide +kernel))
theorem tb_391 : (Cond.static yX9_fitted) ∈ lw_tbl := List.mem_append_right _ (List.mem_of_getElem? (i := 391) (by decide +kernel))
theorem tb_392 : (Cond.code yX9_fitted cX9_fitted (3) (some .long)) ∈ lw_tbl := List.mem_append_right _ (List.mem_of_getElem? (i := 392) (by decide +kernel))
theorem tb_393 : (Cond.methodLink RX9 (32) yX9_rounded) ∈ lw_tbl := List.mem_append_right _ (List.mem_of_getElem? (i := 393) (by decide +kernel))
theorem tb_394 : (Cond.static yX9_rounded) ∈ lw_tbl := List.mem_append_right _ (List.mem_of_getElem? (i := 394) (by decide +kernel))
theorem tb_395 : (Cond.code yX9_rounded cX9_rounded (13) (some .long)) ∈ lw_tbl := List.mem_append_right _ (List.mem_of_getElem? (i := 395) (by decide +kernel))
theorem tb_396 : (Cond.constantLong RX9 (24) (16777216)) ∈ lw_tbl := List.mem_append_right _ (List.mem_of_getElem? (i := 396) (by decide +kernel))
theorem tb_397 : (Cond.constantLong RX9 (26) (2)) ∈ lw_tbl := List.mem_append_right _ (List.mem_of_getElem? (i := 397) (by decide +kernel))
theorem tb_398 : (Cond.constantLong RX9 (36) (65536)) ∈ lw_tbl := List.mem_append_right _ (List.mem_of_getElem? (i := 398) (by decide +kernel))
theorem tb_399 : (Cond.methodLink RX9 (38) yX9_lowest) ∈ lw_tbl := List.mem_append_right _ (List.mem_of_getElem? (i := 399) (by decide +kernel))
theorem tb_400 : (Cond.static yX9_lowest) ∈ lw_tbl := List.mem_append_right _ (List.mem_of_getElem? (i := 400) (by decide +kernel))
theorem tb_401 : (Cond.code yX9_lowest cX9_lowest (7) (some .long)) ∈ lw_tbl := List.mem_append_right _ (List.mem_of_getElem? (i := 401) (by decide +kernel))
theorem tb_402 : (Cond.constantLong RX9 (42) (256)) ∈ lw_tbl := List.mem_append_right _ (List.mem_of_getElem? (i := 402) (by decide +kernel))
theorem tb_403 : (Cond.methodLink RL (35) yX9_more) ∈ lw_tbl := List.mem_append_right _ (List.mem_of_getElem? (i := 403) (by decide +kernel))
theorem tb_404 : (Cond.instanceMethod yX9_more) ∈ lw_tbl := List.mem_append_right _ (List.mem_of_getElem? (i := 404) (by decide +kernel))
theorem tb_405 : (Cond.selects RX9 yX9_more yX9_more) ∈ lw_tbl := List.mem_append_right _ (List.mem_of_getElem? (i := 405) (by decide +kernel))
theorem tb_406 : (Cond.code yX9_more cX9_more (5) (some .int)) ∈ lw_tbl := List.mem_append_right _ (List.mem_of_getElem? (i := 406) (by decide +kernel))
theorem tb_407 : (Cond.methodLink RX9 (70) yX9_raised) ∈ lw_tbl := List.mem_append_right _ (List.mem_of_getElem? (i := 407) (by decide +kernel))
theorem tb_408 : (Cond.static yX9_raised) ∈ lw_tbl := List.mem_append_right _ (List.mem_of_getElem? (i := 408) (by decide +kernel))
theorem tb_409 : (Cond.code yX9_raised cX9_raised (5) (some .long)) ∈ lw_tbl := List.mem_append_right _ (List.mem_of_getElem? (i := 409) (by decide +kernel))
theorem tb_410 : (Cond.methodLink RX9 (44) yX9_bounded) ∈ lw_tbl := List.mem_append_right _ (List.mem_of_getElem? (i := 410) (by decide +kernel))
theorem tb_411 : (Cond.static yX9_bounded) ∈ lw_tbl := List.mem_append_right _ (List.mem_of_getElem? (i := 411) (by decide +kernel))
theorem tb_412 : (Cond.code yX9_bounded cX9_bounded (2) (some .long)) ∈ lw_tbl := List.mem_append_right _ (List.mem_of_getElem? (i := 412) (by decide +kernel))
theorem tb_413 : (Cond.constantLong RX9 (28) (8000000)) ∈ lw_tbl := List.mem_append_right _ (List.mem_of_getElem? (i := 413) (by decide +kernel))
theorem tb_414 : (Cond.constantLong RX9 (30) (-8000000)) ∈ lw_tbl := List.mem_append_right _ (List.mem_of_getElem? (i := 414) (by decide +kernel))
theorem tb_415 : (Cond.methodLink RL (39) yX9_times) ∈ lw_tbl := List.mem_append_right _ (List.mem_of_getElem? (i := 415) (by decide +kernel))
theorem tb_416 : (Cond.instanceMethod yX9_times) ∈ lw_tbl := List.mem_append_right _ (List.mem_of_getElem? (i := 416) (by decide +kernel))
theorem tb_417 : (Cond.selects RX9 yX9_times yX9_times) ∈ lw_tbl := List.mem_append_right _ (List.mem_of_getElem? (i := 417) (by decide +kernel))
theorem tb_418 : (Cond.code yX9_times cX9_times (5) (some .int)) ∈ lw_tbl := List.mem_append_right _ (List.mem_of_getElem? (i := 418) (by decide +kernel))
theorem tb_419 : (Cond.methodLink RX9 (74) yX9_multiplied) ∈ lw_tbl := List.mem_append_right _ (List.mem_of_getElem? (i := 419) (by decide +kernel))
theorem tb_420 : (Cond.static yX9_multiplied) ∈ lw_tbl := List.mem_append_right _ (List.mem_of_getElem? (i := 420) (by decide +kernel))
theorem tb_421 : (Cond.code yX9_multiplied cX9_multiplied (5) (some .long)) ∈ lw_tbl := List.mem_append_right _ (List.mem_of_getElem? (i := 421) (by decide +kernel))
theorem tb_422 : (Cond.methodLink RL (43) yX9_size) ∈ lw_tbl := List.mem_append_right _ (List.mem_of_getElem? (i := 422) (by decide +kernel))
theorem tb_423 : (Cond.instanceMethod yX9_size) ∈ lw_tbl := List.mem_append_right _ (List.mem_of_getElem? (i := 423) (by decide +kernel))
theorem tb_424 : (Cond.selects RX9 yX9_size yX9_size) ∈ lw_tbl := List.mem_append_right _ (List.mem_of_getElem? (i := 424) (by decide +kernel))
theorem tb_425 : (Cond.code yX9_size cX9_size (2) (some .int)) ∈ lw_tbl := List.mem_append_right _ (List.mem_of_getElem? (i := 425) (by decide +kernel))
theorem tb_426 : (Cond.methodLink RL (48) yX9_pour) ∈ lw_tbl := List.mem_append_right _ (List.mem_of_getElem? (i := 426) (by decide +kernel))
theorem tb_427 : (Cond.instanceMethod yX9_pour) ∈ lw_tbl := List.mem_append_right _ (List.mem_of_getElem? (i := 427) (by decide +kernel))
theorem tb_428 : (Cond.selects RX9 yX9_pour yX9_pour) ∈ lw_tbl := List.mem_append_right _ (List.mem_of_getElem? (i := 428) (by decide +kernel))
theorem tb_429 : (Cond.code yX9_pour cX9_pour (8) (some .int)) ∈ lw_tbl := List.mem_append_right _ (List.mem_of_getElem? (i := 429) (by decide +kernel))
theorem tb_430 : (Cond.methodLink RL (52) yX9_board) ∈ lw_tbl := List.mem_append_right _ (List.mem_of_getElem? (i := 430) (by decide +kernel))
theorem tb_431 : (Cond.instanceMethod yX9_board) ∈ lw_tbl := List.mem_append_right _ (List.mem_of_getElem? (i := 431) (by decide +kernel))
theorem tb_432 : (Cond.selects RX9 yX9_board yX9_board) ∈ lw_tbl := List.mem_append_right _ (List.mem_of_getElem? (i := 432) (by decide +kernel))
theorem tb_433 : (Cond.code yX9_board cX9_board (4) (some .int)) ∈ lw_tbl := List.mem_append_right _ (List.mem_of_getElem? (i := 433) (by decide +kernel))
theorem tb_434 : (Cond.methodLink RL (56) yX9_peg) ∈ lw_tbl := List.mem_append_right _ (List.mem_of_getElem? (i := 434) (by decide +kernel))
theorem tb_435 : (Cond.instanceMethod yX9_peg) ∈ lw_tbl := List.mem_append_right _ (List.mem_of_getElem? (i := 435) (by decide +kernel))
theorem tb_436 : (Cond.selects RX9 yX9_peg yX9_peg) ∈ lw_tbl := List.mem_append_right _ (List.mem_of_getElem? (i := 436) (by decide +kernel))
theorem tb_437 : (Cond.code yX9_peg cX9_peg (5) (some .int)) ∈ lw_tbl := List.mem_append_right _ (List.mem_of_getElem? (i := 437) (by decide +kernel))
theorem tb_438 : (Cond.methodLink RX9 (91) yX9_lacksPeg) ∈ lw_tbl := List.mem_append_right _ (List.mem_of_getElem? (i := 438) (by decide +kernel))
theorem tb_439 : (Cond.privateMethod yX9_lacksPeg) ∈ lw_tbl := List.mem_append_right _ (List.mem_of_getElem? (i := 439) (by decide +kernel))
theorem tb_440 : (Cond.instanceMethod yX9_lacksPeg) ∈ lw_tbl := List.mem_append_right _ (List.mem_of_getElem? (i := 440) (by decide +kernel))
theorem tb_441 : (Cond.code yX9_lacksPeg cX9_lacksPeg (4) (some .int)) ∈ lw_tbl := List.mem_append_right _ (List.mem_of_getElem? (i := 441) (by decide +kernel))
theorem tb_442 : (Cond.methodLink RX9 (87) yX9_lacksRow) ∈ lw_tbl := List.mem_append_right _ (List.mem_of_getElem? (i := 442) (by decide +kernel))
theorem tb_443 : (Cond.privateMethod yX9_lacksRow) ∈ lw_tbl := List.mem_append_right _ (List.mem_of_getElem? (i := 443) (by decide +kernel))
theorem tb_444 : (Cond.instanceMethod yX9_lacksRow) ∈ lw_tbl := List.mem_append_right _ (List.mem_of_getElem? (i := 444) (by decide +kernel))
theorem tb_445 : (Cond.code yX9_lacksRow cX9_lacksRow (2) (some .int)) ∈ lw_tbl := List.mem_append_right _ (List.mem_of_getElem? (i := 445) (by decide +kernel))
theorem tb_446 : (Cond.methodLink RL (60) yX9_look) ∈ lw_tbl := List.mem_append_right _ (List.mem_of_getElem? (i := 446) (by decide +kernel))
theorem tb_447 : (Cond.instanceMethod yX9_look) ∈ lw_tbl := List.mem_append_right _ (List.mem_of_getElem? (i := 447) (by decide +kernel))
theorem tb_448 : (Cond.selects RX9 yX9_look yX9_look) ∈ lw_tbl := List.mem_append_right _ (List.mem_of_getElem? (i := 448) (by decide +kernel))
theorem tb_449 : (Cond.code yX9_look cX9_look (4) (some .int)) ∈ lw_tbl := List.mem_append_right _ (List.mem_of_getElem? (i := 449) (by decide +kernel))
theorem tb_450 : (Cond.methodLink RL (64) yX9_take) ∈ lw_tbl := List.mem_append_right _ (List.mem_of_getElem? (i := 450) (by decide +kernel))
theorem tb_451 : (Cond.instanceMethod yX9_take) ∈ lw_tbl := List.mem_append_right _ (List.mem_of_getElem? (i := 451) (by decide +kernel))
theorem tb_452 : (Cond.selects RX9 yX9_take yX9_take) ∈ lw_tbl := List.mem_append_right _ (List.mem_of_getElem? (i := 452) (by decide +kernel))
theorem tb_453 : (Cond.code yX9_take cX9_take (2) (some .int)) ∈ lw_tbl := List.mem_append_right _ (List.mem_of_getElem? (i := 453) (by decide +kernel))
theorem tb_454 : (Cond.methodLink RL (68) yX9_width) ∈ lw_tbl := List.mem_append_right _ (List.mem_of_getElem? (i := 454) (by decide +kernel))
theorem tb_455 : (Cond.instanceMethod yX9_width) ∈ lw_tbl := List.mem_append_right _ (List.mem_of_getElem? (i := 455) (by decide +kernel))
theorem tb_456 : (Cond.selects RX9 yX9_width yX9_width) ∈ lw_tbl := List.mem_append_right _ (List.mem_of_getElem? (i := 456) (by decide +kernel))
theorem tb_457 : (Cond.code yX9_width cX9_width (3) (some .int)) ∈ lw_tbl := List.mem_append_right _ (List.mem_of_getElem? (i := 457) (by decide +kernel))
theorem tb_458 : (Cond.methodLink RL (73) yX9_told) ∈ lw_tbl := List.mem_append_right _ (List.mem_of_getElem? (i := 458) (by decide +kernel))
theorem tb_459 : (Cond.instanceMethod yX9_told) ∈ lw_tbl := List.mem_append_right _ (List.mem_of_getElem? (i := 459) (by decide +kernel))
theorem tb_460 : (Cond.selects RX9 yX9_told yX9_told) ∈ lw_tbl := List.mem_append_right _ (List.mem_of_getElem? (i := 460) (by decide +kernel))
theorem tb_461 : (Cond.code yX9_told cX9_told (1) (some .int)) ∈ lw_tbl := List.mem_append_right _ (List.mem_of_getElem? (i := 461) (by decide +kernel))
theorem tb_462 : (Cond.methodLink RL (77) yX9_count) ∈ lw_tbl := List.mem_append_right _ (List.mem_of_getElem? (i := 462) (by decide +kernel))
theorem tb_463 : (Cond.instanceMethod yX9_count) ∈ lw_tbl := List.mem_append_right _ (List.mem_of_getElem? (i := 463) (by decide +kernel))
theorem tb_464 : (Cond.selects RX9 yX9_count yX9_count) ∈ lw_tbl := List.mem_append_right _ (List.mem_of_getElem? (i := 464) (by decide +kernel))
theorem tb_465 : (Cond.code yX9_count cX9_count (4) (some .int)) ∈ lw_tbl := List.mem_append_right _ (List.mem_of_getElem? (i := 465) (by decide +kernel))
theorem tb_466 : (Cond.castable RX0 RX7) ∈ lw_tbl := List.mem_append_right _ (List.mem_of_getElem? (i := 466) (by decide +kernel))
theorem tb_467 : (Cond.castable RX1 RX7) ∈ lw_tbl := List.mem_append_right _ (List.mem_of_getElem? (i := 467) (by decide +kernel))
theorem tb_468 : (Cond.castable RX2 RX7) ∈ lw_tbl := List.mem_append_right _ (List.mem_of_getElem? (i := 468) (by decide +kernel))
theorem tb_469 : (Cond.castable RX3 RX7) ∈ lw_tbl := List.mem_append_right _ (List.mem_of_getElem? (i := 469) (by decide +kernel))
theorem tb_470 : (Cond.castable RX4 RX7) ∈ lw_tbl := List.mem_append_right _ (List.mem_of_getElem? (i := 470) (by decide +kernel))
theorem tp_isRoll8 : Cond.selects RX8 yX8_isRoll yX8_isRoll ∈ lw_tbl := List.mem_append_left _ (List.mem_of_getElem? (i := 0) (by decide +kernel))
theorem tp_answerOfRoll8 : Cond.selects RX8 yX8_answerOfRoll yX8_answerOfRoll ∈ lw_tbl := List.mem_append_left _ (List.mem_of_getElem? (i := 1) (by decide +kernel))
theorem tp_answerOfCell8 : Cond.selects RX8 yX8_answerOfCell yX8_answerOfCell ∈ lw_tbl := List.mem_append_left _ (List.mem_of_getElem? (i := 2) (by decide +kernel))
theorem tp_hangingRolls8 : Cond.selects RX8 yX8_hangingRolls yX8_hangingRolls ∈ lw_tbl := List.mem_append_left _ (List.mem_of_getElem? (i := 3) (by decide +kernel))
theorem tp_lacks9 : Cond.selects RX9 yX9_lacks yX9_lacks ∈ lw_tbl := List.mem_append_left _ (List.mem_of_getElem? (i := 4) (by decide +kernel))
theorem tp_tells9 : Cond.selects RX9 yX9_tells yX9_tells ∈ lw_tbl := List.mem_append_left _ (List.mem_of_getElem? (i := 5) (by decide +kernel))
theorem tp_lacksPeg9 : Cond.selects RX9 yX9_lacksPeg yX9_lacksPeg ∈ lw_tbl := List.mem_append_left _ (List.mem_of_getElem? (i := 6) (by decide +kernel))
theorem tp_lacksRow9 : Cond.selects RX9 yX9_lacksRow yX9_lacksRow ∈ lw_tbl := List.mem_append_left _ (List.mem_of_getElem? (i := 7) (by decide +kernel))
end
section
/-! decode rows, printed -/
theorem dX9_init_0 : decode cX9_init 0 = .ok (.aload_n 0, 1) := by decide +kernel
theorem dX9_init_1 : decode cX9_init 1 = .ok (.invokespecial 1, 3) := by decide +kernel
theorem dX9_init_4 : decode cX9_init 4 = .ok (.aload_n 0, 1) := by decide +kernel
theorem dX9_init_5 : decode cX9_init 5 = .ok (.sipush 1000, 3) := by decide +kernel
theorem dX9_init_8 : decode cX9_init 8 = .ok (.newarray .long, 2) := by decide +kernel
theorem dX9_init_10 : decode cX9_init 10 = .ok (.putfield 7, 3) := by decide +kernel
theorem dX9_init_13 : decode cX9_init 13 = .ok (.aload_n 0, 1) := by decide +kernel
theorem dX9_init_14 : decode cX9_init 14 = .ok (.iconst 5, 1) := by decide +kernel
theorem dX9_init_15 : decode cX9_init 15 = .ok (.newarray .int, 2) := by decide +kernel
theorem dX9_init_17 : decode cX9_init 17 = .ok (.putfield 13, 3) := by decide +kernel
theorem dX9_init_20 : decode cX9_init 20 = .ok (.aload_n 0, 1) := by decide +kernel
theorem dX9_init_21 : decode cX9_init 21 = .ok (.sipush 1600, 3) := by decide +kernel
theorem dX9_init_24 : decode cX9_init 24 = .ok (.newarray .int, 2) := by decide +kernel
theorem dX9_init_26 : decode cX9_init 26 = .ok (.putfield 17, 3) := by decide +kernel
theorem dX9_init_29 : decode cX9_init 29 = .ok (.aload_n 0, 1) := by decide +kernel
theorem dX9_init_30 : decode cX9_init 30 = .ok (.bipush 40, 2) := by decide +kernel
theorem dX9_init_32 : decode cX9_init 32 = .ok (.newarray .boolean, 2) := by decide +kernel
theorem dX9_init_34 : decode cX9_init 34 = .ok (.putfield 20, 3) := by decide +kernel
theorem dX9_init_37 : decode cX9_init 37 = .ok (.iconst 0, 1) := by decide +kernel
theorem dX9_init_38 : decode cX9_init 38 = .ok (.istore_n 1, 1) := by decide +kernel
theorem dX9_init_39 : decode cX9_init 39 = .ok (.iload_n 1, 1) := by decide +kernel
theorem dX9_init_40 : decode cX9_init 40 = .ok (.iconst 5, 1) := by decide +kernel
theorem dX9_init_41 : decode cX9_init 41 = .ok (.if_icmp .ge 16, 3) := by decide +kernel
theorem dX9_init_44 : decode cX9_init 44 = .ok (.aload_n 0, 1) := by decide +kernel
theorem dX9_init_45 : decode cX9_init 45 = .ok (.getfield 13, 3) := by decide +kernel
theorem dX9_init_48 : decode cX9_init 48 = .ok (.iload_n 1, 1) := by decide +kernel
theorem dX9_init_49 : decode cX9_init 49 = .ok (.iconst (-1), 1) := by decide +kernel
theorem dX9_init_50 : decode cX9_init 50 = .ok (.iastore, 1) := by decide +kernel
theorem dX9_init_51 : decode cX9_init 51 = .ok (.iinc 1 1, 3) := by decide +kernel
theorem dX9_init_54 : decode cX9_init 54 = .ok (.goto (-15), 3) := by decide +kernel
theorem dX9_init_57 : decode cX9_init 57 = .ok (.return_, 1) := by decide +kernel
theorem dX9_rounded_0 : decode cX9_rounded 0 = .ok (.lload_n 0, 1) := by decide +kernel
theorem dX9_rounded_1 : decode cX9_rounded 1 = .ok (.lconst 0, 1) := by decide +kernel
theorem dX9_rounded_2 : decode cX9_rounded 2 = .ok (.lcmp, 1) := by decide +kernel
theorem dX9_rounded_3 : decode cX9_rounded 3 = .ok (.ifCond .ge 8, 3) := by decide +kernel
theorem dX9_rounded_6 : decode cX9_rounded 6 = .ok (.lload_n 0, 1) := by decide +kernel
theorem dX9_rounded_7 : decode cX9_rounded 7 = .ok (.lneg, 1) := by decide +kernel
theorem dX9_rounded_8 : decode cX9_rounded 8 = .ok (.goto 4, 3) := by decide +kernel
theorem dX9_rounded_11 : decode cX9_rounded 11 = .ok (.lload_n 0, 1) := by decide +kernel
theorem dX9_rounded_12 : decode cX9_rounded 12 = .ok (.lstore_n 2, 1) := by decide +kernel
theorem dX9_rounded_13 : decode cX9_rounded 13 = .ok (.lconst 1, 1) := by decide +kernel
theorem dX9_rounded_14 : decode cX9_rounded 14 = .ok (.lstore 4, 2) := by decide +kernel
theorem dX9_rounded_16 : decode cX9_rounded 16 = .ok (.lload_n 2, 1) := by decide +kernel
theorem dX9_rounded_17 : decode cX9_rounded 17 = .ok (.lload 4, 2) := by decide +kernel
theorem dX9_rounded_19 : decode cX9_rounded 19 = .ok (.ldiv, 1) := by decide +kernel
theorem dX9_rounded_20 : decode cX9_rounded 20 = .ok (.ldc2_w 24, 3) := by decide +kernel
theorem dX9_rounded_23 : decode cX9_rounded 23 = .ok (.lcmp, 1) := by decide +kernel
theorem dX9_rounded_24 : decode cX9_rounded 24 = .ok (.ifCond .lt 14, 3) := by decide +kernel
theorem dX9_rounded_27 : decode cX9_rounded 27 = .ok (.ldc2_w 26, 3) := by decide +kernel
theorem dX9_rounded_30 : decode cX9_rounded 30 = .ok (.lload 4, 2) := by decide +kernel
theorem dX9_rounded_32 : decode cX9_rounded 32 = .ok (.lmul, 1) := by decide +kernel
theorem dX9_rounded_33 : decode cX9_rounded 33 = .ok (.lstore 4, 2) := by decide +kernel
theorem dX9_rounded_35 : decode cX9_rounded 35 = .ok (.goto (-19), 3) := by decide +kernel
theorem dX9_rounded_38 : decode cX9_rounded 38 = .ok (.lload_n 2, 1) := by decide +kernel
theorem dX9_rounded_39 : decode cX9_rounded 39 = .ok (.lload 4, 2) := by decide +kernel
theorem dX9_rounded_41 : decode cX9_rounded 41 = .ok (.ldiv, 1) := by decide +kernel
theorem dX9_rounded_42 : decode cX9_rounded 42 = .ok (.lstore 6, 2) := by decide +kernel
theorem dX9_rounded_44 : decode cX9_rounded 44 = .ok (.lload_n 2, 1) := by decide +kernel
theorem dX9_rounded_45 : decode cX9_rounded 45 = .ok (.lload 6, 2) := by decide +kernel
theorem dX9_rounded_47 : decode cX9_rounded 47 = .ok (.lload 4, 2) := by decide +kernel
theorem dX9_rounded_49 : decode cX9_rounded 49 = .ok (.lmul, 1) := by decide +kernel
theorem dX9_rounded_50 : decode cX9_rounded 50 = .ok (.lsub, 1) := by decide +kernel
theorem dX9_rounded_51 : decode cX9_rounded 51 = .ok (.lstore 8, 2) := by decide +kernel
theorem dX9_rounded_53 : decode cX9_rounded 53 = .ok (.ldc2_w 26, 3) := by decide +kernel
theorem dX9_rounded_56 : decode cX9_rounded 56 = .ok (.lload 8, 2) := by decide +kernel
theorem dX9_rounded_58 : decode cX9_rounded 58 = .ok (.lmul, 1) := by decide +kernel
theorem dX9_rounded_59 : decode cX9_rounded 59 = .ok (.lload 4, 2) := by decide +kernel
theorem dX9_rounded_61 : decode cX9_rounded 61 = .ok (.lcmp, 1) := by decide +kernel
theorem dX9_rounded_62 : decode cX9_rounded 62 = .ok (.ifCond .gt 26, 3) := by decide +kernel
theorem dX9_rounded_65 : decode cX9_rounded 65 = .ok (.ldc2_w 26, 3) := by decide +kernel
theorem dX9_rounded_68 : decode cX9_rounded 68 = .ok (.lload 8, 2) := by decide +kernel
theorem dX9_rounded_70 : decode cX9_rounded 70 = .ok (.lmul, 1) := by decide +kernel
theorem dX9_rounded_71 : decode cX9_rounded 71 = .ok (.lload 4, 2) := by decide +kernel
theorem dX9_rounded_73 : decode cX9_rounded 73 = .ok (.lcmp, 1) := by decide +kernel
theorem dX9_rounded_74 : decode cX9_rounded 74 = .ok (.ifCond .ne 18, 3) := by decide +kernel
theorem dX9_rounded_77 : decode cX9_rounded 77 = .ok (.lload 6, 2) := by decide +kernel
theorem dX9_rounded_79 : decode cX9_rounded 79 = .ok (.ldc2_w 26, 3) := by decide +kernel
theorem dX9_rounded_82 : decode cX9_rounded 82 = .ok (.lrem, 1) := by decide +kernel
theorem dX9_rounded_83 : decode cX9_rounded 83 = .ok (.lconst 1, 1) := by decide +kernel
theorem dX9_rounded_84 : decode cX9_rounded 84 = .ok (.lcmp, 1) := by decide +kernel
theorem dX9_rounded_85 : decode cX9_rounded 85 = .ok (.ifCond .ne 7, 3) := by decide +kernel
theorem dX9_rounded_88 : decode cX9_rounded 88 = .ok (.iconst 1, 1) := by decide +kernel
theorem dX9_rounded_89 : decode cX9_rounded 89 = .ok (.goto 4, 3) := by decide +kernel
theorem dX9_rounded_92 : decode cX9_rounded 92 = .ok (.iconst 0, 1) := by decide +kernel
theorem dX9_rounded_93 : decode cX9_rounded 93 = .ok (.istore 10, 2) := by decide +kernel
theorem dX9_rounded_95 : decode cX9_rounded 95 = .ok (.iload 10, 2) := by decide +kernel
theorem dX9_rounded_97 : decode cX9_rounded 97 = .ok (.ifCond .eq 10, 3) := by decide +kernel
theorem dX9_rounded_100 : decode cX9_rounded 100 = .ok (.lload 6, 2) := by decide +kernel
theorem dX9_rounded_102 : decode cX9_rounded 102 = .ok (.lconst 1, 1) := by decide +kernel
theorem dX9_rounded_103 : decode cX9_rounded 103 = .ok (.ladd, 1) := by decide +kernel
theorem dX9_rounded_104 : decode cX9_rounded 104 = .ok (.goto 5, 3) := by decide +kernel
theorem dX9_rounded_107 : decode cX9_rounded 107 = .ok (.lload 6, 2) := by decide +kernel
theorem dX9_rounded_109 : decode cX9_rounded 109 = .ok (.lload 4, 2) := by decide +kernel
theorem dX9_rounded_111 : decode cX9_rounded 111 = .ok (.lmul, 1) := by decide +kernel
theorem dX9_rounded_112 : decode cX9_rounded 112 = .ok (.lstore 11, 2) := by decide +kernel
theorem dX9_rounded_114 : decode cX9_rounded 114 = .ok (.lload_n 0, 1) := by decide +kernel
theorem dX9_rounded_115 : decode cX9_rounded 115 = .ok (.lconst 0, 1) := by decide +kernel
theorem dX9_rounded_116 : decode cX9_rounded 116 = .ok (.lcmp, 1) := by decide +kernel
theorem dX9_rounded_117 : decode cX9_rounded 117 = .ok (.ifCond .ge 9, 3) := by decide +kernel
theorem dX9_rounded_120 : decode cX9_rounded 120 = .ok (.lload 11, 2) := by decide +kernel
theorem dX9_rounded_122 : decode cX9_rounded 122 = .ok (.lneg, 1) := by decide +kernel
theorem dX9_rounded_123 : decode cX9_rounded 123 = .ok (.goto 5, 3) := by decide +kernel
theorem dX9_rounded_126 : decode cX9_rounded 126 = .ok (.lload 11, 2) := by decide +kernel
theorem dX9_rounded_128 : decode cX9_rounded 128 = .ok (.lreturn, 1) := by decide +kernel
theorem dX9_lowest_0 : decode cX9_lowest 0 = .ok (.lload_n 0, 1) := by decide +kernel
theorem dX9_lowest_1 : decode cX9_lowest 1 = .ok (.lload_n 2, 1) := by decide +kernel
theorem dX9_lowest_2 : decode cX9_lowest 2 = .ok (.lrem, 1) := by decide +kernel
theorem dX9_lowest_3 : decode cX9_lowest 3 = .ok (.lstore 5, 2) := by decide +kernel
theorem dX9_lowest_5 : decode cX9_lowest 5 = .ok (.lload 5, 2) := by decide +kernel
theorem dX9_lowest_7 : decode cX9_lowest 7 = .ok (.lconst 0, 1) := by decide +kernel
theorem dX9_lowest_8 : decode cX9_lowest 8 = .ok (.lcmp, 1) := by decide +kernel
theorem dX9_lowest_9 : decode cX9_lowest 9 = .ok (.ifCond .ge 10, 3) := by decide +kernel
theorem dX9_lowest_12 : decode cX9_lowest 12 = .ok (.lload 5, 2) := by decide +kernel
theorem dX9_lowest_14 : decode cX9_lowest 14 = .ok (.lload_n 2, 1) := by decide +kernel
theorem dX9_lowest_15 : decode cX9_lowest 15 = .ok (.ladd, 1) := by decide +kernel
theorem dX9_lowest_16 : decode cX9_lowest 16 = .ok (.goto 5, 3) := by decide +kernel
theorem dX9_lowest_19 : decode cX9_lowest 19 = .ok (.lload 5, 2) := by decide +kernel
theorem dX9_lowest_21 : decode cX9_lowest 21 = .ok (.lstore 5, 2) := by decide +kernel
theorem dX9_lowest_23 : decode cX9_lowest 23 = .ok (.iload 4, 2) := by decide +kernel
theorem dX9_lowest_25 : decode cX9_lowest 25 = .ok (.ifCond .eq 21, 3) := by decide +kernel
theorem dX9_lowest_28 : decode cX9_lowest 28 = .ok (.lload 5, 2) := by decide +kernel
theorem dX9_lowest_30 : decode cX9_lowest 30 = .ok (.lload_n 2, 1) := by decide +kernel
theorem dX9_lowest_31 : decode cX9_lowest 31 = .ok (.ldc2_w 26, 3) := by decide +kernel
theorem dX9_lowest_34 : decode cX9_lowest 34 = .ok (.ldiv, 1) := by decide +kernel
theorem dX9_lowest_35 : decode cX9_lowest 35 = .ok (.lcmp, 1) := by decide +kernel
theorem dX9_lowest_36 : decode cX9_lowest 36 = .ok (.ifCond .lt 10, 3) := by decide +kernel
theorem dX9_lowest_39 : decode cX9_lowest 39 = .ok (.lload 5, 2) := by decide +kernel
theorem dX9_lowest_41 : decode cX9_lowest 41 = .ok (.lload_n 2, 1) := by decide +kernel
theorem dX9_lowest_42 : decode cX9_lowest 42 = .ok (.lsub, 1) := by decide +kernel
theorem dX9_lowest_43 : decode cX9_lowest 43 = .ok (.goto 5, 3) := by decide +kernel
theorem dX9_lowest_46 : decode cX9_lowest 46 = .ok (.lload 5, 2) := by decide +kernel
theorem dX9_lowest_48 : decode cX9_lowest 48 = .ok (.lreturn, 1) := by decide +kernel
theorem dX9_bounded_0 : decode cX9_bounded 0 = .ok (.lload_n 0, 1) := by decide +kernel
theorem dX9_bounded_1 : decode cX9_bounded 1 = .ok (.ldc2_w 28, 3) := by decide +kernel
theorem dX9_bounded_4 : decode cX9_bounded 4 = .ok (.lcmp, 1) := by decide +kernel
theorem dX9_bounded_5 : decode cX9_bounded 5 = .ok (.ifCond .le 9, 3) := by decide +kernel
theorem dX9_bounded_8 : decode cX9_bounded 8 = .ok (.ldc2_w 28, 3) := by decide +kernel
theorem dX9_bounded_11 : decode cX9_bounded 11 = .ok (.goto 18, 3) := by decide +kernel
theorem dX9_bounded_14 : decode cX9_bounded 14 = .ok (.lload_n 0, 1) := by decide +kernel
theorem dX9_bounded_15 : decode cX9_bounded 15 = .ok (.ldc2_w 30, 3) := by decide +kernel
theorem dX9_bounded_18 : decode cX9_bounded 18 = .ok (.lcmp, 1) := by decide +kernel
theorem dX9_bounded_19 : decode cX9_bounded 19 = .ok (.ifCond .ge 9, 3) := by decide +kernel
theorem dX9_bounded_22 : decode cX9_bounded 22 = .ok (.ldc2_w 30, 3) := by decide +kernel
theorem dX9_bounded_25 : decode cX9_bounded 25 = .ok (.goto 4, 3) := by decide +kernel
theorem dX9_bounded_28 : decode cX9_bounded 28 = .ok (.lload_n 0, 1) := by decide +kernel
theorem dX9_bounded_29 : decode cX9_bounded 29 = .ok (.lreturn, 1) := by decide +kernel
theorem dX9_fitted_0 : decode cX9_fitted 0 = .ok (.iload_n 0, 1) := by decide +kernel
theorem dX9_fitted_1 : decode cX9_fitted 1 = .ok (.iconst 2, 1) := by decide +kernel
theorem dX9_fitted_2 : decode cX9_fitted 2 = .ok (.if_icmp .ne 8, 3) := by decide +kernel
theorem dX9_fitted_5 : decode cX9_fitted 5 = .ok (.lload_n 1, 1) := by decide +kernel
theorem dX9_fitted_6 : decode cX9_fitted 6 = .ok (.invokestatic 32, 3) := by decide +kernel
theorem dX9_fitted_9 : decode cX9_fitted 9 = .ok (.lreturn, 1) := by decide +kernel
theorem dX9_fitted_10 : decode cX9_fitted 10 = .ok (.iload_n 0, 1) := by decide +kernel
theorem dX9_fitted_11 : decode cX9_fitted 11 = .ok (.iconst 3, 1) := by decide +kernel
theorem dX9_fitted_12 : decode cX9_fitted 12 = .ok (.if_icmp .ne 15, 3) := by decide +kernel
theorem dX9_fitted_15 : decode cX9_fitted 15 = .ok (.lload_n 1, 1) := by decide +kernel
theorem dX9_fitted_16 : decode cX9_fitted 16 = .ok (.lconst 0, 1) := by decide +kernel
theorem dX9_fitted_17 : decode cX9_fitted 17 = .ok (.lcmp, 1) := by decide +kernel
theorem dX9_fitted_18 : decode cX9_fitted 18 = .ok (.ifCond .eq 7, 3) := by decide +kernel
theorem dX9_fitted_21 : decode cX9_fitted 21 = .ok (.lconst 1, 1) := by decide +kernel
theorem dX9_fitted_22 : decode cX9_fitted 22 = .ok (.goto 4, 3) := by decide +kernel
theorem dX9_fitted_25 : decode cX9_fitted 25 = .ok (.lconst 0, 1) := by decide +kernel
theorem dX9_fitted_26 : decode cX9_fitted 26 = .ok (.lreturn, 1) := by decide +kernel
theorem dX9_fitted_27 : decode cX9_fitted 27 = .ok (.iload_n 0, 1) := by decide +kernel
theorem dX9_fitted_28 : decode cX9_fitted 28 = .ok (.ifCond .ne 14, 3) := by decide +kernel
theorem dX9_fitted_31 : decode cX9_fitted 31 = .ok (.lload_n 1, 1) := by decide +kernel
theorem dX9_fitted_32 : decode cX9_fitted 32 = .ok (.ldc2_w 36, 3) := by decide +kernel
theorem dX9_fitted_35 : decode cX9_fitted 35 = .ok (.iconst 0, 1) := by decide +kernel
theorem dX9_fitted_36 : decode cX9_fitted 36 = .ok (.invokestatic 38, 3) := by decide +kernel
theorem dX9_fitted_39 : decode cX9_fitted 39 = .ok (.goto 27, 3) := by decide +kernel
theorem dX9_fitted_42 : decode cX9_fitted 42 = .ok (.iload_n 0, 1) := by decide +kernel
theorem dX9_fitted_43 : decode cX9_fitted 43 = .ok (.iconst 1, 1) := by decide +kernel
theorem dX9_fitted_44 : decode cX9_fitted 44 = .ok (.if_icmp .ne 14, 3) := by decide +kernel
theorem dX9_fitted_47 : decode cX9_fitted 47 = .ok (.lload_n 1, 1) := by decide +kernel
theorem dX9_fitted_48 : decode cX9_fitted 48 = .ok (.ldc2_w 36, 3) := by decide +kernel
theorem dX9_fitted_51 : decode cX9_fitted 51 = .ok (.iconst 1, 1) := by decide +kernel
theorem dX9_fitted_52 : decode cX9_fitted 52 = .ok (.invokestatic 38, 3) := by decide +kernel
theorem dX9_fitted_55 : decode cX9_fitted 55 = .ok (.goto 11, 3) := by decide +kernel
theorem dX9_fitted_58 : decode cX9_fitted 58 = .ok (.lload_n 1, 1) := by decide +kernel
theorem dX9_fitted_59 : decode cX9_fitted 59 = .ok (.ldc2_w 42, 3) := by decide +kernel
theorem dX9_fitted_62 : decode cX9_fitted 62 = .ok (.iconst 1, 1) := by decide +kernel
theorem dX9_fitted_63 : decode cX9_fitted 63 = .ok (.invokestatic 38, 3) := by decide +kernel
theorem dX9_fitted_66 : decode cX9_fitted 66 = .ok (.lreturn, 1) := by decide +kernel
theorem dX9_raised_0 : decode cX9_raised 0 = .ok (.iload_n 0, 1) := by decide +kernel
theorem dX9_raised_1 : decode cX9_raised 1 = .ok (.iconst 2, 1) := by decide +kernel
theorem dX9_raised_2 : decode cX9_raised 2 = .ok (.if_icmp .ne 16, 3) := by decide +kernel
theorem dX9_raised_5 : decode cX9_raised 5 = .ok (.lload_n 1, 1) := by decide +kernel
theorem dX9_raised_6 : decode cX9_raised 6 = .ok (.lload_n 3, 1) := by decide +kernel
theorem dX9_raised_7 : decode cX9_raised 7 = .ok (.invokestatic 32, 3) := by decide +kernel
theorem dX9_raised_10 : decode cX9_raised 10 = .ok (.ladd, 1) := by decide +kernel
theorem dX9_raised_11 : decode cX9_raised 11 = .ok (.invokestatic 32, 3) := by decide +kernel
theorem dX9_raised_14 : decode cX9_raised 14 = .ok (.invokestatic 44, 3) := by decide +kernel
theorem dX9_raised_17 : decode cX9_raised 17 = .ok (.lreturn, 1) := by decide +kernel
theorem dX9_raised_18 : decode cX9_raised 18 = .ok (.iload_n 0, 1) := by decide +kernel
theorem dX9_raised_19 : decode cX9_raised 19 = .ok (.iconst 3, 1) := by decide +kernel
theorem dX9_raised_20 : decode cX9_raised 20 = .ok (.if_icmp .ne 21, 3) := by decide +kernel
theorem dX9_raised_23 : decode cX9_raised 23 = .ok (.lload_n 3, 1) := by decide +kernel
theorem dX9_raised_24 : decode cX9_raised 24 = .ok (.ldc2_w 26, 3) := by decide +kernel
theorem dX9_raised_27 : decode cX9_raised 27 = .ok (.lrem, 1) := by decide +kernel
theorem dX9_raised_28 : decode cX9_raised 28 = .ok (.lconst 0, 1) := by decide +kernel
theorem dX9_raised_29 : decode cX9_raised 29 = .ok (.lcmp, 1) := by decide +kernel
theorem dX9_raised_30 : decode cX9_raised 30 = .ok (.ifCond .eq 9, 3) := by decide +kernel
theorem dX9_raised_33 : decode cX9_raised 33 = .ok (.lconst 1, 1) := by decide +kernel
theorem dX9_raised_34 : decode cX9_raised 34 = .ok (.lload_n 1, 1) := by decide +kernel
theorem dX9_raised_35 : decode cX9_raised 35 = .ok (.lsub, 1) := by decide +kernel
theorem dX9_raised_36 : decode cX9_raised 36 = .ok (.goto 4, 3) := by decide +kernel
theorem dX9_raised_39 : decode cX9_raised 39 = .ok (.lload_n 1, 1) := by decide +kernel
theorem dX9_raised_40 : decode cX9_raised 40 = .ok (.lreturn, 1) := by decide +kernel
theorem dX9_raised_41 : decode cX9_raised 41 = .ok (.iload_n 0, 1) := by decide +kernel
theorem dX9_raised_42 : decode cX9_raised 42 = .ok (.lload_n 1, 1) := by decide +kernel
theorem dX9_raised_43 : decode cX9_raised 43 = .ok (.lload_n 3, 1) := by decide +kernel
theorem dX9_raised_44 : decode cX9_raised 44 = .ok (.ladd, 1) := by decide +kernel
theorem dX9_raised_45 : decode cX9_raised 45 = .ok (.invokestatic 47, 3) := by decide +kernel
theorem dX9_raised_48 : decode cX9_raised 48 = .ok (.lreturn, 1) := by decide +kernel
theorem dX9_multiplied_0 : decode cX9_multiplied 0 = .ok (.iload_n 0, 1) := by decide +kernel
theorem dX9_multiplied_1 : decode cX9_multiplied 1 = .ok (.iconst 2, 1) := by decide +kernel
theorem dX9_multiplied_2 : decode cX9_multiplied 2 = .ok (.if_icmp .ne 13, 3) := by decide +kernel
theorem dX9_multiplied_5 : decode cX9_multiplied 5 = .ok (.lload_n 1, 1) := by decide +kernel
theorem dX9_multiplied_6 : decode cX9_multiplied 6 = .ok (.lload_n 3, 1) := by decide +kernel
theorem dX9_multiplied_7 : decode cX9_multiplied 7 = .ok (.invokestatic 32, 3) := by decide +kernel
theorem dX9_multiplied_10 : decode cX9_multiplied 10 = .ok (.lmul, 1) := by decide +kernel
theorem dX9_multiplied_11 : decode cX9_multiplied 11 = .ok (.invokestatic 44, 3) := by decide +kernel
theorem dX9_multiplied_14 : decode cX9_multiplied 14 = .ok (.lreturn, 1) := by decide +kernel
theorem dX9_multiplied_15 : decode cX9_multiplied 15 = .ok (.iload_n 0, 1) := by decide +kernel
theorem dX9_multiplied_16 : decode cX9_multiplied 16 = .ok (.iconst 3, 1) := by decide +kernel
theorem dX9_multiplied_17 : decode cX9_multiplied 17 = .ok (.if_icmp .ne 15, 3) := by decide +kernel
theorem dX9_multiplied_20 : decode cX9_multiplied 20 = .ok (.lload_n 3, 1) := by decide +kernel
theorem dX9_multiplied_21 : decode cX9_multiplied 21 = .ok (.lconst 0, 1) := by decide +kernel
theorem dX9_multiplied_22 : decode cX9_multiplied 22 = .ok (.lcmp, 1) := by decide +kernel
theorem dX9_multiplied_23 : decode cX9_multiplied 23 = .ok (.ifCond .ne 7, 3) := by decide +kernel
theorem dX9_multiplied_26 : decode cX9_multiplied 26 = .ok (.lconst 0, 1) := by decide +kernel
theorem dX9_multiplied_27 : decode cX9_multiplied 27 = .ok (.goto 4, 3) := by decide +kernel
theorem dX9_multiplied_30 : decode cX9_multiplied 30 = .ok (.lload_n 1, 1) := by decide +kernel
theorem dX9_multiplied_31 : decode cX9_multiplied 31 = .ok (.lreturn, 1) := by decide +kernel
theorem dX9_multiplied_32 : decode cX9_multiplied 32 = .ok (.iload_n 0, 1) := by decide +kernel
theorem dX9_multiplied_33 : decode cX9_multiplied 33 = .ok (.lload_n 1, 1) := by decide +kernel
theorem dX9_multiplied_34 : decode cX9_multiplied 34 = .ok (.lload_n 3, 1) := by decide +kernel
theorem dX9_multiplied_35 : decode cX9_multiplied 35 = .ok (.lmul, 1) := by decide +kernel
theorem dX9_multiplied_36 : decode cX9_multiplied 36 = .ok (.invokestatic 47, 3) := by decide +kernel
theorem dX9_multiplied_39 : decode cX9_multiplied 39 = .ok (.lreturn, 1) := by decide +kernel
theorem dX9_isRoll_0 : decode cX9_isRoll 0 = .ok (.iload_n 0, 1) := by decide +kernel
theorem dX9_isRoll_1 : decode cX9_isRoll 1 = .ok (.ifCond .lt 12, 3) := by decide +kernel
theorem dX9_isRoll_4 : decode cX9_isRoll 4 = .ok (.iload_n 0, 1) := by decide +kernel
theorem dX9_isRoll_5 : decode cX9_isRoll 5 = .ok (.iconst 5, 1) := by decide +kernel
theorem dX9_isRoll_6 : decode cX9_isRoll 6 = .ok (.if_icmp .ge 7, 3) := by decide +kernel
theorem dX9_isRoll_9 : decode cX9_isRoll 9 = .ok (.iconst 1, 1) := by decide +kernel
theorem dX9_isRoll_10 : decode cX9_isRoll 10 = .ok (.goto 4, 3) := by decide +kernel
theorem dX9_isRoll_13 : decode cX9_isRoll 13 = .ok (.iconst 0, 1) := by decide +kernel
theorem dX9_isRoll_14 : decode cX9_isRoll 14 = .ok (.ireturn, 1) := by decide +kernel
theorem dX9_lacks_0 : decode cX9_lacks 0 = .ok (.iload_n 1, 1) := by decide +kernel
theorem dX9_lacks_1 : decode cX9_lacks 1 = .ok (.invokestatic 51, 3) := by decide +kernel
theorem dX9_lacks_4 : decode cX9_lacks 4 = .ok (.ifCond .ne 5, 3) := by decide +kernel
theorem dX9_lacks_7 : decode cX9_lacks 7 = .ok (.iconst 1, 1) := by decide +kernel
theorem dX9_lacks_8 : decode cX9_lacks 8 = .ok (.ireturn, 1) := by decide +kernel
theorem dX9_lacks_9 : decode cX9_lacks 9 = .ok (.aload_n 0, 1) := by decide +kernel
theorem dX9_lacks_10 : decode cX9_lacks 10 = .ok (.getfield 13, 3) := by decide +kernel
theorem dX9_lacks_13 : decode cX9_lacks 13 = .ok (.iload_n 1, 1) := by decide +kernel
theorem dX9_lacks_14 : decode cX9_lacks 14 = .ok (.iaload, 1) := by decide +kernel
theorem dX9_lacks_15 : decode cX9_lacks 15 = .ok (.ifCond .ge 5, 3) := by decide +kernel
theorem dX9_lacks_18 : decode cX9_lacks 18 = .ok (.iconst 2, 1) := by decide +kernel
theorem dX9_lacks_19 : decode cX9_lacks 19 = .ok (.ireturn, 1) := by decide +kernel
theorem dX9_lacks_20 : decode cX9_lacks 20 = .ok (.iload_n 2, 1) := by decide +kernel
theorem dX9_lacks_21 : decode cX9_lacks 21 = .ok (.ifCond .lt 13, 3) := by decide +kernel
theorem dX9_lacks_24 : decode cX9_lacks 24 = .ok (.iload_n 2, 1) := by decide +kernel
theorem dX9_lacks_25 : decode cX9_lacks 25 = .ok (.aload_n 0, 1) := by decide +kernel
theorem dX9_lacks_26 : decode cX9_lacks 26 = .ok (.getfield 13, 3) := by decide +kernel
theorem dX9_lacks_29 : decode cX9_lacks 29 = .ok (.iload_n 1, 1) := by decide +kernel
theorem dX9_lacks_30 : decode cX9_lacks 30 = .ok (.iaload, 1) := by decide +kernel
theorem dX9_lacks_31 : decode cX9_lacks 31 = .ok (.if_icmp .lt 7, 3) := by decide +kernel
theorem dX9_lacks_34 : decode cX9_lacks 34 = .ok (.iconst 3, 1) := by decide +kernel
theorem dX9_lacks_35 : decode cX9_lacks 35 = .ok (.goto 4, 3) := by decide +kernel
theorem dX9_lacks_38 : decode cX9_lacks 38 = .ok (.iconst 0, 1) := by decide +kernel
theorem dX9_lacks_39 : decode cX9_lacks 39 = .ok (.ireturn, 1) := by decide +kernel
theorem dX9_tells_0 : decode cX9_tells 0 = .ok (.aload_n 0, 1) := by decide +kernel
theorem dX9_tells_1 : decode cX9_tells 1 = .ok (.getfield 7, 3) := by decide +kernel
theorem dX9_tells_4 : decode cX9_tells 4 = .ok (.sipush 200, 3) := by decide +kernel
theorem dX9_tells_7 : decode cX9_tells 7 = .ok (.iload_n 1, 1) := by decide +kernel
theorem dX9_tells_8 : decode cX9_tells 8 = .ok (.imul, 1) := by decide +kernel
theorem dX9_tells_9 : decode cX9_tells 9 = .ok (.iload_n 2, 1) := by decide +kernel
theorem dX9_tells_10 : decode cX9_tells 10 = .ok (.iadd, 1) := by decide +kernel
theorem dX9_tells_11 : decode cX9_tells 11 = .ok (.lload_n 3, 1) := by decide +kernel
theorem dX9_tells_12 : decode cX9_tells 12 = .ok (.lastore, 1) := by decide +kernel
theorem dX9_tells_13 : decode cX9_tells 13 = .ok (.aload_n 0, 1) := by decide +kernel
theorem dX9_tells_14 : decode cX9_tells 14 = .ok (.lload_n 3, 1) := by decide +kernel
theorem dX9_tells_15 : decode cX9_tells 15 = .ok (.ldc2_w 55, 3) := by decide +kernel
theorem dX9_tells_18 : decode cX9_tells 18 = .ok (.lcmp, 1) := by decide +kernel
theorem dX9_tells_19 : decode cX9_tells 19 = .ok (.ifCond .le 8, 3) := by decide +kernel
theorem dX9_tells_22 : decode cX9_tells 22 = .ok (.ldc 57, 2) := by decide +kernel
theorem dX9_tells_24 : decode cX9_tells 24 = .ok (.goto 5, 3) := by decide +kernel
theorem dX9_tells_27 : decode cX9_tells 27 = .ok (.lload_n 3, 1) := by decide +kernel
theorem dX9_tells_28 : decode cX9_tells 28 = .ok (.l2i, 1) := by decide +kernel
theorem dX9_tells_29 : decode cX9_tells 29 = .ok (.putfield 58, 3) := by decide +kernel
theorem dX9_tells_32 : decode cX9_tells 32 = .ok (.iconst 0, 1) := by decide +kernel
theorem dX9_tells_33 : decode cX9_tells 33 = .ok (.ireturn, 1) := by decide +kernel
theorem dX9_hang_0 : decode cX9_hang 0 = .ok (.iload_n 1, 1) := by decide +kernel
theorem dX9_hang_1 : decode cX9_hang 1 = .ok (.invokestatic 51, 3) := by decide +kernel
theorem dX9_hang_4 : decode cX9_hang 4 = .ok (.ifCond .ne 5, 3) := by decide +kernel
theorem dX9_hang_7 : decode cX9_hang 7 = .ok (.iconst 1, 1) := by decide +kernel
theorem dX9_hang_8 : decode cX9_hang 8 = .ok (.ireturn, 1) := by decide +kernel
theorem dX9_hang_9 : decode cX9_hang 9 = .ok (.iload_n 2, 1) := by decide +kernel
theorem dX9_hang_10 : decode cX9_hang 10 = .ok (.sipush 200, 3) := by decide +kernel
theorem dX9_hang_13 : decode cX9_hang 13 = .ok (.if_icmp .le 5, 3) := by decide +kernel
theorem dX9_hang_16 : decode cX9_hang 16 = .ok (.iconst 5, 1) := by decide +kernel
theorem dX9_hang_17 : decode cX9_hang 17 = .ok (.ireturn, 1) := by decide +kernel
theorem dX9_hang_18 : decode cX9_hang 18 = .ok (.iload_n 2, 1) := by decide +kernel
theorem dX9_hang_19 : decode cX9_hang 19 = .ok (.ifCond .ge 5, 3) := by decide +kernel
theorem dX9_hang_22 : decode cX9_hang 22 = .ok (.iconst 4, 1) := by decide +kernel
theorem dX9_hang_23 : decode cX9_hang 23 = .ok (.ireturn, 1) := by decide +kernel
theorem dX9_hang_24 : decode cX9_hang 24 = .ok (.aload_n 0, 1) := by decide +kernel
theorem dX9_hang_25 : decode cX9_hang 25 = .ok (.getfield 13, 3) := by decide +kernel
theorem dX9_hang_28 : decode cX9_hang 28 = .ok (.iload_n 1, 1) := by decide +kernel
theorem dX9_hang_29 : decode cX9_hang 29 = .ok (.iload_n 2, 1) := by decide +kernel
theorem dX9_hang_30 : decode cX9_hang 30 = .ok (.iastore, 1) := by decide +kernel
theorem dX9_hang_31 : decode cX9_hang 31 = .ok (.iconst 0, 1) := by decide +kernel
theorem dX9_hang_32 : decode cX9_hang 32 = .ok (.istore_n 3, 1) := by decide +kernel
theorem dX9_hang_33 : decode cX9_hang 33 = .ok (.iload_n 3, 1) := by decide +kernel
theorem dX9_hang_34 : decode cX9_hang 34 = .ok (.iload_n 2, 1) := by decide +kernel
theorem dX9_hang_35 : decode cX9_hang 35 = .ok (.if_icmp .ge 22, 3) := by decide +kernel
theorem dX9_hang_38 : decode cX9_hang 38 = .ok (.aload_n 0, 1) := by decide +kernel
theorem dX9_hang_39 : decode cX9_hang 39 = .ok (.getfield 7, 3) := by decide +kernel
theorem dX9_hang_42 : decode cX9_hang 42 = .ok (.sipush 200, 3) := by decide +kernel
theorem dX9_hang_45 : decode cX9_hang 45 = .ok (.iload_n 1, 1) := by decide +kernel
theorem dX9_hang_46 : decode cX9_hang 46 = .ok (.imul, 1) := by decide +kernel
theorem dX9_hang_47 : decode cX9_hang 47 = .ok (.iload_n 3, 1) := by decide +kernel
theorem dX9_hang_48 : decode cX9_hang 48 = .ok (.iadd, 1) := by decide +kernel
theorem dX9_hang_49 : decode cX9_hang 49 = .ok (.lconst 0, 1) := by decide +kernel
theorem dX9_hang_50 : decode cX9_hang 50 = .ok (.lastore, 1) := by decide +kernel
theorem dX9_hang_51 : decode cX9_hang 51 = .ok (.iinc 3 1, 3) := by decide +kernel
theorem dX9_hang_54 : decode cX9_hang 54 = .ok (.goto (-21), 3) := by decide +kernel
theorem dX9_hang_57 : decode cX9_hang 57 = .ok (.iconst 0, 1) := by decide +kernel
theorem dX9_hang_58 : decode cX9_hang 58 = .ok (.ireturn, 1) := by decide +kernel
theorem dX9_tear_0 : decode cX9_tear 0 = .ok (.iload_n 1, 1) := by decide +kernel
theorem dX9_tear_1 : decode cX9_tear 1 = .ok (.invokestatic 51, 3) := by decide +kernel
theorem dX9_tear_4 : decode cX9_tear 4 = .ok (.ifCond .ne 5, 3) := by decide +kernel
theorem dX9_tear_7 : decode cX9_tear 7 = .ok (.iconst 1, 1) := by decide +kernel
theorem dX9_tear_8 : decode cX9_tear 8 = .ok (.ireturn, 1) := by decide +kernel
theorem dX9_tear_9 : decode cX9_tear 9 = .ok (.aload_n 0, 1) := by decide +kernel
theorem dX9_tear_10 : decode cX9_tear 10 = .ok (.getfield 13, 3) := by decide +kernel
theorem dX9_tear_13 : decode cX9_tear 13 = .ok (.iload_n 1, 1) := by decide +kernel
theorem dX9_tear_14 : decode cX9_tear 14 = .ok (.iaload, 1) := by decide +kernel
theorem dX9_tear_15 : decode cX9_tear 15 = .ok (.ifCond .ge 5, 3) := by decide +kernel
theorem dX9_tear_18 : decode cX9_tear 18 = .ok (.iconst 2, 1) := by decide +kernel
theorem dX9_tear_19 : decode cX9_tear 19 = .ok (.ireturn, 1) := by decide +kernel
theorem dX9_tear_20 : decode cX9_tear 20 = .ok (.aload_n 0, 1) := by decide +kernel
theorem dX9_tear_21 : decode cX9_tear 21 = .ok (.getfield 13, 3) := by decide +kernel
theorem dX9_tear_24 : decode cX9_tear 24 = .ok (.iload_n 1, 1) := by decide +kernel
theorem dX9_tear_25 : decode cX9_tear 25 = .ok (.iconst (-1), 1) := by decide +kernel
theorem dX9_tear_26 : decode cX9_tear 26 = .ok (.iastore, 1) := by decide +kernel
theorem dX9_tear_27 : decode cX9_tear 27 = .ok (.iconst 0, 1) := by decide +kernel
theorem dX9_tear_28 : decode cX9_tear 28 = .ok (.ireturn, 1) := by decide +kernel
theorem dX9_read_0 : decode cX9_read 0 = .ok (.aload_n 0, 1) := by decide +kernel
theorem dX9_read_1 : decode cX9_read 1 = .ok (.iload_n 1, 1) := by decide +kernel
theorem dX9_read_2 : decode cX9_read 2 = .ok (.iload_n 2, 1) := by decide +kernel
theorem dX9_read_3 : decode cX9_read 3 = .ok (.invokevirtual 62, 3) := by decide +kernel
theorem dX9_read_6 : decode cX9_read 6 = .ok (.istore_n 3, 1) := by decide +kernel
theorem dX9_read_7 : decode cX9_read 7 = .ok (.iload_n 3, 1) := by decide +kernel
theorem dX9_read_8 : decode cX9_read 8 = .ok (.ifCond .le 7, 3) := by decide +kernel
theorem dX9_read_11 : decode cX9_read 11 = .ok (.iload_n 3, 1) := by decide +kernel
theorem dX9_read_12 : decode cX9_read 12 = .ok (.goto 21, 3) := by decide +kernel
theorem dX9_read_15 : decode cX9_read 15 = .ok (.aload_n 0, 1) := by decide +kernel
theorem dX9_read_16 : decode cX9_read 16 = .ok (.iload_n 1, 1) := by decide +kernel
theorem dX9_read_17 : decode cX9_read 17 = .ok (.iload_n 2, 1) := by decide +kernel
theorem dX9_read_18 : decode cX9_read 18 = .ok (.aload_n 0, 1) := by decide +kernel
theorem dX9_read_19 : decode cX9_read 19 = .ok (.getfield 7, 3) := by decide +kernel
theorem dX9_read_22 : decode cX9_read 22 = .ok (.sipush 200, 3) := by decide +kernel
theorem dX9_read_25 : decode cX9_read 25 = .ok (.iload_n 1, 1) := by decide +kernel
theorem dX9_read_26 : decode cX9_read 26 = .ok (.imul, 1) := by decide +kernel
theorem dX9_read_27 : decode cX9_read 27 = .ok (.iload_n 2, 1) := by decide +kernel
theorem dX9_read_28 : decode cX9_read 28 = .ok (.iadd, 1) := by decide +kernel
theorem dX9_read_29 : decode cX9_read 29 = .ok (.laload, 1) := by decide +kernel
theorem dX9_read_30 : decode cX9_read 30 = .ok (.invokevirtual 66, 3) := by decide +kernel
theorem dX9_read_33 : decode cX9_read 33 = .ok (.ireturn, 1) := by decide +kernel
theorem dX9_mark_0 : decode cX9_mark 0 = .ok (.aload_n 0, 1) := by decide +kernel
theorem dX9_mark_1 : decode cX9_mark 1 = .ok (.iload_n 1, 1) := by decide +kernel
theorem dX9_mark_2 : decode cX9_mark 2 = .ok (.iload_n 2, 1) := by decide +kernel
theorem dX9_mark_3 : decode cX9_mark 3 = .ok (.invokevirtual 62, 3) := by decide +kernel
theorem dX9_mark_6 : decode cX9_mark 6 = .ok (.istore 4, 2) := by decide +kernel
theorem dX9_mark_8 : decode cX9_mark 8 = .ok (.iload 4, 2) := by decide +kernel
theorem dX9_mark_10 : decode cX9_mark 10 = .ok (.ifCond .le 8, 3) := by decide +kernel
theorem dX9_mark_13 : decode cX9_mark 13 = .ok (.iload 4, 2) := by decide +kernel
theorem dX9_mark_15 : decode cX9_mark 15 = .ok (.goto 15, 3) := by decide +kernel
theorem dX9_mark_18 : decode cX9_mark 18 = .ok (.aload_n 0, 1) := by decide +kernel
theorem dX9_mark_19 : decode cX9_mark 19 = .ok (.iload_n 1, 1) := by decide +kernel
theorem dX9_mark_20 : decode cX9_mark 20 = .ok (.iload_n 2, 1) := by decide +kernel
theorem dX9_mark_21 : decode cX9_mark 21 = .ok (.iload_n 1, 1) := by decide +kernel
theorem dX9_mark_22 : decode cX9_mark 22 = .ok (.iload_n 3, 1) := by decide +kernel
theorem dX9_mark_23 : decode cX9_mark 23 = .ok (.i2l, 1) := by decide +kernel
theorem dX9_mark_24 : decode cX9_mark 24 = .ok (.invokestatic 47, 3) := by decide +kernel
theorem dX9_mark_27 : decode cX9_mark 27 = .ok (.invokevirtual 66, 3) := by decide +kernel
theorem dX9_mark_30 : decode cX9_mark 30 = .ok (.ireturn, 1) := by decide +kernel
theorem dX9_more_0 : decode cX9_more 0 = .ok (.aload_n 0, 1) := by decide +kernel
theorem dX9_more_1 : decode cX9_more 1 = .ok (.iload_n 1, 1) := by decide +kernel
theorem dX9_more_2 : decode cX9_more 2 = .ok (.iload_n 2, 1) := by decide +kernel
theorem dX9_more_3 : decode cX9_more 3 = .ok (.invokevirtual 62, 3) := by decide +kernel
theorem dX9_more_6 : decode cX9_more 6 = .ok (.istore 4, 2) := by decide +kernel
theorem dX9_more_8 : decode cX9_more 8 = .ok (.iload 4, 2) := by decide +kernel
theorem dX9_more_10 : decode cX9_more 10 = .ok (.ifCond .le 8, 3) := by decide +kernel
theorem dX9_more_13 : decode cX9_more 13 = .ok (.iload 4, 2) := by decide +kernel
theorem dX9_more_15 : decode cX9_more 15 = .ok (.goto 27, 3) := by decide +kernel
theorem dX9_more_18 : decode cX9_more 18 = .ok (.aload_n 0, 1) := by decide +kernel
theorem dX9_more_19 : decode cX9_more 19 = .ok (.iload_n 1, 1) := by decide +kernel
theorem dX9_more_20 : decode cX9_more 20 = .ok (.iload_n 2, 1) := by decide +kernel
theorem dX9_more_21 : decode cX9_more 21 = .ok (.iload_n 1, 1) := by decide +kernel
theorem dX9_more_22 : decode cX9_more 22 = .ok (.aload_n 0, 1) := by decide +kernel
theorem dX9_more_23 : decode cX9_more 23 = .ok (.getfield 7, 3) := by decide +kernel
theorem dX9_more_26 : decode cX9_more 26 = .ok (.sipush 200, 3) := by decide +kernel
theorem dX9_more_29 : decode cX9_more 29 = .ok (.iload_n 1, 1) := by decide +kernel
theorem dX9_more_30 : decode cX9_more 30 = .ok (.imul, 1) := by decide +kernel
theorem dX9_more_31 : decode cX9_more 31 = .ok (.iload_n 2, 1) := by decide +kernel
theorem dX9_more_32 : decode cX9_more 32 = .ok (.iadd, 1) := by decide +kernel
theorem dX9_more_33 : decode cX9_more 33 = .ok (.laload, 1) := by decide +kernel
theorem dX9_more_34 : decode cX9_more 34 = .ok (.iload_n 3, 1) := by decide +kernel
theorem dX9_more_35 : decode cX9_more 35 = .ok (.i2l, 1) := by decide +kernel
theorem dX9_more_36 : decode cX9_more 36 = .ok (.invokestatic 70, 3) := by decide +kernel
theorem dX9_more_39 : decode cX9_more 39 = .ok (.invokevirtual 66, 3) := by decide +kernel
theorem dX9_more_42 : decode cX9_more 42 = .ok (.ireturn, 1) := by decide +kernel
theorem dX9_times_0 : decode cX9_times 0 = .ok (.aload_n 0, 1) := by decide +kernel
theorem dX9_times_1 : decode cX9_times 1 = .ok (.iload_n 1, 1) := by decide +kernel
theorem dX9_times_2 : decode cX9_times 2 = .ok (.iload_n 2, 1) := by decide +kernel
theorem dX9_times_3 : decode cX9_times 3 = .ok (.invokevirtual 62, 3) := by decide +kernel
theorem dX9_times_6 : decode cX9_times 6 = .ok (.istore 4, 2) := by decide +kernel
theorem dX9_times_8 : decode cX9_times 8 = .ok (.iload 4, 2) := by decide +kernel
theorem dX9_times_10 : decode cX9_times 10 = .ok (.ifCond .le 8, 3) := by decide +kernel
theorem dX9_times_13 : decode cX9_times 13 = .ok (.iload 4, 2) := by decide +kernel
theorem dX9_times_15 : decode cX9_times 15 = .ok (.goto 27, 3) := by decide +kernel
theorem dX9_times_18 : decode cX9_times 18 = .ok (.aload_n 0, 1) := by decide +kernel
theorem dX9_times_19 : decode cX9_times 19 = .ok (.iload_n 1, 1) := by decide +kernel
theorem dX9_times_20 : decode cX9_times 20 = .ok (.iload_n 2, 1) := by decide +kernel
theorem dX9_times_21 : decode cX9_times 21 = .ok (.iload_n 1, 1) := by decide +kernel
theorem dX9_times_22 : decode cX9_times 22 = .ok (.aload_n 0, 1) := by decide +kernel
theorem dX9_times_23 : decode cX9_times 23 = .ok (.getfield 7, 3) := by decide +kernel
theorem dX9_times_26 : decode cX9_times 26 = .ok (.sipush 200, 3) := by decide +kernel
theorem dX9_times_29 : decode cX9_times 29 = .ok (.iload_n 1, 1) := by decide +kernel
theorem dX9_times_30 : decode cX9_times 30 = .ok (.imul, 1) := by decide +kernel
theorem dX9_times_31 : decode cX9_times 31 = .ok (.iload_n 2, 1) := by decide +kernel
theorem dX9_times_32 : decode cX9_times 32 = .ok (.iadd, 1) := by decide +kernel
theorem dX9_times_33 : decode cX9_times 33 = .ok (.laload, 1) := by decide +kernel
theorem dX9_times_34 : decode cX9_times 34 = .ok (.iload_n 3, 1) := by decide +kernel
theorem dX9_times_35 : decode cX9_times 35 = .ok (.i2l, 1) := by decide +kernel
theorem dX9_times_36 : decode cX9_times 36 = .ok (.invokestatic 74, 3) := by decide +kernel
theorem dX9_times_39 : decode cX9_times 39 = .ok (.invokevirtual 66, 3) := by decide +kernel
theorem dX9_times_42 : decode cX9_times 42 = .ok (.ireturn, 1) := by decide +kernel
theorem dX9_size_0 : decode cX9_size 0 = .ok (.iload_n 1, 1) := by decide +kernel
theorem dX9_size_1 : decode cX9_size 1 = .ok (.invokestatic 51, 3) := by decide +kernel
theorem dX9_size_4 : decode cX9_size 4 = .ok (.ifCond .ne 5, 3) := by decide +kernel
theorem dX9_size_7 : decode cX9_size 7 = .ok (.iconst 1, 1) := by decide +kernel
theorem dX9_size_8 : decode cX9_size 8 = .ok (.ireturn, 1) := by decide +kernel
theorem dX9_size_9 : decode cX9_size 9 = .ok (.aload_n 0, 1) := by decide +kernel
theorem dX9_size_10 : decode cX9_size 10 = .ok (.getfield 13, 3) := by decide +kernel
theorem dX9_size_13 : decode cX9_size 13 = .ok (.iload_n 1, 1) := by decide +kernel
theorem dX9_size_14 : decode cX9_size 14 = .ok (.iaload, 1) := by decide +kernel
theorem dX9_size_15 : decode cX9_size 15 = .ok (.ifCond .ge 5, 3) := by decide +kernel
theorem dX9_size_18 : decode cX9_size 18 = .ok (.iconst 2, 1) := by decide +kernel
theorem dX9_size_19 : decode cX9_size 19 = .ok (.ireturn, 1) := by decide +kernel
theorem dX9_size_20 : decode cX9_size 20 = .ok (.aload_n 0, 1) := by decide +kernel
theorem dX9_size_21 : decode cX9_size 21 = .ok (.aload_n 0, 1) := by decide +kernel
theorem dX9_size_22 : decode cX9_size 22 = .ok (.getfield 13, 3) := by decide +kernel
theorem dX9_size_25 : decode cX9_size 25 = .ok (.iload_n 1, 1) := by decide +kernel
theorem dX9_size_26 : decode cX9_size 26 = .ok (.iaload, 1) := by decide +kernel
theorem dX9_size_27 : decode cX9_size 27 = .ok (.putfield 58, 3) := by decide +kernel
theorem dX9_size_30 : decode cX9_size 30 = .ok (.iconst 0, 1) := by decide +kernel
theorem dX9_size_31 : decode cX9_size 31 = .ok (.ireturn, 1) := by decide +kernel
theorem dX9_pour_0 : decode cX9_pour 0 = .ok (.iload_n 1, 1) := by decide +kernel
theorem dX9_pour_1 : decode cX9_pour 1 = .ok (.invokestatic 51, 3) := by decide +kernel
theorem dX9_pour_4 : decode cX9_pour 4 = .ok (.ifCond .eq 10, 3) := by decide +kernel
theorem dX9_pour_7 : decode cX9_pour 7 = .ok (.iload_n 3, 1) := by decide +kernel
theorem dX9_pour_8 : decode cX9_pour 8 = .ok (.invokestatic 51, 3) := by decide +kernel
theorem dX9_pour_11 : decode cX9_pour 11 = .ok (.ifCond .ne 5, 3) := by decide +kernel
theorem dX9_pour_14 : decode cX9_pour 14 = .ok (.iconst 1, 1) := by decide +kernel
theorem dX9_pour_15 : decode cX9_pour 15 = .ok (.ireturn, 1) := by decide +kernel
theorem dX9_pour_16 : decode cX9_pour 16 = .ok (.aload_n 0, 1) := by decide +kernel
theorem dX9_pour_17 : decode cX9_pour 17 = .ok (.iload_n 1, 1) := by decide +kernel
theorem dX9_pour_18 : decode cX9_pour 18 = .ok (.iload_n 2, 1) := by decide +kernel
theorem dX9_pour_19 : decode cX9_pour 19 = .ok (.invokevirtual 62, 3) := by decide +kernel
theorem dX9_pour_22 : decode cX9_pour 22 = .ok (.istore 5, 2) := by decide +kernel
theorem dX9_pour_24 : decode cX9_pour 24 = .ok (.iload 5, 2) := by decide +kernel
theorem dX9_pour_26 : decode cX9_pour 26 = .ok (.ifCond .le 8, 3) := by decide +kernel
theorem dX9_pour_29 : decode cX9_pour 29 = .ok (.iload 5, 2) := by decide +kernel
theorem dX9_pour_31 : decode cX9_pour 31 = .ok (.goto 10, 3) := by decide +kernel
theorem dX9_pour_34 : decode cX9_pour 34 = .ok (.aload_n 0, 1) := by decide +kernel
theorem dX9_pour_35 : decode cX9_pour 35 = .ok (.iload_n 3, 1) := by decide +kernel
theorem dX9_pour_36 : decode cX9_pour 36 = .ok (.iload 4, 2) := by decide +kernel
theorem dX9_pour_38 : decode cX9_pour 38 = .ok (.invokevirtual 62, 3) := by decide +kernel
theorem dX9_pour_41 : decode cX9_pour 41 = .ok (.istore 5, 2) := by decide +kernel
theorem dX9_pour_43 : decode cX9_pour 43 = .ok (.iload 5, 2) := by decide +kernel
theorem dX9_pour_45 : decode cX9_pour 45 = .ok (.ifCond .le 6, 3) := by decide +kernel
theorem dX9_pour_48 : decode cX9_pour 48 = .ok (.iload 5, 2) := by decide +kernel
theorem dX9_pour_50 : decode cX9_pour 50 = .ok (.ireturn, 1) := by decide +kernel
theorem dX9_pour_51 : decode cX9_pour 51 = .ok (.aload_n 0, 1) := by decide +kernel
theorem dX9_pour_52 : decode cX9_pour 52 = .ok (.getfield 7, 3) := by decide +kernel
theorem dX9_pour_55 : decode cX9_pour 55 = .ok (.sipush 200, 3) := by decide +kernel
theorem dX9_pour_58 : decode cX9_pour 58 = .ok (.iload_n 1, 1) := by decide +kernel
theorem dX9_pour_59 : decode cX9_pour 59 = .ok (.imul, 1) := by decide +kernel
theorem dX9_pour_60 : decode cX9_pour 60 = .ok (.iload_n 2, 1) := by decide +kernel
theorem dX9_pour_61 : decode cX9_pour 61 = .ok (.iadd, 1) := by decide +kernel
theorem dX9_pour_62 : decode cX9_pour 62 = .ok (.laload, 1) := by decide +kernel
theorem dX9_pour_63 : decode cX9_pour 63 = .ok (.lstore 6, 2) := by decide +kernel
theorem dX9_pour_65 : decode cX9_pour 65 = .ok (.aload_n 0, 1) := by decide +kernel
theorem dX9_pour_66 : decode cX9_pour 66 = .ok (.iload_n 3, 1) := by decide +kernel
theorem dX9_pour_67 : decode cX9_pour 67 = .ok (.iload 4, 2) := by decide +kernel
theorem dX9_pour_69 : decode cX9_pour 69 = .ok (.iload_n 3, 1) := by decide +kernel
theorem dX9_pour_70 : decode cX9_pour 70 = .ok (.lload 6, 2) := by decide +kernel
theorem dX9_pour_72 : decode cX9_pour 72 = .ok (.ldc2_w 55, 3) := by decide +kernel
theorem dX9_pour_75 : decode cX9_pour 75 = .ok (.lcmp, 1) := by decide +kernel
theorem dX9_pour_76 : decode cX9_pour 76 = .ok (.ifCond .le 9, 3) := by decide +kernel
theorem dX9_pour_79 : decode cX9_pour 79 = .ok (.ldc2_w 55, 3) := by decide +kernel
theorem dX9_pour_82 : decode cX9_pour 82 = .ok (.goto 5, 3) := by decide +kernel
theorem dX9_pour_85 : decode cX9_pour 85 = .ok (.lload 6, 2) := by decide +kernel
theorem dX9_pour_87 : decode cX9_pour 87 = .ok (.invokestatic 47, 3) := by decide +kernel
theorem dX9_pour_90 : decode cX9_pour 90 = .ok (.invokevirtual 66, 3) := by decide +kernel
theorem dX9_pour_93 : decode cX9_pour 93 = .ok (.ireturn, 1) := by decide +kernel
theorem dX9_board_0 : decode cX9_board 0 = .ok (.iload_n 1, 1) := by decide +kernel
theorem dX9_board_1 : decode cX9_board 1 = .ok (.bipush 40, 2) := by decide +kernel
theorem dX9_board_3 : decode cX9_board 3 = .ok (.if_icmp .gt 9, 3) := by decide +kernel
theorem dX9_board_6 : decode cX9_board 6 = .ok (.iload_n 2, 1) := by decide +kernel
theorem dX9_board_7 : decode cX9_board 7 = .ok (.bipush 40, 2) := by decide +kernel
theorem dX9_board_9 : decode cX9_board 9 = .ok (.if_icmp .le 5, 3) := by decide +kernel
theorem dX9_board_12 : decode cX9_board 12 = .ok (.iconst 5, 1) := by decide +kernel
theorem dX9_board_13 : decode cX9_board 13 = .ok (.ireturn, 1) := by decide +kernel
theorem dX9_board_14 : decode cX9_board 14 = .ok (.iload_n 1, 1) := by decide +kernel
theorem dX9_board_15 : decode cX9_board 15 = .ok (.ifCond .lt 7, 3) := by decide +kernel
theorem dX9_board_18 : decode cX9_board 18 = .ok (.iload_n 2, 1) := by decide +kernel
theorem dX9_board_19 : decode cX9_board 19 = .ok (.ifCond .ge 5, 3) := by decide +kernel
theorem dX9_board_22 : decode cX9_board 22 = .ok (.iconst 4, 1) := by decide +kernel
theorem dX9_board_23 : decode cX9_board 23 = .ok (.ireturn, 1) := by decide +kernel
theorem dX9_board_24 : decode cX9_board 24 = .ok (.aload_n 0, 1) := by decide +kernel
theorem dX9_board_25 : decode cX9_board 25 = .ok (.iconst 1, 1) := by decide +kernel
theorem dX9_board_26 : decode cX9_board 26 = .ok (.putfield 77, 3) := by decide +kernel
theorem dX9_board_29 : decode cX9_board 29 = .ok (.aload_n 0, 1) := by decide +kernel
theorem dX9_board_30 : decode cX9_board 30 = .ok (.iload_n 1, 1) := by decide +kernel
theorem dX9_board_31 : decode cX9_board 31 = .ok (.putfield 81, 3) := by decide +kernel
theorem dX9_board_34 : decode cX9_board 34 = .ok (.aload_n 0, 1) := by decide +kernel
theorem dX9_board_35 : decode cX9_board 35 = .ok (.iload_n 2, 1) := by decide +kernel
theorem dX9_board_36 : decode cX9_board 36 = .ok (.putfield 84, 3) := by decide +kernel
theorem dX9_board_39 : decode cX9_board 39 = .ok (.iconst 0, 1) := by decide +kernel
theorem dX9_board_40 : decode cX9_board 40 = .ok (.istore_n 3, 1) := by decide +kernel
theorem dX9_board_41 : decode cX9_board 41 = .ok (.iload_n 3, 1) := by decide +kernel
theorem dX9_board_42 : decode cX9_board 42 = .ok (.bipush 40, 2) := by decide +kernel
theorem dX9_board_44 : decode cX9_board 44 = .ok (.if_icmp .ge 16, 3) := by decide +kernel
theorem dX9_board_47 : decode cX9_board 47 = .ok (.aload_n 0, 1) := by decide +kernel
theorem dX9_board_48 : decode cX9_board 48 = .ok (.getfield 20, 3) := by decide +kernel
theorem dX9_board_51 : decode cX9_board 51 = .ok (.iload_n 3, 1) := by decide +kernel
theorem dX9_board_52 : decode cX9_board 52 = .ok (.iconst 0, 1) := by decide +kernel
theorem dX9_board_53 : decode cX9_board 53 = .ok (.bastore, 1) := by decide +kernel
theorem dX9_board_54 : decode cX9_board 54 = .ok (.iinc 3 1, 3) := by decide +kernel
theorem dX9_board_57 : decode cX9_board 57 = .ok (.goto (-16), 3) := by decide +kernel
theorem dX9_board_60 : decode cX9_board 60 = .ok (.iconst 0, 1) := by decide +kernel
theorem dX9_board_61 : decode cX9_board 61 = .ok (.istore_n 3, 1) := by decide +kernel
theorem dX9_board_62 : decode cX9_board 62 = .ok (.iload_n 3, 1) := by decide +kernel
theorem dX9_board_63 : decode cX9_board 63 = .ok (.sipush 1600, 3) := by decide +kernel
theorem dX9_board_66 : decode cX9_board 66 = .ok (.if_icmp .ge 16, 3) := by decide +kernel
theorem dX9_board_69 : decode cX9_board 69 = .ok (.aload_n 0, 1) := by decide +kernel
theorem dX9_board_70 : decode cX9_board 70 = .ok (.getfield 17, 3) := by decide +kernel
theorem dX9_board_73 : decode cX9_board 73 = .ok (.iload_n 3, 1) := by decide +kernel
theorem dX9_board_74 : decode cX9_board 74 = .ok (.iconst 0, 1) := by decide +kernel
theorem dX9_board_75 : decode cX9_board 75 = .ok (.iastore, 1) := by decide +kernel
theorem dX9_board_76 : decode cX9_board 76 = .ok (.iinc 3 1, 3) := by decide +kernel
theorem dX9_board_79 : decode cX9_board 79 = .ok (.goto (-17), 3) := by decide +kernel
theorem dX9_board_82 : decode cX9_board 82 = .ok (.iconst 0, 1) := by decide +kernel
theorem dX9_board_83 : decode cX9_board 83 = .ok (.ireturn, 1) := by decide +kernel
theorem dX9_lacksRow_0 : decode cX9_lacksRow 0 = .ok (.aload_n 0, 1) := by decide +kernel
theorem dX9_lacksRow_1 : decode cX9_lacksRow 1 = .ok (.getfield 77, 3) := by decide +kernel
theorem dX9_lacksRow_4 : decode cX9_lacksRow 4 = .ok (.ifCond .ne 5, 3) := by decide +kernel
theorem dX9_lacksRow_7 : decode cX9_lacksRow 7 = .ok (.iconst 2, 1) := by decide +kernel
theorem dX9_lacksRow_8 : decode cX9_lacksRow 8 = .ok (.ireturn, 1) := by decide +kernel
theorem dX9_lacksRow_9 : decode cX9_lacksRow 9 = .ok (.iload_n 1, 1) := by decide +kernel
theorem dX9_lacksRow_10 : decode cX9_lacksRow 10 = .ok (.ifCond .lt 11, 3) := by decide +kernel
theorem dX9_lacksRow_13 : decode cX9_lacksRow 13 = .ok (.iload_n 1, 1) := by decide +kernel
theorem dX9_lacksRow_14 : decode cX9_lacksRow 14 = .ok (.aload_n 0, 1) := by decide +kernel
theorem dX9_lacksRow_15 : decode cX9_lacksRow 15 = .ok (.getfield 81, 3) := by decide +kernel
theorem dX9_lacksRow_18 : decode cX9_lacksRow 18 = .ok (.if_icmp .lt 5, 3) := by decide +kernel
theorem dX9_lacksRow_21 : decode cX9_lacksRow 21 = .ok (.iconst 3, 1) := by decide +kernel
theorem dX9_lacksRow_22 : decode cX9_lacksRow 22 = .ok (.ireturn, 1) := by decide +kernel
theorem dX9_lacksRow_23 : decode cX9_lacksRow 23 = .ok (.aload_n 0, 1) := by decide +kernel
theorem dX9_lacksRow_24 : decode cX9_lacksRow 24 = .ok (.getfield 20, 3) := by decide +kernel
theorem dX9_lacksRow_27 : decode cX9_lacksRow 27 = .ok (.iload_n 1, 1) := by decide +kernel
theorem dX9_lacksRow_28 : decode cX9_lacksRow 28 = .ok (.baload, 1) := by decide +kernel
theorem dX9_lacksRow_29 : decode cX9_lacksRow 29 = .ok (.ifCond .eq 7, 3) := by decide +kernel
theorem dX9_lacksRow_32 : decode cX9_lacksRow 32 = .ok (.iconst 2, 1) := by decide +kernel
theorem dX9_lacksRow_33 : decode cX9_lacksRow 33 = .ok (.goto 4, 3) := by decide +kernel
theorem dX9_lacksRow_36 : decode cX9_lacksRow 36 = .ok (.iconst 0, 1) := by decide +kernel
theorem dX9_lacksRow_37 : decode cX9_lacksRow 37 = .ok (.ireturn, 1) := by decide +kernel
theorem dX9_lacksPeg_0 : decode cX9_lacksPeg 0 = .ok (.aload_n 0, 1) := by decide +kernel
theorem dX9_lacksPeg_1 : decode cX9_lacksPeg 1 = .ok (.iload_n 1, 1) := by decide +kernel
theorem dX9_lacksPeg_2 : decode cX9_lacksPeg 2 = .ok (.invokevirtual 87, 3) := by decide +kernel
theorem dX9_lacksPeg_5 : decode cX9_lacksPeg 5 = .ok (.istore_n 3, 1) := by decide +kernel
theorem dX9_lacksPeg_6 : decode cX9_lacksPeg 6 = .ok (.iload_n 3, 1) := by decide +kernel
theorem dX9_lacksPeg_7 : decode cX9_lacksPeg 7 = .ok (.ifCond .le 7, 3) := by decide +kernel
theorem dX9_lacksPeg_10 : decode cX9_lacksPeg 10 = .ok (.iload_n 3, 1) := by decide +kernel
theorem dX9_lacksPeg_11 : decode cX9_lacksPeg 11 = .ok (.goto 20, 3) := by decide +kernel
theorem dX9_lacksPeg_14 : decode cX9_lacksPeg 14 = .ok (.iload_n 2, 1) := by decide +kernel
theorem dX9_lacksPeg_15 : decode cX9_lacksPeg 15 = .ok (.ifCond .lt 11, 3) := by decide +kernel
theorem dX9_lacksPeg_18 : decode cX9_lacksPeg 18 = .ok (.iload_n 2, 1) := by decide +kernel
theorem dX9_lacksPeg_19 : decode cX9_lacksPeg 19 = .ok (.aload_n 0, 1) := by decide +kernel
theorem dX9_lacksPeg_20 : decode cX9_lacksPeg 20 = .ok (.getfield 84, 3) := by decide +kernel
theorem dX9_lacksPeg_23 : decode cX9_lacksPeg 23 = .ok (.if_icmp .lt 7, 3) := by decide +kernel
theorem dX9_lacksPeg_26 : decode cX9_lacksPeg 26 = .ok (.iconst 3, 1) := by decide +kernel
theorem dX9_lacksPeg_27 : decode cX9_lacksPeg 27 = .ok (.goto 4, 3) := by decide +kernel
theorem dX9_lacksPeg_30 : decode cX9_lacksPeg 30 = .ok (.iconst 0, 1) := by decide +kernel
theorem dX9_lacksPeg_31 : decode cX9_lacksPeg 31 = .ok (.ireturn, 1) := by decide +kernel
theorem dX9_peg_0 : decode cX9_peg 0 = .ok (.aload_n 0, 1) := by decide +kernel
theorem dX9_peg_1 : decode cX9_peg 1 = .ok (.iload_n 1, 1) := by decide +kernel
theorem dX9_peg_2 : decode cX9_peg 2 = .ok (.iload_n 2, 1) := by decide +kernel
theorem dX9_peg_3 : decode cX9_peg 3 = .ok (.invokevirtual 91, 3) := by decide +kernel
theorem dX9_peg_6 : decode cX9_peg 6 = .ok (.istore 4, 2) := by decide +kernel
theorem dX9_peg_8 : decode cX9_peg 8 = .ok (.iload 4, 2) := by decide +kernel
theorem dX9_peg_10 : decode cX9_peg 10 = .ok (.ifCond .le 6, 3) := by decide +kernel
theorem dX9_peg_13 : decode cX9_peg 13 = .ok (.iload 4, 2) := by decide +kernel
theorem dX9_peg_15 : decode cX9_peg 15 = .ok (.ireturn, 1) := by decide +kernel
theorem dX9_peg_16 : decode cX9_peg 16 = .ok (.aload_n 0, 1) := by decide +kernel
theorem dX9_peg_17 : decode cX9_peg 17 = .ok (.getfield 17, 3) := by decide +kernel
theorem dX9_peg_20 : decode cX9_peg 20 = .ok (.bipush 40, 2) := by decide +kernel
theorem dX9_peg_22 : decode cX9_peg 22 = .ok (.iload_n 1, 1) := by decide +kernel
theorem dX9_peg_23 : decode cX9_peg 23 = .ok (.imul, 1) := by decide +kernel
theorem dX9_peg_24 : decode cX9_peg 24 = .ok (.iload_n 2, 1) := by decide +kernel
theorem dX9_peg_25 : decode cX9_peg 25 = .ok (.iadd, 1) := by decide +kernel
theorem dX9_peg_26 : decode cX9_peg 26 = .ok (.iload_n 3, 1) := by decide +kernel
theorem dX9_peg_27 : decode cX9_peg 27 = .ok (.iastore, 1) := by decide +kernel
theorem dX9_peg_28 : decode cX9_peg 28 = .ok (.aload_n 0, 1) := by decide +kernel
theorem dX9_peg_29 : decode cX9_peg 29 = .ok (.iload_n 3, 1) := by decide +kernel
theorem dX9_peg_30 : decode cX9_peg 30 = .ok (.putfield 58, 3) := by decide +kernel
theorem dX9_peg_33 : decode cX9_peg 33 = .ok (.iconst 0, 1) := by decide +kernel
theorem dX9_peg_34 : decode cX9_peg 34 = .ok (.ireturn, 1) := by decide +kernel
theorem dX9_look_0 : decode cX9_look 0 = .ok (.aload_n 0, 1) := by decide +kernel
theorem dX9_look_1 : decode cX9_look 1 = .ok (.iload_n 1, 1) := by decide +kernel
theorem dX9_look_2 : decode cX9_look 2 = .ok (.iload_n 2, 1) := by decide +kernel
theorem dX9_look_3 : decode cX9_look 3 = .ok (.invokevirtual 91, 3) := by decide +kernel
theorem dX9_look_6 : decode cX9_look 6 = .ok (.istore_n 3, 1) := by decide +kernel
theorem dX9_look_7 : decode cX9_look 7 = .ok (.iload_n 3, 1) := by decide +kernel
theorem dX9_look_8 : decode cX9_look 8 = .ok (.ifCond .le 5, 3) := by decide +kernel
theorem dX9_look_11 : decode cX9_look 11 = .ok (.iload_n 3, 1) := by decide +kernel
theorem dX9_look_12 : decode cX9_look 12 = .ok (.ireturn, 1) := by decide +kernel
theorem dX9_look_13 : decode cX9_look 13 = .ok (.aload_n 0, 1) := by decide +kernel
theorem dX9_look_14 : decode cX9_look 14 = .ok (.aload_n 0, 1) := by decide +kernel
theorem dX9_look_15 : decode cX9_look 15 = .ok (.getfield 17, 3) := by decide +kernel
theorem dX9_look_18 : decode cX9_look 18 = .ok (.bipush 40, 2) := by decide +kernel
theorem dX9_look_20 : decode cX9_look 20 = .ok (.iload_n 1, 1) := by decide +kernel
theorem dX9_look_21 : decode cX9_look 21 = .ok (.imul, 1) := by decide +kernel
theorem dX9_look_22 : decode cX9_look 22 = .ok (.iload_n 2, 1) := by decide +kernel
theorem dX9_look_23 : decode cX9_look 23 = .ok (.iadd, 1) := by decide +kernel
theorem dX9_look_24 : decode cX9_look 24 = .ok (.iaload, 1) := by decide +kernel
theorem dX9_look_25 : decode cX9_look 25 = .ok (.putfield 58, 3) := by decide +kernel
theorem dX9_look_28 : decode cX9_look 28 = .ok (.iconst 0, 1) := by decide +kernel
theorem dX9_look_29 : decode cX9_look 29 = .ok (.ireturn, 1) := by decide +kernel
theorem dX9_take_0 : decode cX9_take 0 = .ok (.aload_n 0, 1) := by decide +kernel
theorem dX9_take_1 : decode cX9_take 1 = .ok (.getfield 77, 3) := by decide +kernel
theorem dX9_take_4 : decode cX9_take 4 = .ok (.ifCond .ne 5, 3) := by decide +kernel
theorem dX9_take_7 : decode cX9_take 7 = .ok (.iconst 2, 1) := by decide +kernel
theorem dX9_take_8 : decode cX9_take 8 = .ok (.ireturn, 1) := by decide +kernel
theorem dX9_take_9 : decode cX9_take 9 = .ok (.iload_n 1, 1) := by decide +kernel
theorem dX9_take_10 : decode cX9_take 10 = .ok (.ifCond .lt 11, 3) := by decide +kernel
theorem dX9_take_13 : decode cX9_take 13 = .ok (.iload_n 1, 1) := by decide +kernel
theorem dX9_take_14 : decode cX9_take 14 = .ok (.aload_n 0, 1) := by decide +kernel
theorem dX9_take_15 : decode cX9_take 15 = .ok (.getfield 81, 3) := by decide +kernel
theorem dX9_take_18 : decode cX9_take 18 = .ok (.if_icmp .lt 5, 3) := by decide +kernel
theorem dX9_take_21 : decode cX9_take 21 = .ok (.iconst 3, 1) := by decide +kernel
theorem dX9_take_22 : decode cX9_take 22 = .ok (.ireturn, 1) := by decide +kernel
theorem dX9_take_23 : decode cX9_take 23 = .ok (.aload_n 0, 1) := by decide +kernel
theorem dX9_take_24 : decode cX9_take 24 = .ok (.getfield 20, 3) := by decide +kernel
theorem dX9_take_27 : decode cX9_take 27 = .ok (.iload_n 1, 1) := by decide +kernel
theorem dX9_take_28 : decode cX9_take 28 = .ok (.iconst 1, 1) := by decide +kernel
theorem dX9_take_29 : decode cX9_take 29 = .ok (.bastore, 1) := by decide +kernel
theorem dX9_take_30 : decode cX9_take 30 = .ok (.iconst 0, 1) := by decide +kernel
theorem dX9_take_31 : decode cX9_take 31 = .ok (.ireturn, 1) := by decide +kernel
theorem dX9_width_0 : decode cX9_width 0 = .ok (.aload_n 0, 1) := by decide +kernel
theorem dX9_width_1 : decode cX9_width 1 = .ok (.iload_n 1, 1) := by decide +kernel
theorem dX9_width_2 : decode cX9_width 2 = .ok (.invokevirtual 87, 3) := by decide +kernel
theorem dX9_width_5 : decode cX9_width 5 = .ok (.istore_n 2, 1) := by decide +kernel
theorem dX9_width_6 : decode cX9_width 6 = .ok (.iload_n 2, 1) := by decide +kernel
theorem dX9_width_7 : decode cX9_width 7 = .ok (.ifCond .le 5, 3) := by decide +kernel
theorem dX9_width_10 : decode cX9_width 10 = .ok (.iload_n 2, 1) := by decide +kernel
theorem dX9_width_11 : decode cX9_width 11 = .ok (.ireturn, 1) := by decide +kernel
theorem dX9_width_12 : decode cX9_width 12 = .ok (.aload_n 0, 1) := by decide +kernel
theorem dX9_width_13 : decode cX9_width 13 = .ok (.aload_n 0, 1) := by decide +kernel
theorem dX9_width_14 : decode cX9_width 14 = .ok (.getfield 84, 3) := by decide +kernel
theorem dX9_width_17 : decode cX9_width 17 = .ok (.putfield 58, 3) := by decide +kernel
theorem dX9_width_20 : decode cX9_width 20 = .ok (.iconst 0, 1) := by decide +kernel
theorem dX9_width_21 : decode cX9_width 21 = .ok (.ireturn, 1) := by decide +kernel
theorem dX9_told_0 : decode cX9_told 0 = .ok (.aload_n 0, 1) := by decide +kernel
theorem dX9_told_1 : decode cX9_told 1 = .ok (.getfield 58, 3) := by decide +kernel
theorem dX9_told_4 : decode cX9_told 4 = .ok (.ireturn, 1) := by decide +kernel
theorem dX9_count_0 : decode cX9_count 0 = .ok (.iconst 0, 1) := by decide +kernel
theorem dX9_count_1 : decode cX9_count 1 = .ok (.istore_n 2, 1) := by decide +kernel
theorem dX9_count_2 : decode cX9_count 2 = .ok (.iload_n 1, 1) := by decide +kernel
theorem dX9_count_3 : decode cX9_count 3 = .ok (.ifCond .ne 35, 3) := by decide +kernel
theorem dX9_count_6 : decode cX9_count 6 = .ok (.iconst 0, 1) := by decide +kernel
theorem dX9_count_7 : decode cX9_count 7 = .ok (.istore_n 3, 1) := by decide +kernel
theorem dX9_count_8 : decode cX9_count 8 = .ok (.iload_n 3, 1) := by decide +kernel
theorem dX9_count_9 : decode cX9_count 9 = .ok (.iconst 5, 1) := by decide +kernel
theorem dX9_count_10 : decode cX9_count 10 = .ok (.if_icmp .ge 26, 3) := by decide +kernel
theorem dX9_count_13 : decode cX9_count 13 = .ok (.iload_n 2, 1) := by decide +kernel
theorem dX9_count_14 : decode cX9_count 14 = .ok (.aload_n 0, 1) := by decide +kernel
theorem dX9_count_15 : decode cX9_count 15 = .ok (.getfield 13, 3) := by decide +kernel
theorem dX9_count_18 : decode cX9_count 18 = .ok (.iload_n 3, 1) := by decide +kernel
theorem dX9_count_19 : decode cX9_count 19 = .ok (.iaload, 1) := by decide +kernel
theorem dX9_count_20 : decode cX9_count 20 = .ok (.ifCond .lt 7, 3) := by decide +kernel
theorem dX9_count_23 : decode cX9_count 23 = .ok (.iconst 1, 1) := by decide +kernel
theorem dX9_count_24 : decode cX9_count 24 = .ok (.goto 4, 3) := by decide +kernel
theorem dX9_count_27 : decode cX9_count 27 = .ok (.iconst 0, 1) := by decide +kernel
theorem dX9_count_28 : decode cX9_count 28 = .ok (.iadd, 1) := by decide +kernel
theorem dX9_count_29 : decode cX9_count 29 = .ok (.istore_n 2, 1) := by decide +kernel
theorem dX9_count_30 : decode cX9_count 30 = .ok (.iinc 3 1, 3) := by decide +kernel
theorem dX9_count_33 : decode cX9_count 33 = .ok (.goto (-25), 3) := by decide +kernel
theorem dX9_count_36 : decode cX9_count 36 = .ok (.iload_n 2, 1) := by decide +kernel
theorem dX9_count_37 : decode cX9_count 37 = .ok (.ireturn, 1) := by decide +kernel
theorem dX9_count_38 : decode cX9_count 38 = .ok (.iload_n 1, 1) := by decide +kernel
theorem dX9_count_39 : decode cX9_count 39 = .ok (.iconst 1, 1) := by decide +kernel
theorem dX9_count_40 : decode cX9_count 40 = .ok (.if_icmp .ne 19, 3) := by decide +kernel
theorem dX9_count_43 : decode cX9_count 43 = .ok (.aload_n 0, 1) := by decide +kernel
theorem dX9_count_44 : decode cX9_count 44 = .ok (.getfield 77, 3) := by decide +kernel
theorem dX9_count_47 : decode cX9_count 47 = .ok (.ifCond .eq 10, 3) := by decide +kernel
theorem dX9_count_50 : decode cX9_count 50 = .ok (.aload_n 0, 1) := by decide +kernel
theorem dX9_count_51 : decode cX9_count 51 = .ok (.getfield 81, 3) := by decide +kernel
theorem dX9_count_54 : decode cX9_count 54 = .ok (.goto 4, 3) := by decide +kernel
theorem dX9_count_57 : decode cX9_count 57 = .ok (.iconst (-1), 1) := by decide +kernel
theorem dX9_count_58 : decode cX9_count 58 = .ok (.ireturn, 1) := by decide +kernel
theorem dX9_count_59 : decode cX9_count 59 = .ok (.iconst 0, 1) := by decide +kernel
theorem dX9_count_60 : decode cX9_count 60 = .ok (.istore_n 3, 1) := by decide +kernel
theorem dX9_count_61 : decode cX9_count 61 = .ok (.iload_n 3, 1) := by decide +kernel
theorem dX9_count_62 : decode cX9_count 62 = .ok (.aload_n 0, 1) := by decide +kernel
theorem dX9_count_63 : decode cX9_count 63 = .ok (.getfield 81, 3) := by decide +kernel
theorem dX9_count_66 : decode cX9_count 66 = .ok (.if_icmp .ge 33, 3) := by decide +kernel
theorem dX9_count_69 : decode cX9_count 69 = .ok (.aload_n 0, 1) := by decide +kernel
theorem dX9_count_70 : decode cX9_count 70 = .ok (.getfield 77, 3) := by decide +kernel
theorem dX9_count_73 : decode cX9_count 73 = .ok (.ifCond .eq 26, 3) := by decide +kernel
theorem dX9_count_76 : decode cX9_count 76 = .ok (.iload_n 2, 1) := by decide +kernel
theorem dX9_count_77 : decode cX9_count 77 = .ok (.aload_n 0, 1) := by decide +kernel
theorem dX9_count_78 : decode cX9_count 78 = .ok (.getfield 20, 3) := by decide +kernel
theorem dX9_count_81 : decode cX9_count 81 = .ok (.iload_n 3, 1) := by decide +kernel
theorem dX9_count_82 : decode cX9_count 82 = .ok (.baload, 1) := by decide +kernel
theorem dX9_count_83 : decode cX9_count 83 = .ok (.ifCond .eq 7, 3) := by decide +kernel
theorem dX9_count_86 : decode cX9_count 86 = .ok (.iconst 1, 1) := by decide +kernel
theorem dX9_count_87 : decode cX9_count 87 = .ok (.goto 4, 3) := by decide +kernel
theorem dX9_count_90 : decode cX9_count 90 = .ok (.iconst 0, 1) := by decide +kernel
theorem dX9_count_91 : decode cX9_count 91 = .ok (.iadd, 1) := by decide +kernel
theorem dX9_count_92 : decode cX9_count 92 = .ok (.istore_n 2, 1) := by decide +kernel
theorem dX9_count_93 : decode cX9_count 93 = .ok (.iinc 3 1, 3) := by decide +kernel
theorem dX9_count_96 : decode cX9_count 96 = .ok (.goto (-35), 3) := by decide +kernel
theorem dX9_count_99 : decode cX9_count 99 = .ok (.iload_n 1, 1) := by decide +kernel
theorem dX9_count_100 : decode cX9_count 100 = .ok (.iconst 2, 1) := by decide +kernel
theorem dX9_count_101 : decode cX9_count 101 = .ok (.if_icmp .ne 7, 3) := by decide +kernel
theorem dX9_count_104 : decode cX9_count 104 = .ok (.iload_n 2, 1) := by decide +kernel
theorem dX9_count_105 : decode cX9_count 105 = .ok (.goto 4, 3) := by decide +kernel
theorem dX9_count_108 : decode cX9_count 108 = .ok (.iconst (-1), 1) := by decide +kernel
theorem dX9_count_109 : decode cX9_count 109 = .ok (.ireturn, 1) := by decide +kernel
end
section
/-! ROWS OVER A MAP: the world as a map from addresses to cells; every row of the kit that reads or writes the heap, said of the map -/
abbrev Mp : Type := Nat → Option va_E
def mU (M : Mp) (a : Nat) (x : va_E) : Mp := fun b => if b = a then some x else M b
theorem mU_s (M : Mp) (a : Nat) (x : va_E) : mU M a x a = some x := by simp [mU]
theorem mU_n (M : Mp) {a b : Nat} (x : va_E) (h : b ≠ a) : mU M a x b = M b := by simp [mU, h]
theorem mU_mU (M : Mp) (a : Nat) (x y : va_E) : mU (mU M a x) a y = mU M a y := by
  funext b; simp only [mU]; split <;> rfl
theorem mU_self {M : Mp} {a : Nat} {x : va_E} (h : M a = some x) : mU M a x = M := by
  funext b; simp only [mU]; split
  · rename_i q; rw [q, h]
  · rfl
theorem mU_at {M : Mp} {a b : Nat} {x y : va_E} (h : mU M a x b = some y) : (b = a ∧ x = y) ∨ (b ≠ a ∧ M b = some y) := by
  by_cases q : b = a
  · subst q; rw [mU_s] at h; exact Or.inl ⟨rfl, Option.some.inj h⟩
  · rw [mU_n _ _ q] at h; exact Or.inr ⟨q, h⟩
def mL (L : List Nat) (f : Nat → va_E) : Mp := fun a => if a ∈ L then some (f a) else none
theorem mL_some {L : List Nat} {f : Nat → va_E} {a : Nat} {x : va_E} (h : mL L f a = some x) : a ∈ L ∧ f a = x := by
  unfold mL at h
  split at h
  · rename_i q; exact ⟨q, Option.some.inj h⟩
  · cases h
theorem mL_up {L : List Nat} {f : Nat → va_E} {a : Nat} {x : va_E} (h : a ∈ L) : mL L (va_up f a x) = mU (mL L f) a x := by
  funext b
  by_cases q : b = a
  · subst q; rw [mU_s]; simp [mL, h, va_up_self]
  · rw [mU_n _ _ q]; simp [mL, va_up_ne _ _ q]
theorem mL_push {L : List Nat} {f : Nat → va_E} {a : Nat} {x : va_E} : mL (L ++ [a]) (va_up f a x) = mU (mL L f) a x := by
  funext b
  by_cases q : b = a
  · subst q; rw [mU_s]; simp [mL, va_up_self]
  · rw [mU_n _ _ q]; simp [mL, va_up_ne _ _ q, q]
/-- the world: the heap H holds the map M, whose cells lie from z on; since H0 nothing below z has changed -/
def wd (D : va_G) (cl : List vw_C) (z : Nat) (M : Mp) (H0 H : Heap) (locs : List Loc) : Prop :=
  ∃ (L : List Nat) (f : Nat → va_E), M = mL L f ∧ va_P D cl ([] ++ va_pl L f) H ∧ va_D (fun q => z ≤ q) ([] ++ va_pl L f) ∧ va_S (fun q => z ≤ q) H0 H locs ∧ z ≤ H0.size
theorem wd.lt {D : va_G} {cl : List vw_C} {z : Nat} {M : Mp} {H0 H : Heap} {locs : List Loc} (h : wd D cl z M H0 H locs) {a : Nat} {x : va_E} (hM : M a = some x) : a < H.size := by
  obtain ⟨L, f, rfl, hP, hD, hS, hz⟩ := h
  obtain ⟨hm, -⟩ := mL_some hM
  exact va_pl_lt hP hm
theorem wd.ge {D : va_G} {cl : List vw_C} {z : Nat} {M : Mp} {H0 H : Heap} {locs : List Loc} (h : wd D cl z M H0 H locs) {a : Nat} {x : va_E} (hM : M a = some x) : z ≤ a := by
  obtain ⟨L, f, rfl, hP, hD, hS, hz⟩ := h
  obtain ⟨hm, -⟩ := mL_some hM
  obtain ⟨k, hk⟩ := va_pl_get (X := []) (f := f) hm
  exact hD.2 k _ hk
theorem wd.S {D : va_G} {cl : List vw_C} {z : Nat} {M : Mp} {H0 H : Heap} {locs : List Loc} (h : wd D cl z M H0 H locs) : va_S (fun q => z ≤ q) H0 H locs := by
  obtain ⟨L, f, -, -, -, hS, -⟩ := h; exact hS
theorem wd.at {D : va_G} {cl : List vw_C} {z : Nat} {M : Mp} {H0 H : Heap} {locs : List Loc} (h : wd D cl z M H0 H locs) {a : Nat} {x : va_E} (hM : M a = some x) : va_at D cl (a, x) H := by
  obtain ⟨L, f, rfl, hP, hD, hS, hz⟩ := h
  obtain ⟨hm, he⟩ := mL_some hM
  obtain ⟨k, hk⟩ := va_pl_get (X := []) (f := f) hm
  rw [he] at hk
  exact hP k _ hk
/-- the same world, said from here on -/
theorem wd.now {D : va_G} {cl : List vw_C} {z : Nat} {M : Mp} {H0 H : Heap} {locs : List Loc} (h : wd D cl z M H0 H locs) : wd D cl z M H H [] := by
  obtain ⟨L, f, h1, hP, hD, hS, hz⟩ := h
  exact ⟨L, f, h1, hP, hD, va_S.rf, Nat.le_trans hz hS.1⟩
/-- a world that came back from a call -/
theorem wd.back {D : va_G} {cl : List vw_C} {z : Nat} {M M' : Mp} {H0 H H1 H2 : Heap} {locs locs1 l2 : List Loc} (h : wd D cl z M H0 H locs) (h' : wd D cl z M' H2 H1 l2) (hS : va_S (fun q => z ≤ q) H0 H1 locs1) : wd D cl z M' H0 H1 locs1 := by
  obtain ⟨L, f, h1, hP, hD, -, -⟩ := h'
  obtain ⟨-, -, -, -, -, -, hz⟩ := h
  exact ⟨L, f, h1, hP, hD, hS, hz⟩
theorem wd.new {D : va_G} {cl : List vw_C} {z : Nat} {L : List Nat} {f : Nat → va_E} {H0 H H1 : Heap} {locs : List Loc} {q : Nat} {x : va_E} (hq : q ∉ L) (hP : va_P D cl (([] ++ va_pl L f) ++ [(q, x)]) H1) (hD : va_D (fun q => z ≤ q) (([] ++ va_pl L f) ++ [(q, x)])) (hS : va_S (fun q => z ≤ q) H0 H1 locs) (hz : z ≤ H0.size) : wd D cl z (mU (mL L f) q x) H0 H1 locs := by
  rw [List.append_assoc, va_pl_push hq] at hP hD
  exact ⟨L ++ [q], va_up f q x, mL_push.symm, hP, hD, hS, hz⟩
theorem wd.set {D : va_G} {cl : List vw_C} {z : Nat} {L : List Nat} {f : Nat → va_E} {H0 H1 : Heap} {locs : List Loc} {a k : Nat} {x y : va_E} (ha : a ∈ L) (hy : f a = y) (hk : ([] ++ va_pl L f)[k]? = some (a, y)) (hD0 : va_D (fun q => z ≤ q) ([] ++ va_pl L f)) (hP : va_P D cl (([] ++ va_pl L f).set k (a, x)) H1) (hD : va_D (fun q => z ≤ q) (([] ++ va_pl L f).set k (a, x))) (hS : va_S (fun q => z ≤ q) H0 H1 locs) (hz : z ≤ H0.size) : wd D cl z (mU (mL L f) a x) H0 H1 locs := by
  subst hy
  rw [va_pl_set hD0 ha hk] at hP hD
  exact ⟨L, va_up f a x, (mL_up ha).symm, hP, hD, hS, hz⟩
section HM
variable {p : Program} {l : Launch} {e : Env} {R : Room} {s : State} {m : MethodId} {args : Array Value} {below : List Frame} {meth : Method} {c : Code} {H : Heap} {locs : List Loc} {cells slots : Nat} {Q : State → Prop}
variable {cc : ByteArray} {pc : Nat} {ls : Array Slot} {rest : List Value} {D : va_G} {cl : List vw_C} {a z : Nat} {tys : List (ClassId × FieldType)} {M : Mp} {H0 : Heap}
variable {own ref C : String} {T : u_T} {N ci index : Nat} {Ts : List Cond}
/-- a method's surroundings: the machine, its code, its class, the words, the classes known -/
def Cx (p : Program) (s : State) (m : MethodId) (args : Array Value) (c : Code) (cc : ByteArray) (own : String) (Ts : List Cond) (D : va_G) (cl : List vw_C) (tys : List (ClassId × FieldType)) : Prop :=
  p.tables.exec = Jvm.exec ∧ c.code = cc ∧ s.vm.findClass own = some m.cls ∧ (∀ w ∈ Ts, w.before args s = true) ∧ va_K D cl tys s
theorem h_get (X : Cx p s m args c cc own Ts D cl tys) (hin : ∀ w ∈ u_ws C T N, w ∈ Ts) (hc : cl[ci]? = some (C, T, N)) (k : Nat) (hk : k < N) (hlink : Cond.fieldLink own index ref (T k).2.1 (T k).2.2.1 ∈ Ts) (hsame : ∀ x, s.fieldFound? (T k).1 (T k).2.1 (T k).2.2.1 = some x → s.fieldFound? ref (T k).2.1 (T k).2.2.1 = some x)
    (hw : wd D cl z M H0 H locs) {fs : List Value} (hM : M a = some (.inr (ci, fs))) {v : Value} (hv : fs[k]? = some v) (hdg : decode cc pc = .ok (.getfield index, 3))
    (kk : W p l e R s m args below meth c H locs cells slots Q (F0 m (pc + 3) ls (v :: rest))) : W p l e R s m args below meth c H locs cells slots Q (F0 m pc ls (.ref a :: rest)) := by
  obtain ⟨hx, hb, hown, hts, hK⟩ := X
  obtain ⟨L, f, rfl, hP, hD, hS, hz⟩ := hw
  obtain ⟨hm, he⟩ := mL_some hM
  obtain ⟨q0, hq⟩ := va_pl_get (X := []) (f := f) hm
  rw [he] at hq
  exact va_get hx hb hts hin hown hK hP q0 hq hc k hk (hts _ hlink) hsame hv hdg kk
theorem h_getN {host : String} (X : Cx p s m args c cc own Ts D cl tys) (hin : ∀ w ∈ u_ws C T N, w ∈ Ts) (hc : cl[ci]? = some (C, T, N)) (k : Nat) (hk : k < N) (hlink : Cond.fieldLinkNest own index ref (T k).2.1 (T k).2.2.1 host ∈ Ts) (hsame : ∀ x, s.fieldFound? (T k).1 (T k).2.1 (T k).2.2.1 = some x → s.fieldFound? ref (T k).2.1 (T k).2.2.1 = some x)
    (hw : wd D cl z M H0 H locs) {fs : List Value} (hM : M a = some (.inr (ci, fs))) {v : Value} (hv : fs[k]? = some v) (hdg : decode cc pc = .ok (.getfield index, 3))
    (kk : W p l e R s m args below meth c H locs cells slots Q (F0 m (pc + 3) ls (v :: rest))) : W p l e R s m args below meth c H locs cells slots Q (F0 m pc ls (.ref a :: rest)) := by
  obtain ⟨hx, hb, hown, hts, hK⟩ := X
  obtain ⟨L, f, rfl, hP, hD, hS, hz⟩ := hw
  obtain ⟨hm, he⟩ := mL_some hM
  obtain ⟨q0, hq⟩ := va_pl_get (X := []) (f := f) hm
  rw [he] at hq
  exact va_getN hx hb hts hin hown hK hP q0 hq hc k hk (hts _ hlink) hsame hv hdg kk
theorem h_put (X : Cx p s m args c cc own Ts D cl tys) (hin : ∀ w ∈ u_ws C T N, w ∈ Ts) (hc : cl[ci]? = some (C, T, N)) (ty0 : Nat → FieldType) (hty : ∀ k, k < N → parseFieldDescriptor (T k).2.2.1 = some (ty0 k)) (hnm : ∀ a, a < N → ∀ b, b < N → a ≠ b → (T a).2.1 ≠ (T b).2.1) (k : Nat) (hk : k < N) (hlink : Cond.fieldLink own index ref (T k).2.1 (T k).2.2.1 ∈ Ts) (hsame : ∀ x, s.fieldFound? (T k).1 (T k).2.1 (T k).2.2.1 = some x → s.fieldFound? ref (T k).2.1 (T k).2.2.1 = some x) (hfin : (T k).2.2.2 = false)
    (hw : wd D cl z M H0 H locs) {fs : List Value} (hM : M a = some (.inr (ci, fs))) {ty : FieldType} {v : Value} (hd : parseFieldDescriptor (T k).2.2.1 = some ty) (hn : narrow ty v = v) (hfit : fits ty v = true) (hl : k < fs.length) (hdg : decode cc pc = .ok (.putfield index, 3))
    (kk : ∀ (H1 : Heap) (locs1 : List Loc), wd D cl z (mU M a (.inr (ci, fs.set k v))) H0 H1 locs1 → W p l e R s m args below meth c H1 locs1 cells slots Q (F0 m (pc + 3) ls rest)) : W p l e R s m args below meth c H locs cells slots Q (F0 m pc ls (v :: .ref a :: rest)) := by
  obtain ⟨hx, hb, hown, hts, hK⟩ := X
  obtain ⟨L, f, rfl, hP, hD, hS, hz⟩ := hw
  obtain ⟨hm, he⟩ := mL_some hM
  obtain ⟨q0, hq⟩ := va_pl_get (X := []) (f := f) hm
  rw [he] at hq
  exact va_put hx hb hts hin ty0 hty hnm hown hK hP hD hS q0 hq hc k hk (hts _ hlink) hsame hfin hd hn hfit hl hdg (fun H1 locs1 h1 h2 h3 => kk H1 locs1 (wd.set hm he hq hD h1 h2 h3 hz))
theorem h_putN {host : String} (X : Cx p s m args c cc own Ts D cl tys) (hin : ∀ w ∈ u_ws C T N, w ∈ Ts) (hc : cl[ci]? = some (C, T, N)) (ty0 : Nat → FieldType) (hty : ∀ k, k < N → parseFieldDescriptor (T k).2.2.1 = some (ty0 k)) (hnm : ∀ a, a < N → ∀ b, b < N → a ≠ b → (T a).2.1 ≠ (T b).2.1) (k : Nat) (hk : k < N) (hlink : Cond.fieldLinkNest own index ref (T k).2.1 (T k).2.2.1 host ∈ Ts) (hsame : ∀ x, s.fieldFound? (T k).1 (T k).2.1 (T k).2.2.1 = some x → s.fieldFound? ref (T k).2.1 (T k).2.2.1 = some x) (hfin : (T k).2.2.2 = false)
    (hw : wd D cl z M H0 H locs) {fs : List Value} (hM : M a = some (.inr (ci, fs))) {ty : FieldType} {v : Value} (hd : parseFieldDescriptor (T k).2.2.1 = some ty) (hn : narrow ty v = v) (hfit : fits ty v = true) (hl : k < fs.length) (hdg : decode cc pc = .ok (.putfield index, 3))
    (kk : ∀ (H1 : Heap) (locs1 : List Loc), wd D cl z (mU M a (.inr (ci, fs.set k v))) H0 H1 locs1 → W p l e R s m args below meth c H1 locs1 cells slots Q (F0 m (pc + 3) ls rest)) : W p l e R s m args below meth c H locs cells slots Q (F0 m pc ls (v :: .ref a :: rest)) := by
  obtain ⟨hx, hb, hown, hts, hK⟩ := X
  obtain ⟨L, f, rfl, hP, hD, hS, hz⟩ := hw
  obtain ⟨hm, he⟩ := mL_some hM
  obtain ⟨q0, hq⟩ := va_pl_get (X := []) (f := f) hm
  rw [he] at hq
  exact va_putN hx hb hts hin ty0 hty hnm hown hK hP hD hS q0 hq hc k hk (hts _ hlink) hsame hfin hd hn hfit hl hdg (fun H1 locs1 h1 h2 h3 => kk H1 locs1 (wd.set hm he hq hD h1 h2 h3 hz))
theorem h_putF (X : Cx p s m args c cc own Ts D cl tys) (hin : ∀ w ∈ u_ws C T N, w ∈ Ts) (hc : cl[ci]? = some (C, T, N)) (ty0 : Nat → FieldType) (hty : ∀ k, k < N → parseFieldDescriptor (T k).2.2.1 = some (ty0 k)) (hnm : ∀ a, a < N → ∀ b, b < N → a ≠ b → (T a).2.1 ≠ (T b).2.1) (k : Nat) (hk : k < N) (hlink : Cond.fieldLink own index ref (T k).2.1 (T k).2.2.1 ∈ Ts) (hsame : ∀ x, s.fieldFound? (T k).1 (T k).2.1 (T k).2.2.1 = some x → s.fieldFound? ref (T k).2.1 (T k).2.2.1 = some x) (hfin : (T k).2.2.2 = true) (hin2 : meth.name = "<init>") (hdecl : (T k).1 = own)
    (hw : wd D cl z M H0 H locs) {fs : List Value} (hM : M a = some (.inr (ci, fs))) {ty : FieldType} {v : Value} (hd : parseFieldDescriptor (T k).2.2.1 = some ty) (hn : narrow ty v = v) (hfit : fits ty v = true) (hl : k < fs.length) (hdg : decode cc pc = .ok (.putfield index, 3))
    (kk : ∀ (H1 : Heap) (locs1 : List Loc), wd D cl z (mU M a (.inr (ci, fs.set k v))) H0 H1 locs1 → W p l e R s m args below meth c H1 locs1 cells slots Q (F0 m (pc + 3) ls rest)) : W p l e R s m args below meth c H locs cells slots Q (F0 m pc ls (v :: .ref a :: rest)) := by
  obtain ⟨hx, hb, hown, hts, hK⟩ := X
  obtain ⟨L, f, rfl, hP, hD, hS, hz⟩ := hw
  obtain ⟨hm, he⟩ := mL_some hM
  obtain ⟨q0, hq⟩ := va_pl_get (X := []) (f := f) hm
  rw [he] at hq
  exact va_putF hx hb hts hin ty0 hty hnm hown hK hP hD hS q0 hq hc k hk (hts _ hlink) hsame hfin hin2 hdecl hd hn hfit hl hdg (fun H1 locs1 h1 h2 h3 => kk H1 locs1 (wd.set hm he hq hD h1 h2 h3 hz))
theorem h_iald (X : Cx p s m args c cc own Ts D cl tys) (t0 : Nat) {cA : ClassId} (ht : tys[t0]? = some (cA, .int)) (hw : wd D cl z M H0 H locs) {n : Nat} {f : Nat → Int32} (hM : M a = some (.inl (cA, n, .inl f))) {i : Int32} (hin : vp_in i n) (hdg : decode cc pc = .ok (.iaload, 1))
    (kk : W p l e R s m args below meth c H locs cells slots Q (F0 m (pc + 1) ls (.int (f i.toNatClampNeg) :: rest))) : W p l e R s m args below meth c H locs cells slots Q (F0 m pc ls (.int i :: .ref a :: rest)) := by
  obtain ⟨hx, hb, hown, hts, hK⟩ := X
  obtain ⟨L, g, rfl, hP, hD, hS, hz⟩ := hw
  obtain ⟨hm, he⟩ := mL_some hM
  obtain ⟨q0, hq⟩ := va_pl_get (X := []) (f := g) hm
  rw [he] at hq
  exact va_iald hx hb hK hP q0 t0 hq ht hin hdg kk
theorem h_bald (X : Cx p s m args c cc own Ts D cl tys) (t0 : Nat) {cA : ClassId} (ht : tys[t0]? = some (cA, .byte)) (hw : wd D cl z M H0 H locs) {n : Nat} {f : Nat → Int32} (hM : M a = some (.inl (cA, n, .inl f))) {i : Int32} (hin : vp_in i n) (hdg : decode cc pc = .ok (.baload, 1))
    (kk : W p l e R s m args below meth c H locs cells slots Q (F0 m (pc + 1) ls (.int (f i.toNatClampNeg) :: rest))) : W p l e R s m args below meth c H locs cells slots Q (F0 m pc ls (.int i :: .ref a :: rest)) := by
  obtain ⟨hx, hb, hown, hts, hK⟩ := X
  obtain ⟨L, g, rfl, hP, hD, hS, hz⟩ := hw
  obtain ⟨hm, he⟩ := mL_some hM
  obtain ⟨q0, hq⟩ := va_pl_get (X := []) (f := g) hm
  rw [he] at hq
  exact va_bald hx hb hK hP q0 t0 hq ht hin hdg kk
theorem h_zald (X : Cx p s m args c cc own Ts D cl tys) (t0 : Nat) {cA : ClassId} (ht : tys[t0]? = some (cA, .boolean)) (hw : wd D cl z M H0 H locs) {n : Nat} {f : Nat → Int32} (hM : M a = some (.inl (cA, n, .inl f))) {i : Int32} (hin : vp_in i n) (hdg : decode cc pc = .ok (.baload, 1))
    (kk : W p l e R s m args below meth c H locs cells slots Q (F0 m (pc + 1) ls (.int (f i.toNatClampNeg) :: rest))) : W p l e R s m args below meth c H locs cells slots Q (F0 m pc ls (.int i :: .ref a :: rest)) := by
  obtain ⟨hx, hb, hown, hts, hK⟩ := X
  obtain ⟨L, g, rfl, hP, hD, hS, hz⟩ := hw
  obtain ⟨hm, he⟩ := mL_some hM
  obtain ⟨q0, hq⟩ := va_pl_get (X := []) (f := g) hm
  rw [he] at hq
  exact va_zald hx hb hK hP q0 t0 hq ht hin hdg kk
theorem h_cald (X : Cx p s m args c cc own Ts D cl tys) (t0 : Nat) {cA : ClassId} (ht : tys[t0]? = some (cA, .char)) (hw : wd D cl z M H0 H locs) {n : Nat} {f : Nat → Int32} (hM : M a = some (.inl (cA, n, .inl f))) {i : Int32} (hin : vp_in i n) (hdg : decode cc pc = .ok (.caload, 1))
    (kk : W p l e R s m args below meth c H locs cells slots Q (F0 m (pc + 1) ls (.int (f i.toNatClampNeg) :: rest))) : W p l e R s m args below meth c H locs cells slots Q (F0 m pc ls (.int i :: .ref a :: rest)) := by
  obtain ⟨hx, hb, hown, hts, hK⟩ := X
  obtain ⟨L, g, rfl, hP, hD, hS, hz⟩ := hw
  obtain ⟨hm, he⟩ := mL_some hM
  obtain ⟨q0, hq⟩ := va_pl_get (X := []) (f := g) hm
  rw [he] at hq
  exact va_cald hx hb hK hP q0 t0 hq ht hin hdg kk
theorem h_sald (X : Cx p s m args c cc own Ts D cl tys) (t0 : Nat) {cA : ClassId} (ht : tys[t0]? = some (cA, .short)) (hw : wd D cl z M H0 H locs) {n : Nat} {f : Nat → Int32} (hM : M a = some (.inl (cA, n, .inl f))) {i : Int32} (hin : vp_in i n) (hdg : decode cc pc = .ok (.saload, 1))
    (kk : W p l e R s m args below meth c H locs cells slots Q (F0 m (pc + 1) ls (.int (f i.toNatClampNeg) :: rest))) : W p l e R s m args below meth c H locs cells slots Q (F0 m pc ls (.int i :: .ref a :: rest)) := by
  obtain ⟨hx, hb, hown, hts, hK⟩ := X
  obtain ⟨L, g, rfl, hP, hD, hS, hz⟩ := hw
  obtain ⟨hm, he⟩ := mL_some hM
  obtain ⟨q0, hq⟩ := va_pl_get (X := []) (f := g) hm
  rw [he] at hq
  exact va_sald hx hb hK hP q0 t0 hq ht hin hdg kk
theorem h_fald (X : Cx p s m args c cc own Ts D cl tys) (t0 : Nat) {cA : ClassId} (ht : tys[t0]? = some (cA, .float)) (hw : wd D cl z M H0 H locs) {n : Nat} {f : Nat → UInt32} (hM : M a = some (.inl (cA, n, .inr (.inr (.inl f))))) {i : Int32} (hin : vp_in i n) (hdg : decode cc pc = .ok (.faload, 1))
    (kk : W p l e R s m args below meth c H locs cells slots Q (F0 m (pc + 1) ls (.float (f i.toNatClampNeg) :: rest))) : W p l e R s m args below meth c H locs cells slots Q (F0 m pc ls (.int i :: .ref a :: rest)) := by
  obtain ⟨hx, hb, hown, hts, hK⟩ := X
  obtain ⟨L, g, rfl, hP, hD, hS, hz⟩ := hw
  obtain ⟨hm, he⟩ := mL_some hM
  obtain ⟨q0, hq⟩ := va_pl_get (X := []) (f := g) hm
  rw [he] at hq
  exact va_fald hx hb hK hP q0 t0 hq ht hin hdg kk
theorem h_aldq (X : Cx p s m args c cc own Ts D cl tys) (t0 : Nat) {cA : ClassId} {E : String} (ht : tys[t0]? = some (cA, .object E)) (hw : wd D cl z M H0 H locs) {n : Nat} {f : Nat → Option Nat} (hM : M a = some (.inl (cA, n, .inr (.inr (.inr (.inr f)))))) {i : Int32} (hin : vp_in i n) (hdg : decode cc pc = .ok (.aaload, 1))
    (kk : W p l e R s m args below meth c H locs cells slots Q (F0 m (pc + 1) ls (va_rf (f i.toNatClampNeg) :: rest))) : W p l e R s m args below meth c H locs cells slots Q (F0 m pc ls (.int i :: .ref a :: rest)) := by
  obtain ⟨hx, hb, hown, hts, hK⟩ := X
  obtain ⟨L, g, rfl, hP, hD, hS, hz⟩ := hw
  obtain ⟨hm, he⟩ := mL_some hM
  obtain ⟨q0, hq⟩ := va_pl_get (X := []) (f := g) hm
  rw [he] at hq
  exact va_aldq hx hb hK hP q0 t0 hq ht hin hdg kk
theorem h_alen (X : Cx p s m args c cc own Ts D cl tys) (t0 : Nat) {cA : ClassId} {ty : FieldType} (ht : tys[t0]? = some (cA, ty)) (hw : wd D cl z M H0 H locs) {x : vp_A} (hM : M a = some (.inl (cA, x))) {v : Int32} (hv : Int32.ofNat x.1 = v) (hdg : decode cc pc = .ok (.arraylength, 1))
    (kk : W p l e R s m args below meth c H locs cells slots Q (F0 m (pc + 1) ls (.int v :: rest))) : W p l e R s m args below meth c H locs cells slots Q (F0 m pc ls (.ref a :: rest)) := by
  obtain ⟨hx, hb, hown, hts, hK⟩ := X
  obtain ⟨L, g, rfl, hP, hD, hS, hz⟩ := hw
  obtain ⟨hm, he⟩ := mL_some hM
  obtain ⟨q0, hq⟩ := va_pl_get (X := []) (f := g) hm
  rw [he] at hq
  exact va_alen hx hb hK hP q0 t0 hq ht hv hdg kk
theorem h_iast (X : Cx p s m args c cc own Ts D cl tys) (t0 : Nat) {cA : ClassId} (ht : tys[t0]? = some (cA, .int)) (hw : wd D cl z M H0 H locs) {n : Nat} {f : Nat → Int32} (hM : M a = some (.inl (cA, n, .inl f))) {i x : Int32} (hin : vp_in i n) (hdg : decode cc pc = .ok (.iastore, 1))
    (kk : ∀ (H1 : Heap) (locs1 : List Loc), wd D cl z (mU M a (.inl (cA, n, .inl (upd f i.toNatClampNeg x)))) H0 H1 locs1 → W p l e R s m args below meth c H1 locs1 cells slots Q (F0 m (pc + 1) ls rest)) : W p l e R s m args below meth c H locs cells slots Q (F0 m pc ls (.int x :: .int i :: .ref a :: rest)) := by
  obtain ⟨hx, hb, hown, hts, hK⟩ := X
  obtain ⟨L, g, rfl, hP, hD, hS, hz⟩ := hw
  obtain ⟨hm, he⟩ := mL_some hM
  obtain ⟨q0, hq⟩ := va_pl_get (X := []) (f := g) hm
  rw [he] at hq
  exact va_iast hx hb hK hP hD hS q0 t0 hq ht hin hdg (fun H1 locs1 h1 h2 h3 => kk H1 locs1 (wd.set hm he hq hD h1 h2 h3 hz))
theorem h_bast (X : Cx p s m args c cc own Ts D cl tys) (t0 : Nat) {cA : ClassId} (ht : tys[t0]? = some (cA, .byte)) (hw : wd D cl z M H0 H locs) {n : Nat} {f : Nat → Int32} (hM : M a = some (.inl (cA, n, .inl f))) {i x : Int32} (hin : vp_in i n) (hdg : decode cc pc = .ok (.bastore, 1))
    (kk : ∀ (H1 : Heap) (locs1 : List Loc), wd D cl z (mU M a (.inl (cA, n, .inl (upd f i.toNatClampNeg (vp_nar .byte x))))) H0 H1 locs1 → W p l e R s m args below meth c H1 locs1 cells slots Q (F0 m (pc + 1) ls rest)) : W p l e R s m args below meth c H locs cells slots Q (F0 m pc ls (.int x :: .int i :: .ref a :: rest)) := by
  obtain ⟨hx, hb, hown, hts, hK⟩ := X
  obtain ⟨L, g, rfl, hP, hD, hS, hz⟩ := hw
  obtain ⟨hm, he⟩ := mL_some hM
  obtain ⟨q0, hq⟩ := va_pl_get (X := []) (f := g) hm
  rw [he] at hq
  exact va_bast hx hb hK hP hD hS q0 t0 hq ht hin hdg (fun H1 locs1 h1 h2 h3 => kk H1 locs1 (wd.set hm he hq hD h1 h2 h3 hz))
theorem h_zast (X : Cx p s m args c cc own Ts D cl tys) (t0 : Nat) {cA : ClassId} (ht : tys[t0]? = some (cA, .boolean)) (hw : wd D cl z M H0 H locs) {n : Nat} {f : Nat → Int32} (hM : M a = some (.inl (cA, n, .inl f))) {i x : Int32} (hin : vp_in i n) (hdg : decode cc pc = .ok (.bastore, 1))
    (kk : ∀ (H1 : Heap) (locs1 : List Loc), wd D cl z (mU M a (.inl (cA, n, .inl (upd f i.toNatClampNeg (vp_nar .boolean x))))) H0 H1 locs1 → W p l e R s m args below meth c H1 locs1 cells slots Q (F0 m (pc + 1) ls rest)) : W p l e R s m args below meth c H locs cells slots Q (F0 m pc ls (.int x :: .int i :: .ref a :: rest)) := by
  obtain ⟨hx, hb, hown, hts, hK⟩ := X
  obtain ⟨L, g, rfl, hP, hD, hS, hz⟩ := hw
  obtain ⟨hm, he⟩ := mL_some hM
  obtain ⟨q0, hq⟩ := va_pl_get (X := []) (f := g) hm
  rw [he] at hq
  exact va_zast hx hb hK hP hD hS q0 t0 hq ht hin hdg (fun H1 locs1 h1 h2 h3 => kk H1 locs1 (wd.set hm he hq hD h1 h2 h3 hz))
theorem h_cast (X : Cx p s m args c cc own Ts D cl tys) (t0 : Nat) {cA : ClassId} (ht : tys[t0]? = some (cA, .char)) (hw : wd D cl z M H0 H locs) {n : Nat} {f : Nat → Int32} (hM : M a = some (.inl (cA, n, .inl f))) {i x : Int32} (hin : vp_in i n) (hdg : decode cc pc = .ok (.castore, 1))
    (kk : ∀ (H1 : Heap) (locs1 : List Loc), wd D cl z (mU M a (.inl (cA, n, .inl (upd f i.toNatClampNeg (vp_nar .char x))))) H0 H1 locs1 → W p l e R s m args below meth c H1 locs1 cells slots Q (F0 m (pc + 1) ls rest)) : W p l e R s m args below meth c H locs cells slots Q (F0 m pc ls (.int x :: .int i :: .ref a :: rest)) := by
  obtain ⟨hx, hb, hown, hts, hK⟩ := X
  obtain ⟨L, g, rfl, hP, hD, hS, hz⟩ := hw
  obtain ⟨hm, he⟩ := mL_some hM
  obtain ⟨q0, hq⟩ := va_pl_get (X := []) (f := g) hm
  rw [he] at hq
  exact va_cast hx hb hK hP hD hS q0 t0 hq ht hin hdg (fun H1 locs1 h1 h2 h3 => kk H1 locs1 (wd.set hm he hq hD h1 h2 h3 hz))
theorem h_sast (X : Cx p s m args c cc own Ts D cl tys) (t0 : Nat) {cA : ClassId} (ht : tys[t0]? = some (cA, .short)) (hw : wd D cl z M H0 H locs) {n : Nat} {f : Nat → Int32} (hM : M a = some (.inl (cA, n, .inl f))) {i x : Int32} (hin : vp_in i n) (hdg : decode cc pc = .ok (.sastore, 1))
    (kk : ∀ (H1 : Heap) (locs1 : List Loc), wd D cl z (mU M a (.inl (cA, n, .inl (upd f i.toNatClampNeg (vp_nar .short x))))) H0 H1 locs1 → W p l e R s m args below meth c H1 locs1 cells slots Q (F0 m (pc + 1) ls rest)) : W p l e R s m args below meth c H locs cells slots Q (F0 m pc ls (.int x :: .int i :: .ref a :: rest)) := by
  obtain ⟨hx, hb, hown, hts, hK⟩ := X
  obtain ⟨L, g, rfl, hP, hD, hS, hz⟩ := hw
  obtain ⟨hm, he⟩ := mL_some hM
  obtain ⟨q0, hq⟩ := va_pl_get (X := []) (f := g) hm
  rw [he] at hq
  exact va_sast hx hb hK hP hD hS q0 t0 hq ht hin hdg (fun H1 locs1 h1 h2 h3 => kk H1 locs1 (wd.set hm he hq hD h1 h2 h3 hz))
theorem h_fast (X : Cx p s m args c cc own Ts D cl tys) (t0 : Nat) {cA : ClassId} (ht : tys[t0]? = some (cA, .float)) (hw : wd D cl z M H0 H locs) {n : Nat} {f : Nat → UInt32} (hM : M a = some (.inl (cA, n, .inr (.inr (.inl f))))) {i : Int32} {x : UInt32} (hin : vp_in i n) (hdg : decode cc pc = .ok (.fastore, 1))
    (kk : ∀ (H1 : Heap) (locs1 : List Loc), wd D cl z (mU M a (.inl (cA, n, .inr (.inr (.inl (vf_upd f i.toNatClampNeg x)))))) H0 H1 locs1 → W p l e R s m args below meth c H1 locs1 cells slots Q (F0 m (pc + 1) ls rest)) : W p l e R s m args below meth c H locs cells slots Q (F0 m pc ls (.float x :: .int i :: .ref a :: rest)) := by
  obtain ⟨hx, hb, hown, hts, hK⟩ := X
  obtain ⟨L, g, rfl, hP, hD, hS, hz⟩ := hw
  obtain ⟨hm, he⟩ := mL_some hM
  obtain ⟨q0, hq⟩ := va_pl_get (X := []) (f := g) hm
  rw [he] at hq
  exact va_fast hx hb hK hP hD hS q0 t0 hq ht hin hdg (fun H1 locs1 h1 h2 h3 => kk H1 locs1 (wd.set hm he hq hD h1 h2 h3 hz))
theorem h_fresh {L : List Nat} {g : Nat → va_E} {q : Nat} {x : va_E} {A : Nat → Prop} (h2 : va_D A (([] ++ va_pl L g) ++ [(q, x)])) : q ∉ L := by
  intro hm
  obtain ⟨k, hk⟩ := va_pl_get (X := []) (f := g) hm
  have hl := (List.getElem?_eq_some_iff.mp hk).1
  have e1 : (([] ++ va_pl L g) ++ [(q, x)])[k]? = some (q, g q) := by rw [List.getElem?_append_left hl]; exact hk
  have e2 : (([] ++ va_pl L g) ++ [(q, x)])[([] ++ va_pl L g).length]? = some (q, x) := by rw [List.getElem?_append_right (Nat.le_refl _)]; simp
  have := h2.1 k _ _ _ e1 e2 rfl
  omega
theorem mL_none {L : List Nat} {g : Nat → va_E} {q : Nat} (h : q ∉ L) : mL L g q = none := by simp [mL, h]
theorem h_new (X : Cx p s m args c cc own Ts D cl tys) (hin : ∀ w ∈ u_ws C T N, w ∈ Ts) (hc : cl[ci]? = some (C, T, N)) (ty : Nat → FieldType) (hty : ∀ k, k < N → parseFieldDescriptor (T k).2.2.1 = some (ty k)) (hcl : Cond.classLink own index C ∈ Ts) (hinst : Cond.instantiable C N ∈ Ts) (hini : Cond.initialized C ∈ Ts)
    (hw : wd D cl z M H0 H locs) {fs : List Value} (hfs : ∀ j, j < N → defaultValue (ty j) = vp_V fs j) (hcells : cells + 1 ≤ R.cells) (hslots : slots + N ≤ R.slots) (hdg : decode cc pc = .ok (.new index, 3))
    (kk : ∀ (q : Nat) (H1 : Heap), M q = none → wd D cl z (mU M q (.inr (ci, fs))) H0 H1 locs →
      W p l e R s m args below meth c H1 locs (cells + 1) (slots + N) Q (F0 m (pc + 3) ls (.ref q :: rest))) : W p l e R s m args below meth c H locs cells slots Q (F0 m pc ls rest) := by
  obtain ⟨hx, hb, hown, hts, hK⟩ := X
  obtain ⟨L, g, rfl, hP, hD, hS, hz⟩ := hw
  exact va_new hx hb hts hin ty hty hown (hts _ hcl) (hts _ hinst) (hts _ hini) hK hP hD hS (fun q h => Nat.le_trans hz h) hc hfs hcells hslots hdg (fun q H1 h1 h2 h3 => kk q H1 (mL_none (h_fresh h2)) (wd.new (h_fresh h2) h1 h2 h3 hz))
theorem h_newa (X : Cx p s m args c cc own Ts D cl tys) {atype : ArrayType} (harr : Cond.arrayClass (newarray.typeOf atype) ∈ Ts) {ty : FieldType} (hty : newarray.typeOf atype = ty) (t0 : Nat) {cA : ClassId} (ht : tys[t0]? = some (cA, ty)) (hno : ∀ x, ty ≠ .object x)
    (hw : wd D cl z M H0 H locs) {n : Int32} {N' : Nat} {a0 : vp_A} (ha : ∀ cA : ClassId, vp_cell cA a0 = arrV cA N' (fun _ => defaultValue ty)) (hn : ¬ n < 0) (hN : n.toNatClampNeg = N') (hbytes : N' * componentBytes ty ≤ 536870912) (hcells : cells + 1 ≤ R.cells) (hslots : slots + N' ≤ R.slots) (hdg : decode cc pc = .ok (.newarray atype, 2))
    (kk : ∀ (q : Nat) (H1 : Heap), M q = none → wd D cl z (mU M q (.inl (cA, a0))) H0 H1 locs →
      W p l e R s m args below meth c H1 locs (cells + 1) (slots + N') Q (F0 m (pc + 2) ls (.ref q :: rest))) : W p l e R s m args below meth c H locs cells slots Q (F0 m pc ls (.int n :: rest)) := by
  obtain ⟨hx, hb, hown, hts, hK⟩ := X
  obtain ⟨L, g, rfl, hP, hD, hS, hz⟩ := hw
  refine va_newa hx hb (hts _ harr) hty hK hP hD hS (fun q h => Nat.le_trans hz h) ha hn hN hbytes hcells hslots hdg (fun q cB H1 h0 h1 h2 h3 => ?_)
  have e : cB = cA := by
    have q1 := (hK.2 t0 _ ht).2
    have q2 := (h0.2 tys.length (cB, ty) (by simp)).2
    cases ty with
    | object x => exact absurd rfl (hno x)
    | _ => exact Option.some.inj (q2.symm.trans q1)
  subst e
  exact kk q H1 (mL_none (h_fresh h2)) (wd.new (h_fresh h2) h1 h2 h3 hz)
theorem h_newq (X : Cx p s m args c cc own Ts D cl tys) {E : String} (hclink : Cond.classLink own index E ∈ Ts) (hover : Cond.arrayOver (.object E) ∈ Ts) (t0 : Nat) {cA : ClassId} (ht : tys[t0]? = some (cA, .object E))
    (hw : wd D cl z M H0 H locs) {n : Int32} {N' : Nat} (hn : ¬ n < 0) (hN : n.toNatClampNeg = N') (hbytes : N' * 4 ≤ 536870912) (hcells : cells + 1 ≤ R.cells) (hslots : slots + N' ≤ R.slots) (hdg : decode cc pc = .ok (.anewarray index, 3))
    (kk : ∀ (q : Nat) (H1 : Heap), M q = none → wd D cl z (mU M q (.inl (cA, N', .inr (.inr (.inr (.inr (fun _ => none))))))) H0 H1 locs →
      W p l e R s m args below meth c H1 locs (cells + 1) (slots + N') Q (F0 m (pc + 3) ls (.ref q :: rest))) : W p l e R s m args below meth c H locs cells slots Q (F0 m pc ls (.int n :: rest)) := by
  obtain ⟨hx, hb, hown, hts, hK⟩ := X
  obtain ⟨L, g, rfl, hP, hD, hS, hz⟩ := hw
  refine va_newq hx hb hown (hts _ hclink) (va_AO.of (hts _ hover)) hK hP hD hS (fun q h => Nat.le_trans hz h) hn hN hbytes hcells hslots hdg (fun q cB H1 h0 h1 h2 h3 => ?_)
  have e : cB = cA := by
    obtain ⟨_, _, -, -, -, q1⟩ := (hK.2 t0 _ ht).2
    obtain ⟨_, _, -, -, -, q2⟩ := (h0.2 tys.length (cB, .object E) (by simp)).2
    exact Option.some.inj (q2.symm.trans q1)
  subst e
  exact kk q H1 (mL_none (h_fresh h2)) (wd.new (h_fresh h2) h1 h2 h3 hz)
theorem h_astq (X : Cx p s m args c cc own Ts D cl tys) (t0 : Nat) {cA : ClassId} {r : vw_C} (ht : tys[t0]? = some (cA, .object r.1)) (hc : cl[ci]? = some r) (hw : wd D cl z M H0 H locs) {n v : Nat} {vs : List Value} {f : Nat → Option Nat} (hM : M a = some (.inl (cA, n, .inr (.inr (.inr (.inr f)))))) (hV : M v = some (.inr (ci, vs))) {i : Int32} (hin : vp_in i n) (hdg : decode cc pc = .ok (.aastore, 1))
    (kk : ∀ (H1 : Heap) (locs1 : List Loc), wd D cl z (mU M a (.inl (cA, n, .inr (.inr (.inr (.inr (va_up f i.toNatClampNeg (some v)))))))) H0 H1 locs1 → W p l e R s m args below meth c H1 locs1 cells slots Q (F0 m (pc + 1) ls rest)) : W p l e R s m args below meth c H locs cells slots Q (F0 m pc ls (.ref v :: .int i :: .ref a :: rest)) := by
  obtain ⟨hx, hb, hown, hts, hK⟩ := X
  obtain ⟨L, g, rfl, hP, hD, hS, hz⟩ := hw
  obtain ⟨hm, he⟩ := mL_some hM
  obtain ⟨q0, hq⟩ := va_pl_get (X := []) (f := g) hm
  rw [he] at hq
  obtain ⟨hm2, he2⟩ := mL_some hV
  obtain ⟨q2, hq2⟩ := va_pl_get (X := []) (f := g) hm2
  rw [he2] at hq2
  exact va_astq hx hb hK hP hD hS q0 t0 q2 ci hq ht hq2 hc hin hdg (fun H1 locs1 h1 h2 h3 => kk H1 locs1 (wd.set hm he hq hD h1 h2 h3 hz))
theorem h_lald (X : Cx p s m args c cc own Ts D cl tys) (t0 : Nat) {cA : ClassId} (ht : tys[t0]? = some (cA, .long)) (hw : wd D cl z M H0 H locs) {n : Nat} {f : Nat → Int64} (hM : M a = some (.inl (cA, n, .inr (.inl f)))) {i : Int32} (hin : vp_in i n) (hdg : decode cc pc = .ok (.laload, 1))
    (kk : W p l e R s m args below meth c H locs cells slots Q (F0 m (pc + 1) ls (.long (f i.toNatClampNeg) :: rest))) : W p l e R s m args below meth c H locs cells slots Q (F0 m pc ls (.int i :: .ref a :: rest)) := by
  obtain ⟨hx, hb, hown, hts, hK⟩ := X
  obtain ⟨L, g, rfl, hP, hD, hS, hz⟩ := hw
  obtain ⟨hm, he⟩ := mL_some hM
  obtain ⟨q0, hq⟩ := va_pl_get (X := []) (f := g) hm
  rw [he] at hq
  exact va_lald hx hb hK hP q0 t0 hq ht hin hdg kk
theorem h_last (X : Cx p s m args c cc own Ts D cl tys) (t0 : Nat) {cA : ClassId} (ht : tys[t0]? = some (cA, .long)) (hw : wd D cl z M H0 H locs) {n : Nat} {f : Nat → Int64} (hM : M a = some (.inl (cA, n, .inr (.inl f)))) {i : Int32} {x : Int64} (hin : vp_in i n) (hdg : decode cc pc = .ok (.lastore, 1))
    (kk : ∀ (H1 : Heap) (locs1 : List Loc), wd D cl z (mU M a (.inl (cA, n, .inr (.inl (vp_updL f i.toNatClampNeg x))))) H0 H1 locs1 → W p l e R s m args below meth c H1 locs1 cells slots Q (F0 m (pc + 1) ls rest)) : W p l e R s m args below meth c H locs cells slots Q (F0 m pc ls (.long x :: .int i :: .ref a :: rest)) := by
  obtain ⟨hx, hb, hown, hts, hK⟩ := X
  obtain ⟨L, g, rfl, hP, hD, hS, hz⟩ := hw
  obtain ⟨hm, he⟩ := mL_some hM
  obtain ⟨q0, hq⟩ := va_pl_get (X := []) (f := g) hm
  rw [he] at hq
  exact va_last hx hb hK hP hD hS q0 t0 hq ht hin hdg (fun H1 locs1 h1 h2 h3 => kk H1 locs1 (wd.set hm he hq hD h1 h2 h3 hz))
theorem h_aldA (X : Cx p s m args c cc own Ts D cl tys) (t0 : Nat) {cA : ClassId} {ty : FieldType} (ht : tys[t0]? = some (cA, .array ty)) (hw : wd D cl z M H0 H locs) {n : Nat} {f : Nat → Option Nat} (hM : M a = some (.inl (cA, n, .inr (.inr (.inr (.inr f)))))) {i : Int32} (hin : vp_in i n) (hdg : decode cc pc = .ok (.aaload, 1))
    (kk : W p l e R s m args below meth c H locs cells slots Q (F0 m (pc + 1) ls (va_rf (f i.toNatClampNeg) :: rest))) : W p l e R s m args below meth c H locs cells slots Q (F0 m pc ls (.int i :: .ref a :: rest)) := by
  obtain ⟨hx, hb, hown, hts, hK⟩ := X
  have hat := hw.at hM
  have hlt : i.toNatClampNeg < n := Nat.not_le.mp fun q => hin (Or.inr q)
  exact W.aald (v := va_rf (f i.toNatClampNeg)) (ty := .array ty) hx hb hat ((hK.2 t0 _ ht).1 n (fun j => va_rf (f j))) rfl (fun q => by cases q) (by show ¬ (i < 0 ∨ (arrV _ _ _).slots.size ≤ _); rw [arrV_size]; exact hin) (by show (arrV _ _ _).slots[_]? = _; rw [arrV_read _ _ hlt]) rfl rfl hdg kk
theorem h_astO (X : Cx p s m args c cc own Ts D cl tys) (t0 : Nat) {E : String} {cA : ClassId} {r : vw_C} (ht : tys[t0]? = some (cA, .object E)) (hc : cl[ci]? = some r) (hca : Cond.castable r.1 E ∈ Ts) (hw : wd D cl z M H0 H locs) {n v : Nat} {vs : List Value} {f : Nat → Option Nat} (hM : M a = some (.inl (cA, n, .inr (.inr (.inr (.inr f)))))) (hV : M v = some (.inr (ci, vs))) {i : Int32} (hin : vp_in i n) (hdg : decode cc pc = .ok (.aastore, 1))
    (kk : ∀ (H1 : Heap) (locs1 : List Loc), wd D cl z (mU M a (.inl (cA, n, .inr (.inr (.inr (.inr (va_up f i.toNatClampNeg (some v)))))))) H0 H1 locs1 → W p l e R s m args below meth c H1 locs1 cells slots Q (F0 m (pc + 1) ls rest)) : W p l e R s m args below meth c H locs cells slots Q (F0 m pc ls (.ref v :: .int i :: .ref a :: rest)) := by
  obtain ⟨hx, hb, hown, hts, hK⟩ := X
  obtain ⟨L, g, rfl, hP, hD, hS, hz⟩ := hw
  obtain ⟨hm, he⟩ := mL_some hM
  obtain ⟨q0, hq⟩ := va_pl_get (X := []) (f := g) hm
  rw [he] at hq
  obtain ⟨hm2, he2⟩ := mL_some hV
  obtain ⟨q2, hq2⟩ := va_pl_get (X := []) (f := g) hm2
  rw [he2] at hq2
  exact va_astqO hx hb hK hP hD hS q0 t0 q2 ci hq ht (va_Nw.of rfl (hts _ hca)) hq2 hc hin hdg (fun H1 locs1 h1 h2 h3 => kk H1 locs1 (wd.set hm he hq hD h1 h2 h3 hz))
end HM
end
section
/-! THE WORDS MOVE: what the tables say at a method's entry they say at every later entry -/
def lw_nst : List Cond := lw_tbl.filter (fun w => !goodWord w)
theorem nst_moves {w : Cond} (h : (match w with | .methodLinkNest .. => true | .declares _ => true | .castable .. => true | .arrayOver _ => true | _ => false) = true) {args a' : Array Value} {s U : State} (hW : s.WarmedH U.vm) (hw : w.before args s = true) : w.before a' U = true := by
  cases w <;> simp only [Bool.false_eq_true] at h
  case methodLinkNest => exact va_Nw.use rfl (va_Nw.warmM hW (va_Nw.of rfl hw))
  case declares => exact va_Nw.use rfl (va_Nw.warmD hW (va_Nw.of rfl hw))
  case castable => exact va_Nw.use rfl (va_Nw.warmC hW (va_Nw.of rfl hw))
  case arrayOver => exact Cond.before_shiftedFace (State.Shifted.of_warmed hW) _ rfl hw
set_option maxRecDepth 20000 in
theorem tbl_kinds : ∀ w ∈ lw_tbl, (goodWord w || (match w with | .methodLinkNest .. => true | .declares _ => true | .castable .. => true | .arrayOver _ => true | _ => false)) = true := by
  decide +kernel
theorem tbl_moves {args : Array Value} {s : State} (hts : ∀ w ∈ lw_tbl, w.before args s = true) : ∀ w ∈ lw_tbl, ∀ (a' : Array Value) (U : State), s.WarmedH U.vm → w.before a' U = true := by
  intro w hw a' U hW
  have h := tbl_kinds w hw
  rw [Bool.or_eq_true] at h
  rcases h with h | h
  · exact word_at hW (good_of_word h) (hts w hw)
  · exact nst_moves h hW (hts w hw)
/-- a method's words: its code, and the tables -/
abbrev ws_ (y : MethodName) (b : ByteArray) (n : Nat) (r : Option FieldType) : List Cond := Cond.code y b n r :: lw_tbl
theorem ws_moves {args : Array Value} {s : State} (hts : ∀ w ∈ lw_tbl, w.before args s = true) {y : MethodName} {b : ByteArray} {n : Nat} {r : Option FieldType} (hc : Cond.code y b n r ∈ lw_tbl) : ∀ w ∈ ws_ y b n r, ∀ (a' : Array Value) (U : State), s.WarmedH U.vm → w.before a' U = true := by
  intro w hw
  rcases List.mem_cons.mp hw with rfl | h
  · exact tbl_moves hts _ hc
  · exact tbl_moves hts _ h
theorem len_of {x : MethodName} {n : Nat} (h : (parseMethodDescriptor x.desc).map (fun d => d.parameters.length) = some n) : ∀ sig, parseMethodDescriptor x.desc = some sig → n = sig.parameters.length := by
  intro sig hs
  rw [hs] at h
  exact (Option.some.inj h).symm
/-! CONTRACTS OVER MAPS: entries, ends and calls -/
def Pw (D : va_G) (cl : List vw_C) (tys : List (ClassId × FieldType)) (z : Nat) (M : Mp) (U : State) : Prop := wd D cl z M U.heap U.heap [] ∧ va_K D cl tys U
section HC
variable {p : Program} {l : Launch} {e : Env} {R : Room} {s : State} {m : MethodId} {args : Array Value} {below : List Frame} {meth : Method} {c : Code} {H : Heap} {locs : List Loc} {cells slots : Nat} {Q : State → Prop}
variable {cc : ByteArray} {pc : Nat} {ls : Array Slot} {rest : List Value} {D : va_G} {cl : List vw_C} {z : Nat} {tys : List (ClassId × FieldType)} {M : Mp} {H0 : Heap}
variable {own C : String} {ci index : Nat} {Ts ws ws' : List Cond} {y : MethodName} {rm : Room} {bytes : ByteArray} {maxL nL n mc ms : Nat} {ret : Option FieldType} {free : Addr → Prop} {Qc : Array Value → State → Outcome → State → Prop} {b : Nat} {As : List Value}
theorem pw_blind {av : List Value} : FrameBlind (va_Pc av (Pw D cl tys z M)) := fun a U g mk q => by
  obtain ⟨q0, q1, q2⟩ := q
  exact ⟨q0, q1, va_K.moved (u := U) (U := U.calling g mk a) (Vm.Alike.refl U.vm) q2⟩
theorem pw_at (hK : va_K D cl tys s) (hw : wd D cl z M H0 H locs) {av : List Value} (U : State) (hU : U.heap = H) (hW : s.WarmedH U.vm) : va_Pc av (Pw D cl tys z M) av.toArray U :=
  ⟨rfl, by rw [hU]; exact hw.now, va_K.moved hW.alike hK⟩
theorem h_recv {q : vw_C} (hK : va_K D cl tys s) (hw : wd D cl z M H0 H locs) (hc : cl[ci]? = some q) {fs : List Value} (hM : M b = some (.inr (ci, fs))) : ∃ cell : Cell, H[b]? = some cell ∧ cell.vm.isStatics = false ∧ s.vm.findClass q.1 = some cell.cls := by
  obtain ⟨L, f, rfl, hP, hD, hS, hz⟩ := hw
  obtain ⟨hm, he⟩ := mL_some hM
  obtain ⟨q0, hq⟩ := va_pl_get (X := []) (f := f) hm
  rw [he] at hq
  exact va_recv hK hP hc hq
theorem ct_of {av : List Value} (hy : plainName y.cls = true) (hw : ws = Cond.code y cc maxL ret :: ws') (hlen : (lg_sl av).length ≤ maxL)
    (body : ∀ (p : Program) (e : Env) (s : State) (m : MethodId) (below : List Frame) (meth : Method) (c : Code), Cx p s m av.toArray c cc y.cls ws' D cl tys → c.maxLocals = maxL → meth.sig.returnType = ret → meth.name = y.name → meth.locks = false → wd D cl z M s.heap s.heap [] → ∀ ls : Array Slot, lv_has ls maxL (lv_args 0 av) →
      W p l e rm s m av.toArray below meth c s.heap [] 0 0 (MQ below Qc av.toArray s mc ms free) (F0 m 0 ls [])) : Met l y ws rm (va_Pc av (Pw D cl tys z M)) Qc mc ms free := by
  refine Met.ofW (cc := cc) (maxL := maxL) (ret := ret) hy hw ?_
  intro p e s m args below meth c s₁ B hml hv
  obtain ⟨rfl, hwd, hK⟩ := hv
  have hts := atoms_spec (ws := ws) B.pre
  have hown : s.vm.findClass y.cls = some m.cls := findClass_of_methodNamed B.named
  have hl := lv_entry av (n := maxL) hlen
  rw [lg_entry_eq]
  exact body p e s m below meth c ⟨B.exec, B.bytes, hown, fun w h => hts w (by rw [hw]; exact List.mem_cons_of_mem _ h), hK⟩ hml B.returns (name_of_methodNamed B.named B.method).1 B.notSynchronized hwd _ hl
theorem h_iret {post : Int32 → Mp → Prop} {v : Int32} (X : Cx p s m args c cc own Ts D cl tys) (hr : meth.sig.returnType = some .int) (hlk : meth.locks = false) (hc : cells ≤ mc) (hs : slots ≤ ms) (hw : wd D cl z M s.heap H locs) (hp : post v M) (hdg : decode cc pc = .ok (.ireturn, 1)) :
    W p l e R s m args below meth c H locs cells slots (MQ below (va_Qi post (fun M' t => Pw D cl tys z M' t) (fun q => z ≤ q)) args s mc ms (fun q => z ≤ q)) (F0 m pc ls [.int v]) := by
  obtain ⟨hx, hb, hown, hts, hK⟩ := X
  refine W.widen hc hs ?_
  exact W.iret hx hb hr (fun t ht hW => ⟨⟨v, M, rfl, hp, by rw [ht]; exact hw.now, va_K.moved hW.alike hK⟩, hw.S.F ht⟩) hw.S.2.2 hdg hlk
theorem h_zret {post : Int32 → Mp → Prop} {v : Int32} {ty : FieldType} (X : Cx p s m args c cc own Ts D cl tys) (hr : meth.sig.returnType = some ty) (hn : narrow ty (.int v) = .int v) (hlk : meth.locks = false) (hc : cells ≤ mc) (hs : slots ≤ ms) (hw : wd D cl z M s.heap H locs) (hp : post v M) (hdg : decode cc pc = .ok (.ireturn, 1)) :
    W p l e R s m args below meth c H locs cells slots (MQ below (va_Qi post (fun M' t => Pw D cl tys z M' t) (fun q => z ≤ q)) args s mc ms (fun q => z ≤ q)) (F0 m pc ls [.int v]) := by
  obtain ⟨hx, hb, hown, hts, hK⟩ := X
  refine W.widen hc hs ?_
  exact W.zret hx hb hr hn (fun t ht hW => ⟨⟨v, M, rfl, hp, by rw [ht]; exact hw.now, va_K.moved hW.alike hK⟩, hw.S.F ht⟩) hw.S.2.2 hdg hlk
theorem h_fret {post : UInt32 → Mp → Prop} {v : UInt32} (X : Cx p s m args c cc own Ts D cl tys) (hr : meth.sig.returnType = some .float) (hlk : meth.locks = false) (hc : cells ≤ mc) (hs : slots ≤ ms) (hw : wd D cl z M s.heap H locs) (hp : post v M) (hdg : decode cc pc = .ok (.freturn, 1)) :
    W p l e R s m args below meth c H locs cells slots (MQ below (va_Qf post (fun M' t => Pw D cl tys z M' t) (fun q => z ≤ q)) args s mc ms (fun q => z ≤ q)) (F0 m pc ls [.float v]) := by
  obtain ⟨hx, hb, hown, hts, hK⟩ := X
  refine W.widen hc hs ?_
  exact W.fret hx hb hr (fun t ht hW => ⟨⟨v, M, rfl, hp, by rw [ht]; exact hw.now, va_K.moved hW.alike hK⟩, hw.S.F ht⟩) hw.S.2.2 hdg hlk
theorem h_vret {post : Mp → Prop} (X : Cx p s m args c cc own Ts D cl tys) (hr : meth.sig.returnType = none) (hlk : meth.locks = false) (hc : cells ≤ mc) (hs : slots ≤ ms) (hw : wd D cl z M s.heap H locs) (hp : post M) (hdg : decode cc pc = .ok (.return_, 1)) :
    W p l e R s m args below meth c H locs cells slots (MQ below (va_Qv post (fun M' t => Pw D cl tys z M' t) (fun q => z ≤ q)) args s mc ms (fun q => z ≤ q)) (F0 m pc ls []) := by
  obtain ⟨hx, hb, hown, hts, hK⟩ := X
  refine W.widen hc hs ?_
  exact W.vret hx hb hr (fun t ht hW => ⟨⟨M, rfl, hp, by rw [ht]; exact hw.now, va_K.moved hW.alike hK⟩, hw.S.F ht⟩) hw.S.2.2 hdg hlk
variable {st0 : List Value} {a : Array Value}
theorem h_calli {post : Int32 → Mp → Prop} (hr : va_Run p l e R s m args below meth c H locs cells slots mc ms (F0 m pc ls st0) rest (va_Qi post (fun M' t => Pw D cl tys z M' t) (fun q => z ≤ q) a) (fun q => z ≤ q)) (hw : wd D cl z M H0 H locs)
    (kk : ∀ (r : Int32) (M' : Mp) (H1 : Heap) (locs1 : List Loc), post r M' → wd D cl z M' H0 H1 locs1 → W p l e R s m args below meth c H1 locs1 (cells + mc) (slots + ms) Q (F0 m (pc + 3) ls (.int r :: rest))) : W p l e R s m args below meth c H locs cells slots Q (F0 m pc ls st0) :=
  va_calli hr hw.S (fun q _ h => h) (fun q h => h) (fun r M' t H1 locs1 ht hvm hp hB _ _ hS => kk r M' H1 locs1 hp (hw.back (by have := hB.1; rw [ht] at this; exact this) hS))
theorem h_callf {post : UInt32 → Mp → Prop} (hr : va_Run p l e R s m args below meth c H locs cells slots mc ms (F0 m pc ls st0) rest (va_Qf post (fun M' t => Pw D cl tys z M' t) (fun q => z ≤ q) a) (fun q => z ≤ q)) (hw : wd D cl z M H0 H locs)
    (kk : ∀ (r : UInt32) (M' : Mp) (H1 : Heap) (locs1 : List Loc), post r M' → wd D cl z M' H0 H1 locs1 → W p l e R s m args below meth c H1 locs1 (cells + mc) (slots + ms) Q (F0 m (pc + 3) ls (.float r :: rest))) : W p l e R s m args below meth c H locs cells slots Q (F0 m pc ls st0) :=
  va_callf hr hw.S (fun q _ h => h) (fun q h => h) (fun r M' t H1 locs1 ht hvm hp hB _ _ hS => kk r M' H1 locs1 hp (hw.back (by have := hB.1; rw [ht] at this; exact this) hS))
theorem h_callv {post : Mp → Prop} (hr : va_Run p l e R s m args below meth c H locs cells slots mc ms (F0 m pc ls st0) rest (va_Qv post (fun M' t => Pw D cl tys z M' t) (fun q => z ≤ q) a) (fun q => z ≤ q)) (hw : wd D cl z M H0 H locs)
    (kk : ∀ (M' : Mp) (H1 : Heap) (locs1 : List Loc), post M' → wd D cl z M' H0 H1 locs1 → W p l e R s m args below meth c H1 locs1 (cells + mc) (slots + ms) Q (F0 m (pc + 3) ls rest)) : W p l e R s m args below meth c H locs cells slots Q (F0 m pc ls st0) :=
  va_callv hr hw.S (fun q _ h => h) (fun q h => h) (fun M' t H1 locs1 ht hvm hp hB _ _ hS => kk M' H1 locs1 hp (hw.back (by have := hB.1; rw [ht] at this; exact this) hS))
/-- what a call needs of the callee, beside its contract -/
def nMH (n : String) : Prop := n ≠ "java/lang/invoke/MethodHandle" ∧ n ≠ "java/lang/invoke/VarHandle"
theorem h_cb (hts : ∀ w ∈ lw_tbl, w.before args s = true) (hc : Cond.code y bytes maxL ret ∈ lw_tbl) (hini : Cond.initialized y.cls ∈ lw_tbl) (hl : Cond.methodLink own index y ∈ lw_tbl) (hd : nMH y.cls) (hp : (parseMethodDescriptor y.desc).map (fun d => d.parameters.length) = some n) (hR : rm.frames + 1 ≤ R.frames ∧ 8 + (maxL + 11) + rm.locals ≤ R.locals) :
    CallB R s args own index y bytes maxL ret (ws_ y bytes maxL ret) rm rm.cells rm.slots n :=
  ⟨rfl, rfl, hR.1, hR.2, ws_moves hts hc, List.mem_cons_self, hts _ hc, hts _ hini, hd, len_of hp, hts _ hl⟩
/-- invokevirtual of a method that the receiver's own class has -/
theorem h_runV (X : Cx p s m args c cc own lw_tbl D cl tys) (hml : c.maxLocals = nL) (hcd : Cond.code y bytes maxL ret ∈ lw_tbl) (hini : Cond.initialized y.cls ∈ lw_tbl) (hl : Cond.methodLink own index y ∈ lw_tbl) (hin : Cond.instanceMethod y ∈ lw_tbl) (hse : Cond.selects C y y ∈ lw_tbl) (hd : nMH y.cls) (hpd : (parseMethodDescriptor y.desc).map (fun d => d.parameters.length) = some n)
    (hct : Met l y (ws_ y bytes maxL ret) rm (va_Pc (.ref b :: As) (Pw D cl tys z M)) Qc rm.cells rm.slots free) (hR : rm.frames + 1 ≤ R.frames ∧ 8 + (maxL + 11) + rm.locals ≤ R.locals) (hw : wd D cl z M H0 H locs) {q : vw_C} (hc : cl[ci]? = some q) (hq : q.1 = C) {fs : List Value} (hM : M b = some (.inr (ci, fs)))
    (hn : As.length = n) (hsize : ls.size = nL) (hst : st0 = As.reverse ++ .ref b :: rest) (hW : 2 * (F0 m pc ls st0).monitorRoom + (rest.map fun v => v.category).sum ≤ 8) (hdg : decode cc pc = .ok (.invokevirtual index, 3)) (hf : cells + rm.cells ≤ R.cells ∧ slots + rm.slots ≤ R.slots) :
    va_Run p l e R s m args below meth c H locs cells slots rm.cells rm.slots (F0 m pc ls st0) rest (Qc (Value.ref b :: As).toArray) free := by
  obtain ⟨hx, hb, hown, hts, hK⟩ := X
  subst hst
  exact va_runV ⟨hx, hb, hml, hown, hts⟩ hct ⟨h_cb hts hcd hini hl hd hpd hR, hts _ hin, hts _ hse⟩ ⟨pw_blind, by rw [← hq]; exact h_recv hK hw hc hM, fun U hU hW => pw_at hK hw U hU hW⟩ rfl hn hsize rfl hW hdg hf
/-- invokespecial of a constructor -/
theorem h_runI (X : Cx p s m args c cc own lw_tbl D cl tys) (hml : c.maxLocals = nL) (hcd : Cond.code y bytes maxL none ∈ lw_tbl) (hini : Cond.initialized y.cls ∈ lw_tbl) (hl : Cond.methodLink own index y ∈ lw_tbl) (hin : Cond.instanceMethod y ∈ lw_tbl) (hy1 : y.name = "<init>") (hd : nMH y.cls) (hpd : (parseMethodDescriptor y.desc).map (fun d => d.parameters.length) = some n)
    (hct : Met l y (ws_ y bytes maxL none) rm (va_Pc (.ref b :: As) (Pw D cl tys z M)) Qc rm.cells rm.slots free) (hR : rm.frames + 1 ≤ R.frames ∧ 8 + (maxL + 11) + rm.locals ≤ R.locals) (hw : wd D cl z M H0 H locs)
    (hn : As.length = n) (hsize : ls.size = nL) (hst : st0 = As.reverse ++ .ref b :: rest) (hW : 2 * (F0 m pc ls st0).monitorRoom + (rest.map fun v => v.category).sum ≤ 8) (hdg : decode cc pc = .ok (.invokespecial index, 3)) (hf : cells + rm.cells ≤ R.cells ∧ slots + rm.slots ≤ R.slots) :
    va_Run p l e R s m args below meth c H locs cells slots rm.cells rm.slots (F0 m pc ls st0) rest (Qc (Value.ref b :: As).toArray) free := by
  obtain ⟨hx, hb, hown, hts, hK⟩ := X
  subst hst
  exact va_runI ⟨hx, hb, hml, hown, hts⟩ hct ⟨h_cb hts hcd hini hl hd hpd hR, hy1, hts _ hin⟩ ⟨pw_blind, fun U hU hW => pw_at hK hw U hU hW⟩ rfl hn hsize rfl hW hdg hf
/-- invokespecial of a nest mate's private constructor -/
theorem h_runIN {host : String} (X : Cx p s m args c cc own lw_tbl D cl tys) (hml : c.maxLocals = nL) (hcd : Cond.code y bytes maxL none ∈ lw_tbl) (hini : Cond.initialized y.cls ∈ lw_tbl) (hl : Cond.methodLinkNest own index y host ∈ lw_tbl) (hin : Cond.instanceMethod y ∈ lw_tbl) (hy1 : y.name = "<init>") (hd : nMH y.cls) (hpd : (parseMethodDescriptor y.desc).map (fun d => d.parameters.length) = some n)
    (hct : Met l y (ws_ y bytes maxL none) rm (va_Pc (.ref b :: As) (Pw D cl tys z M)) Qc rm.cells rm.slots free) (hR : rm.frames + 1 ≤ R.frames ∧ 8 + (maxL + 11) + rm.locals ≤ R.locals) (hw : wd D cl z M H0 H locs)
    (hn : As.length = n) (hsize : ls.size = nL) (hst : st0 = As.reverse ++ .ref b :: rest) (hW : 2 * (F0 m pc ls st0).monitorRoom + (rest.map fun v => v.category).sum ≤ 8) (hdg : decode cc pc = .ok (.invokespecial index, 3)) (hf : cells + rm.cells ≤ R.cells ∧ slots + rm.slots ≤ R.slots) :
    va_Run p l e R s m args below meth c H locs cells slots rm.cells rm.slots (F0 m pc ls st0) rest (Qc (Value.ref b :: As).toArray) free := by
  obtain ⟨hx, hb, hown, hts, hK⟩ := X
  subst hst
  exact va_runIN ⟨hx, hb, hml, hown, hts⟩ hct ⟨⟨⟨rfl, rfl, hR.1, hR.2, ws_moves hts hcd, List.mem_cons_self⟩, hts _ hcd, hts _ hini, hd, len_of hpd, hts _ hl⟩, hy1, hts _ hin⟩ ⟨pw_blind, fun U hU hW => pw_at hK hw U hU hW⟩ rfl hn hsize rfl hW hdg hf
/-- invokestatic -/
theorem h_runS (X : Cx p s m args c cc own lw_tbl D cl tys) (hml : c.maxLocals = nL) (hcd : Cond.code y bytes maxL ret ∈ lw_tbl) (hini : Cond.initialized y.cls ∈ lw_tbl) (hl : Cond.methodLink own index y ∈ lw_tbl) (hin : Cond.static y ∈ lw_tbl) (hd : nMH y.cls) (hpd : (parseMethodDescriptor y.desc).map (fun d => d.parameters.length) = some n)
    (hct : Met l y (ws_ y bytes maxL ret) rm (va_Pc As (Pw D cl tys z M)) Qc rm.cells rm.slots free) (hR : rm.frames + 1 ≤ R.frames ∧ 8 + (maxL + 11) + rm.locals ≤ R.locals) (hw : wd D cl z M H0 H locs)
    (hn : As.length = n) (hsize : ls.size = nL) (hst : st0 = As.reverse ++ rest) (hW : 2 * (F0 m pc ls st0).monitorRoom + (rest.map fun v => v.category).sum ≤ 8) (hdg : decode cc pc = .ok (.invokestatic index, 3)) (hf : cells + rm.cells ≤ R.cells ∧ slots + rm.slots ≤ R.slots) :
    va_Run p l e R s m args below meth c H locs cells slots rm.cells rm.slots (F0 m pc ls st0) rest (Qc As.toArray) free := by
  obtain ⟨hx, hb, hown, hts, hK⟩ := X
  subst hst
  exact va_runS ⟨hx, hb, hml, hown, hts⟩ hct ⟨h_cb hts hcd hini hl hd hpd hR, hts _ hin⟩ ⟨pw_blind, fun U hU hW => pw_at hK hw U hU hW⟩ rfl hn hsize rfl hW hdg hf
/-- invokevirtual of x, found at owner, on an object of class C, where it is y (x declared above, abstract or not) -/
theorem h_runA {owner : String} {x : MethodName} (X : Cx p s m args c cc own lw_tbl D cl tys) (hml : c.maxLocals = nL) (hcd : Cond.code y bytes maxL ret ∈ lw_tbl) (hini : Cond.initialized y.cls ∈ lw_tbl) (hl : Cond.methodLink own index x ∈ lw_tbl) (hsm : Cond.sameMethod x.cls owner x.name x.desc ∈ lw_tbl) (hse : Cond.selects C x y ∈ lw_tbl) (hin : Cond.instanceMethod y ∈ lw_tbl) (hz : va_Decl s ⟨owner, x.name, x.desc⟩)
    (hd : nMH owner) (hpd : (parseMethodDescriptor x.desc).map (fun d => d.parameters.length) = some n)
    (hct : Met l y (ws_ y bytes maxL ret) rm (va_Pc (.ref b :: As) (Pw D cl tys z M)) Qc rm.cells rm.slots free) (hR : rm.frames + 1 ≤ R.frames ∧ 8 + (maxL + 11) + rm.locals ≤ R.locals) (hw : wd D cl z M H0 H locs) {q : vw_C} (hc : cl[ci]? = some q) (hq : q.1 = C) {fs : List Value} (hM : M b = some (.inr (ci, fs)))
    (hn : As.length = n) (hsize : ls.size = nL) (hst : st0 = As.reverse ++ .ref b :: rest) (hW : 2 * (F0 m pc ls st0).monitorRoom + (rest.map fun v => v.category).sum ≤ 8) (hdg : decode cc pc = .ok (.invokevirtual index, 3)) (hf : cells + rm.cells ≤ R.cells ∧ slots + rm.slots ≤ R.slots) :
    va_Run p l e R s m args below meth c H locs cells slots rm.cells rm.slots (F0 m pc ls st0) rest (Qc (Value.ref b :: As).toArray) free := by
  obtain ⟨hx, hb, hown, hts, hK⟩ := X
  subst hst
  exact va_runU ⟨hx, hb, hml, hown, hts⟩ hct ⟨⟨rfl, rfl, hR.1, hR.2, ws_moves hts hcd, List.mem_cons_self⟩, hts _ hcd, hts _ hini, hd, len_of hpd, hts _ hl, hts _ hsm, hz, hts _ hse, hts _ hin⟩ ⟨pw_blind, by rw [← hq]; exact h_recv hK hw hc hM, fun U hU hW => pw_at hK hw U hU hW⟩ rfl hn hsize rfl hW hdg hf
end HC
end
section
/-! THE REFERENCE AS FUNCTIONS: its memory is a tuple (cells, sizes, pegs, taken, hasBoard, rows, width, told) -/
abbrev aT (dA : Nat → ClassId) : List (ClassId × FieldType) := [(dA 0, .char), (dA 1, .short), (dA 2, .float), (dA 3, .boolean), (dA 4, .byte), (dA 5, .int), (dA 6, .long), (dA 7, .object "KeeperRolls$Roll"), (dA 8, .array .int)]
abbrev CQ (l : Launch) (D : va_G) (dA : Nat → ClassId) (z : Nat) (y : MethodName) (b : ByteArray) (n : Nat) (ret : Option FieldType) (av : List Value) (rm : Room) (M : Mp) (Qc : Array Value → State → Outcome → State → Prop) : Prop :=
  Met l y (ws_ y b n ret) rm (va_Pc av (Pw D vwCl (aT dA) z M)) Qc rm.cells rm.slots (fun q => z ≤ q)
abbrev Qi (D : va_G) (dA : Nat → ClassId) (z : Nat) (post : Int32 → Mp → Prop) : Array Value → State → Outcome → State → Prop := va_Qi post (fun M' t => Pw D vwCl (aT dA) z M' t) (fun q => z ≤ q)
abbrev Ql (D : va_G) (dA : Nat → ClassId) (z : Nat) (post : Int64 → Mp → Prop) : Array Value → State → Outcome → State → Prop := va_Ql post (fun M' t => Pw D vwCl (aT dA) z M' t) (fun q => z ≤ q)
abbrev Qf (D : va_G) (dA : Nat → ClassId) (z : Nat) (post : UInt32 → Mp → Prop) : Array Value → State → Outcome → State → Prop := va_Qf post (fun M' t => Pw D vwCl (aT dA) z M' t) (fun q => z ≤ q)
abbrev Qv (D : va_G) (dA : Nat → ClassId) (z : Nat) (post : Mp → Prop) : Array Value → State → Outcome → State → Prop := va_Qv post (fun M' t => Pw D vwCl (aT dA) z M' t) (fun q => z ≤ q)
abbrev rmN (f q : Nat) : Room := { frames := f, cells := 0, slots := 0, locals := q }
section HL
variable {p : Program} {l : Launch} {e : Env} {R : Room} {s : State} {m : MethodId} {args : Array Value} {below : List Frame} {meth : Method} {c : Code} {H : Heap} {locs : List Loc} {cells slots : Nat} {Q : State → Prop}
variable {cc : ByteArray} {pc : Nat} {ls : Array Slot} {rest : List Value} {D : va_G} {cl : List vw_C} {z : Nat} {tys : List (ClassId × FieldType)} {M : Mp} {H0 : Heap} {own : String} {Ts : List Cond} {mc ms : Nat} {st0 : List Value} {a : Array Value}
theorem h_lret {post : Int64 → Mp → Prop} {v : Int64} (X : Cx p s m args c cc own Ts D cl tys) (hr : meth.sig.returnType = some .long) (hlk : meth.locks = false) (hc : cells ≤ mc) (hs : slots ≤ ms) (hw : wd D cl z M s.heap H locs) (hp : post v M) (hdg : decode cc pc = .ok (.lreturn, 1)) :
    W p l e R s m args below meth c H locs cells slots (MQ below (va_Ql post (fun M' t => Pw D cl tys z M' t) (fun q => z ≤ q)) args s mc ms (fun q => z ≤ q)) (F0 m pc ls [.long v]) := by
  obtain ⟨hx, hb, hown, hts, hK⟩ := X
  refine W.widen hc hs ?_
  exact W.lret hx hb hr (fun t ht hW => ⟨⟨v, M, rfl, hp, by rw [ht]; exact hw.now, va_K.moved hW.alike hK⟩, hw.S.F ht⟩) hw.S.2.2 hdg hlk
theorem h_calll {post : Int64 → Mp → Prop} (hr : va_Run p l e R s m args below meth c H locs cells slots mc ms (F0 m pc ls st0) rest (va_Ql post (fun M' t => Pw D cl tys z M' t) (fun q => z ≤ q) a) (fun q => z ≤ q)) (hw : wd D cl z M H0 H locs)
    (kk : ∀ (r : Int64) (M' : Mp) (H1 : Heap) (locs1 : List Loc), post r M' → wd D cl z M' H0 H1 locs1 → W p l e R s m args below meth c H1 locs1 (cells + mc) (slots + ms) Q (F0 m (pc + 3) ls (.long r :: rest))) : W p l e R s m args below meth c H locs cells slots Q (F0 m pc ls st0) :=
  va_calll hr hw.S (fun q _ h => h) (fun q h => h) (fun r M' t H1 locs1 ht hvm hp hB _ _ hS => kk r M' H1 locs1 hp (hw.back (by have := hB.1; rw [ht] at this; exact this) hS))
end HL
abbrev St : Type := (Nat → Int64) × (Nat → Int32) × (Nat → Int32) × (Nat → Int32) × Int32 × Int32 × Int32 × Int32
/-- the reference's five cells hold the tuple -/
def MR (dA : Nat → ClassId) (M : Mp) (md : Nat → Nat) (σ : St) : Prop :=
  M (md 0) = some (.inr (7, [.ref (md 1), .ref (md 2), .ref (md 3), .ref (md 4), .int σ.2.2.2.2.1, .int σ.2.2.2.2.2.1, .int σ.2.2.2.2.2.2.1, .int σ.2.2.2.2.2.2.2])) ∧
  M (md 1) = some (.inl (dA 6, 1000, .inr (.inl σ.1))) ∧ M (md 2) = some (.inl (dA 5, 5, .inl σ.2.1)) ∧ M (md 3) = some (.inl (dA 5, 1600, .inl σ.2.2.1)) ∧ M (md 4) = some (.inl (dA 3, 40, .inl σ.2.2.2.1))
/-- nothing but the cells at md 0 .. md (n - 1) has changed -/
def Same (md : Nat → Nat) (n : Nat) (M M' : Mp) : Prop := ∀ a, (∀ i, i < n → a ≠ md i) → M' a = M a
theorem Same.rf {md : Nat → Nat} {n : Nat} {M : Mp} : Same md n M M := fun _ _ => rfl
theorem Same.put {md : Nat → Nat} {n i : Nat} {M M' : Mp} {x : va_E} (h : Same md n M M') (hi : i < n) : Same md n M (mU M' (md i) x) := fun a ha => by rw [mU_n _ _ (ha i hi)]; exact h a ha
theorem Same.tr {md : Nat → Nat} {n : Nat} {M M' M'' : Mp} (h : Same md n M M') (h' : Same md n M' M'') : Same md n M M'' := fun a ha => (h' a ha).trans (h a ha)
/-- different cells lie at different places -/
theorem mp_ne {M : Mp} {a b : Nat} {x y : va_E} (ha : M a = some x) (hb : M b = some y) (h : x ≠ y) : a ≠ b := by
  intro q; subst q; exact h (Option.some.inj (ha.symm.trans hb))
theorem ne_or (c1 c2 : ClassId) (n1 n2 : Nat) (f1 f2) (h : n1 ≠ n2) : (.inl (c1, n1, f1) : va_E) ≠ .inl (c2, n2, f2) := by
  intro q; cases q; exact h rfl
theorem MR.ne {dA : Nat → ClassId} {M : Mp} {md : Nat → Nat} {σ : St} (h : MR dA M md σ) : ∀ i j : Nat, i < 5 → j < 5 → i ≠ j → md i ≠ md j := by
  obtain ⟨h0, h1, h2, h3, h4⟩ := h
  have n01 : md 0 ≠ md 1 := mp_ne h0 h1 (by intro q; cases q)
  have n02 : md 0 ≠ md 2 := mp_ne h0 h2 (by intro q; cases q)
  have n03 : md 0 ≠ md 3 := mp_ne h0 h3 (by intro q; cases q)
  have n04 : md 0 ≠ md 4 := mp_ne h0 h4 (by intro q; cases q)
  have n12 : md 1 ≠ md 2 := mp_ne h1 h2 (ne_or _ _ _ _ _ _ (by decide))
  have n13 : md 1 ≠ md 3 := mp_ne h1 h3 (ne_or _ _ _ _ _ _ (by decide))
  have n14 : md 1 ≠ md 4 := mp_ne h1 h4 (ne_or _ _ _ _ _ _ (by decide))
  have n23 : md 2 ≠ md 3 := mp_ne h2 h3 (ne_or _ _ _ _ _ _ (by decide))
  have n24 : md 2 ≠ md 4 := mp_ne h2 h4 (ne_or _ _ _ _ _ _ (by decide))
  have n34 : md 3 ≠ md 4 := mp_ne h3 h4 (ne_or _ _ _ _ _ _ (by decide))
  intro i j hi hj hij
  rcases (show i = 0 ∨ i = 1 ∨ i = 2 ∨ i = 3 ∨ i = 4 by omega) with rfl | rfl | rfl | rfl | rfl <;> rcases (show j = 0 ∨ j = 1 ∨ j = 2 ∨ j = 3 ∨ j = 4 by omega) with rfl | rfl | rfl | rfl | rfl <;> first | exact absurd rfl hij | assumption | exact Ne.symm (by assumption)
def f_isRoll (x : Int32) : Int32 := if x < 0 then 0 else if 5 ≤ x then 0 else 1
theorem f_isRoll_1 {x : Int32} (h : ¬ f_isRoll x = 0) : ∃ j : Nat, j < 5 ∧ x = nI j := by
  unfold f_isRoll at h
  split at h
  · exact absurd rfl h
  · rename_i h0
    split at h
    · exact absurd rfl h
    · rename_i h5
      obtain ⟨j, hj, rfl⟩ := nI_of h0
      refine ⟨j, ?_, rfl⟩
      rcases Nat.lt_or_ge j 5 with q | q
      · exact q
      · exact absurd (nI_le (a := 5) (b := j) q hj) h5
theorem f_isRoll_nI {j : Nat} (h : j < 5) : f_isRoll (nI j) = 1 := by
  unfold f_isRoll
  rw [if_neg (nI_pos (by omega)), if_neg (nI_ge (a := j) (b := 5) h (by omega))]
theorem isRoll_in {x : Int32} (h : ¬ f_isRoll x = 0) : vp_in x 5 := by
  obtain ⟨j, hj, rfl⟩ := f_isRoll_1 h
  exact vp_in_nI hj (by omega)
-- each mirrors the bytecode's own conditions
def f_lacks (S : Nat → Int32) (r i : Int32) : Int32 := if f_isRoll r = 0 then 1 else if 0 ≤ S r.toNatClampNeg then (if i < 0 then 3 else if i < S r.toNatClampNeg then 0 else 3) else 2
def f_bounded (v : Int64) : Int64 := if v ≤ 8000000 then (if -8000000 ≤ v then v else -8000000) else 8000000
def f_low (v a : Int64) : Int64 := if 0 ≤ v - v / a * a then v - v / a * a else v - v / a * a + a
def f_lowest (v a : Int64) (g : Int32) : Int64 := if g = 0 then f_low v a else if f_low v a < a / 2 then f_low v a else f_low v a - a
/-- to 24 binary digits, the nearest; of two the even one -/
def rndN (n : Nat) : Nat := Jvm.FP.Core.nearest n (2 ^ (n.log2 - 23)) * 2 ^ (n.log2 - 23)
def rndI (x : Int) : Int := if x < 0 then -(rndN x.natAbs : Int) else (rndN x.natAbs : Int)
def f_rounded (v : Int64) : Int64 := Int64.ofInt (rndI v.toInt)
def f_fitted (r : Int32) (v : Int64) : Int64 := if r = 2 then f_rounded v else if r = 3 then (if v = 0 then 0 else 1) else if r = 0 then f_lowest v 65536 0 else if r = 1 then f_lowest v 65536 1 else f_lowest v 256 1
def f_raised (r : Int32) (w v : Int64) : Int64 := if r = 2 then f_bounded (f_rounded (w + f_rounded v)) else if r = 3 then (if v - v / 2 * 2 = 0 then w else 1 - w) else f_fitted r (w + v)
def f_multiplied (r : Int32) (w v : Int64) : Int64 := if r = 2 then f_bounded (w * f_rounded v) else if r = 3 then (if v = 0 then 0 else w) else f_fitted r (w * v)
def f_cap (v : Int64) : Int32 := if v ≤ 2147483647 then v.toInt32 else 2147483647
/-- the place of a roll's cell in the reference's one row -/
def f_at (r i : Int32) : Nat := (200 * r + i).toNatClampNeg
def s_tells (σ : St) (r i : Int32) (v : Int64) : St := (vp_updL σ.1 (f_at r i) v, σ.2.1, σ.2.2.1, σ.2.2.2.1, σ.2.2.2.2.1, σ.2.2.2.2.2.1, σ.2.2.2.2.2.2.1, f_cap v)
def s_told (σ : St) (v : Int32) : St := (σ.1, σ.2.1, σ.2.2.1, σ.2.2.2.1, σ.2.2.2.2.1, σ.2.2.2.2.2.1, σ.2.2.2.2.2.2.1, v)
def r_tear (σ : St) (r : Int32) : Int32 × St := if f_isRoll r = 0 then (1, σ) else if 0 ≤ σ.2.1 r.toNatClampNeg then (0, (σ.1, upd σ.2.1 r.toNatClampNeg (-1), σ.2.2)) else (2, σ)
def r_read (σ : St) (r i : Int32) : Int32 × St := if f_lacks σ.2.1 r i ≤ 0 then (0, s_tells σ r i (σ.1 (f_at r i))) else (f_lacks σ.2.1 r i, σ)
def r_mark (σ : St) (r i v : Int32) : Int32 × St := if f_lacks σ.2.1 r i ≤ 0 then (0, s_tells σ r i (f_fitted r v.toInt64)) else (f_lacks σ.2.1 r i, σ)
def r_more (σ : St) (r i v : Int32) : Int32 × St := if f_lacks σ.2.1 r i ≤ 0 then (0, s_tells σ r i (f_raised r (σ.1 (f_at r i)) v.toInt64)) else (f_lacks σ.2.1 r i, σ)
def r_times (σ : St) (r i v : Int32) : Int32 × St := if f_lacks σ.2.1 r i ≤ 0 then (0, s_tells σ r i (f_multiplied r (σ.1 (f_at r i)) v.toInt64)) else (f_lacks σ.2.1 r i, σ)
def r_size (σ : St) (r : Int32) : Int32 × St := if f_isRoll r = 0 then (1, σ) else if 0 ≤ σ.2.1 r.toNatClampNeg then (0, s_told σ (σ.2.1 r.toNatClampNeg)) else (2, σ)
def f_clip (v : Int64) : Int64 := if v ≤ 2147483647 then v else 2147483647
def r_pour (σ : St) (r i t j : Int32) : Int32 × St := if f_isRoll r = 0 then (1, σ) else if f_isRoll t = 0 then (1, σ) else if f_lacks σ.2.1 r i ≤ 0 then (if f_lacks σ.2.1 t j ≤ 0 then (0, s_tells σ t j (f_fitted t (f_clip (σ.1 (f_at r i))))) else (f_lacks σ.2.1 t j, σ)) else (f_lacks σ.2.1 r i, σ)
def f_lacksRow (σ : St) (r : Int32) : Int32 := if σ.2.2.2.2.1 = 0 then 2 else if r < 0 then 3 else if r < σ.2.2.2.2.2.1 then (if σ.2.2.2.1 r.toNatClampNeg = 0 then 0 else 2) else 3
def f_lacksPeg (σ : St) (r k : Int32) : Int32 := if f_lacksRow σ r ≤ 0 then (if k < 0 then 3 else if k < σ.2.2.2.2.2.2.1 then 0 else 3) else f_lacksRow σ r
def f_pat (r k : Int32) : Nat := (40 * r + k).toNatClampNeg
def r_peg (σ : St) (r k v : Int32) : Int32 × St := if f_lacksPeg σ r k ≤ 0 then (0, (σ.1, σ.2.1, upd σ.2.2.1 (f_pat r k) v, σ.2.2.2.1, σ.2.2.2.2.1, σ.2.2.2.2.2.1, σ.2.2.2.2.2.2.1, v)) else (f_lacksPeg σ r k, σ)
def r_look (σ : St) (r k : Int32) : Int32 × St := if f_lacksPeg σ r k ≤ 0 then (0, s_told σ (σ.2.2.1 (f_pat r k))) else (f_lacksPeg σ r k, σ)
def r_take (σ : St) (r : Int32) : Int32 × St := if σ.2.2.2.2.1 = 0 then (2, σ) else if r < 0 then (3, σ) else if r < σ.2.2.2.2.2.1 then (0, (σ.1, σ.2.1, σ.2.2.1, upd σ.2.2.2.1 r.toNatClampNeg 1, σ.2.2.2.2)) else (3, σ)
def r_width (σ : St) (r : Int32) : Int32 × St := if f_lacksRow σ r ≤ 0 then (0, s_told σ σ.2.2.2.2.2.2.1) else (f_lacksRow σ r, σ)
/-- what the reference's memory keeps to -/
def Ok (σ : St) : Prop := (∀ q, q < 5 → σ.2.1 q ≤ 200) ∧ σ.2.2.2.2.2.1 ≤ 40 ∧ σ.2.2.2.2.2.2.1 ≤ 40 ∧ (∀ j, j < 1000 → (σ.1 j).toInt.natAbs ≤ 2147483648) ∧ ∀ j, j < 200 → σ.1 (600 + j) = 0 ∨ σ.1 (600 + j) = 1
theorem row_0 {σ : St} {r : Int32} (hO : Ok σ) (h0 : ¬ r < 0) (h1 : r < σ.2.2.2.2.2.1) : ∃ q : Nat, q < 40 ∧ r = nI q := by
  obtain ⟨q, hq, rfl⟩ := nI_of h0
  refine ⟨q, ?_, rfl⟩
  have h2 := hO.2.1
  rw [Int32.lt_iff_toInt_lt, nI_toInt hq] at h1
  rw [Int32.le_iff_toInt_le] at h2
  have : (40 : Int32).toInt = 40 := by decide
  omega
theorem row_in {σ : St} {r : Int32} (hO : Ok σ) (h0 : ¬ r < 0) (h1 : r < σ.2.2.2.2.2.1) : vp_in r 40 := by
  obtain ⟨q, hq, rfl⟩ := row_0 hO h0 h1
  exact vp_in_nI hq (by omega)
theorem lacksRow_0 {σ : St} {r : Int32} (hO : Ok σ) (h : f_lacksRow σ r ≤ 0) : ∃ q : Nat, q < 40 ∧ r = nI q ∧ r < σ.2.2.2.2.2.1 ∧ ¬ σ.2.2.2.2.1 = 0 ∧ σ.2.2.2.1 q = 0 := by
  unfold f_lacksRow at h
  split at h
  · exact absurd h (by decide)
  · rename_i hb
    split at h
    · exact absurd h (by decide)
    · rename_i h0
      split at h
      · rename_i h1
        obtain ⟨q, hq, rfl⟩ := row_0 hO h0 h1
        rw [nI_clamp (by omega)] at h
        split at h
        · rename_i h2
          exact ⟨q, hq, rfl, h1, hb, h2⟩
        · exact absurd h (by decide)
      · exact absurd h (by decide)
theorem lacksPeg_0 {σ : St} {r k : Int32} (hO : Ok σ) (h : f_lacksPeg σ r k ≤ 0) : ∃ q j : Nat, q < 40 ∧ j < 40 ∧ r = nI q ∧ k = nI j ∧ f_lacksRow σ r ≤ 0 ∧ k < σ.2.2.2.2.2.2.1 := by
  unfold f_lacksPeg at h
  split at h
  · rename_i hr
    obtain ⟨q, hq, rfl, -, -, -⟩ := lacksRow_0 hO hr
    split at h
    · exact absurd h (by decide)
    · rename_i h0
      split at h
      · rename_i h1
        obtain ⟨j, hj, rfl⟩ := nI_of h0
        refine ⟨q, j, hq, ?_, rfl, rfl, hr, h1⟩
        have h2 := hO.2.2.1
        rw [Int32.lt_iff_toInt_lt, nI_toInt hj] at h1
        rw [Int32.le_iff_toInt_le] at h2
        have : (40 : Int32).toInt = 40 := by decide
        omega
      · exact absurd h (by decide)
  · rename_i hr
    exact absurd h hr
theorem pat_nI {q j : Nat} (hq : q < 40) (hj : j < 40) : (40 : Int32) * nI q + nI j = nI (40 * q + j) := by
  have e : (40 : Int32) = nI 40 := by decide
  rw [e, pk_mul, nI_add]
theorem lacksPeg_in {σ : St} {r k : Int32} (hO : Ok σ) (h : f_lacksPeg σ r k ≤ 0) : vp_in (40 * r + k) 1600 := by
  obtain ⟨q, j, hq, hj, rfl, rfl, -, -⟩ := lacksPeg_0 hO h
  rw [pat_nI hq hj]
  exact vp_in_nI (by omega) (by omega)
theorem i32_abs (v : Int32) : v.toInt64.toInt.natAbs ≤ 2147483648 := by
  rw [Int32.toInt_toInt64]
  have h1 := Int32.le_toInt v
  have h2 := Int32.toInt_lt v
  omega
theorem clip_abs {v : Int64} (h : v.toInt.natAbs ≤ 2147483648) : (f_clip v).toInt.natAbs ≤ 2147483648 := by
  unfold f_clip
  split
  · exact h
  · decide
theorem lacks_0 {S : Nat → Int32} {r i : Int32} (hS : ∀ q, q < 5 → S q ≤ 200) (h : f_lacks S r i ≤ 0) : ∃ q j : Nat, q < 5 ∧ j < 200 ∧ r = nI q ∧ i = nI j ∧ nI j < S q := by
  unfold f_lacks at h
  split at h
  · exact absurd h (by decide)
  · rename_i h1
    obtain ⟨q, hq, rfl⟩ := f_isRoll_1 h1
    rw [nI_clamp (by omega)] at h
    split at h
    · split at h
      · exact absurd h (by decide)
      · rename_i h3
        split at h
        · rename_i h4
          obtain ⟨j, hj, rfl⟩ := nI_of h3
          refine ⟨q, j, hq, ?_, rfl, rfl, h4⟩
          have h5 := hS q hq
          rw [Int32.lt_iff_toInt_lt, nI_toInt hj] at h4
          rw [Int32.le_iff_toInt_le] at h5
          have : (200 : Int32).toInt = 200 := by decide
          omega
        · exact absurd h (by decide)
    · exact absurd h (by decide)
theorem at_nI {q j : Nat} (hq : q < 5) (hj : j < 200) : (200 : Int32) * nI q + nI j = nI (200 * q + j) := by
  have e : (200 : Int32) = nI 200 := by decide
  rw [e, pk_mul, nI_add]
theorem lacks_in {S : Nat → Int32} {r i : Int32} (hS : ∀ q, q < 5 → S q ≤ 200) (h : f_lacks S r i ≤ 0) : vp_in (200 * r + i) 1000 := by
  obtain ⟨q, j, hq, hj, rfl, rfl, -⟩ := lacks_0 hS h
  rw [at_nI hq hj]
  exact vp_in_nI (by omega) (by omega)
end
section
set_option maxHeartbeats 4000000 in
set_option maxRecDepth 100000 in
theorem c_X9_isRoll (l : Launch) (D : va_G) (dA : Nat → ClassId) (z : Nat) (M : Mp) (x0 : Int32) : CQ l D dA z yX9_isRoll cX9_isRoll 1 (some .boolean) [.int x0] (rmN 0 0) M (Qi D dA z (fun r M' => M' = M ∧ r = f_isRoll x0)) := by
  refine ct_of (cc := cX9_isRoll) (maxL := 1) (ret := some .boolean) (by decide) rfl (by decide) ?_
  intro p e s m below meth c X hml hr hin hlk hw ls hl
  have X : Cx p s m _ c cX9_isRoll RX9 lw_tbl D vwCl (aT dA) := X
  obtain ⟨hx, hb, hown, hts, hK⟩ := id X
  have hl : lv_has ls 1 [(0, .int x0)] := hl
  refine lv_iload_n hx hb dX9_isRoll_0 rfl (lv_at hl 0 rfl) ?_
  refine lv_if_lt (tgt := 13) hx hb dX9_isRoll_1 (by decide) (fun c_1 => ?_) (fun c_1 => ?_)
  · refine lv_iconst (v := 0) hx hb dX9_isRoll_13 (by decide) ?_
    exact h_zret X hr (by decide) hlk (Nat.le_of_ble_eq_true rfl) (Nat.le_of_ble_eq_true rfl) hw ⟨rfl, by simp only [f_isRoll, c_1, not_false_eq_true, not_true_eq_false, if_true, if_false, ↓reduceIte]⟩ dX9_isRoll_14
  · refine lv_iload_n hx hb dX9_isRoll_4 rfl (lv_at hl 0 rfl) ?_
    refine lv_iconst (v := 5) hx hb dX9_isRoll_5 (by decide) ?_
    refine lv_icmp_ge (tgt := 13) hx hb dX9_isRoll_6 (by decide) (fun c_6 => ?_) (fun c_6 => ?_)
    · refine lv_iconst (v := 0) hx hb dX9_isRoll_13 (by decide) ?_
      exact h_zret X hr (by decide) hlk (Nat.le_of_ble_eq_true rfl) (Nat.le_of_ble_eq_true rfl) hw ⟨rfl, by simp only [f_isRoll, c_1, c_6, not_false_eq_true, not_true_eq_false, if_true, if_false, ↓reduceIte]⟩ dX9_isRoll_14
    · refine lv_iconst (v := 1) hx hb dX9_isRoll_9 (by decide) ?_
      refine lv_goto (tgt := 14) hx hb dX9_isRoll_10 (by decide) ?_
      exact h_zret X hr (by decide) hlk (Nat.le_of_ble_eq_true rfl) (Nat.le_of_ble_eq_true rfl) hw ⟨rfl, by simp only [f_isRoll, c_1, c_6, not_false_eq_true, not_true_eq_false, if_true, if_false, ↓reduceIte]⟩ dX9_isRoll_14
set_option maxHeartbeats 4000000 in
set_option maxRecDepth 100000 in
theorem c_X9_bounded (l : Launch) (D : va_G) (dA : Nat → ClassId) (z : Nat) (M : Mp) (x0 : Int64) : CQ l D dA z yX9_bounded cX9_bounded 2 (some .long) [.long x0] (rmN 0 0) M (Ql D dA z (fun r M' => M' = M ∧ r = f_bounded x0)) := by
  refine ct_of (cc := cX9_bounded) (maxL := 2) (ret := some .long) (by decide) rfl (by decide) ?_
  intro p e s m below meth c X hml hr hin hlk hw ls hl
  have X : Cx p s m _ c cX9_bounded RX9 lw_tbl D vwCl (aT dA) := X
  obtain ⟨hx, hb, hown, hts, hK⟩ := id X
  have hl : lv_has ls 2 [(0, .long x0)] := hl
  refine lv_lload_n hx hb dX9_bounded_0 rfl (lv_at hl 0 rfl) ?_
  refine lv_ldc2 (v := 8000000) hx hb hown (hts _ tb_413) dX9_bounded_1 ?_
  refine W.lcmp hx hb dX9_bounded_4 ?_
  refine lv_if_le (tgt := 14) hx hb dX9_bounded_5 (by decide) (fun c_5 => ?_) (fun c_5 => ?_)
  · have c_5 := (lg_cmp_le _ _).mp c_5
    refine lv_lload_n hx hb dX9_bounded_14 rfl (lv_at hl 0 rfl) ?_
    refine lv_ldc2 (v := -8000000) hx hb hown (hts _ tb_414) dX9_bounded_15 ?_
    refine W.lcmp hx hb dX9_bounded_18 ?_
    refine lv_if_ge (tgt := 28) hx hb dX9_bounded_19 (by decide) (fun c_19 => ?_) (fun c_19 => ?_)
    · have c_19 := (lg_cmp_ge _ _).mp c_19
      refine lv_lload_n hx hb dX9_bounded_28 rfl (lv_at hl 0 rfl) ?_
      exact h_lret X hr hlk (Nat.le_of_ble_eq_true rfl) (Nat.le_of_ble_eq_true rfl) hw ⟨rfl, by simp only [f_bounded, c_5, c_19, not_false_eq_true, not_true_eq_false, if_true, if_false, ↓reduceIte]⟩ dX9_bounded_29
    · have c_19 := (not_congr (lg_cmp_ge _ _)).mp c_19
      refine lv_ldc2 (v := -8000000) hx hb hown (hts _ tb_414) dX9_bounded_22 ?_
      refine lv_goto (tgt := 29) hx hb dX9_bounded_25 (by decide) ?_
      exact h_lret X hr hlk (Nat.le_of_ble_eq_true rfl) (Nat.le_of_ble_eq_true rfl) hw ⟨rfl, by simp only [f_bounded, c_5, c_19, not_false_eq_true, not_true_eq_false, if_true, if_false, ↓reduceIte]⟩ dX9_bounded_29
  · have c_5 := (not_congr (lg_cmp_le _ _)).mp c_5
    refine lv_ldc2 (v := 8000000) hx hb hown (hts _ tb_413) dX9_bounded_8 ?_
    refine lv_goto (tgt := 29) hx hb dX9_bounded_11 (by decide) ?_
    exact h_lret X hr hlk (Nat.le_of_ble_eq_true rfl) (Nat.le_of_ble_eq_true rfl) hw ⟨rfl, by simp only [f_bounded, c_5, not_false_eq_true, not_true_eq_false, if_true, if_false, ↓reduceIte]⟩ dX9_bounded_29
set_option maxHeartbeats 4000000 in
set_option maxRecDepth 100000 in
theorem c_X9_lowest (l : Launch) (D : va_G) (dA : Nat → ClassId) (z : Nat) (M : Mp) (x0 x1 : Int64) (g0 : Int32) (hne : ¬ x1 = 0) : CQ l D dA z yX9_lowest cX9_lowest 7 (some .long) [.long x0, .long x1, .int g0] (rmN 0 0) M (Ql D dA z (fun r M' => M' = M ∧ r = f_lowest x0 x1 g0)) := by
  refine ct_of (cc := cX9_lowest) (maxL := 7) (ret := some .long) (by decide) rfl (by decide) ?_
  intro p e s m below meth c X hml hr hin hlk hw ls hl
  have X : Cx p s m _ c cX9_lowest RX9 lw_tbl D vwCl (aT dA) := X
  obtain ⟨hx, hb, hown, hts, hK⟩ := id X
  have hl : lv_has ls 7 [(0, .long x0), (2, .long x1), (4, .int g0)] := hl
  refine lv_lload_n hx hb dX9_lowest_0 rfl (lv_at hl 0 rfl) ?_
  refine lv_lload_n hx hb dX9_lowest_1 rfl (lv_at hl 1 rfl) ?_
  refine lv_lrem hx hb dX9_lowest_2 hne ?_
  refine lv_lstore (lv' := [(5, .long ((x0 - x0 / x1 * x1))), (0, .long x0), (2, .long x1), (4, .int g0)]) hx hb dX9_lowest_3 hl (by decide) rfl (fun ls hl => ?_)
  refine lv_lload hx hb dX9_lowest_5 (lv_at hl 0 rfl) ?_
  refine lv_lconst (v := 0) hx hb dX9_lowest_7 (by decide) ?_
  refine W.lcmp hx hb dX9_lowest_8 ?_
  refine lv_if_ge (tgt := 19) hx hb dX9_lowest_9 (by decide) (fun c_9 => ?_) (fun c_9 => ?_)
  · have c_9 := (lg_cmp_ge _ _).mp c_9
    refine lv_lload hx hb dX9_lowest_19 (lv_at hl 0 rfl) ?_
    refine lv_lstore (lv' := [(5, .long ((x0 - x0 / x1 * x1))), (0, .long x0), (2, .long x1), (4, .int g0)]) hx hb dX9_lowest_21 hl (by decide) rfl (fun ls hl => ?_)
    refine lv_iload hx hb dX9_lowest_23 (lv_at hl 3 rfl) ?_
    refine lv_if_eq (tgt := 46) hx hb dX9_lowest_25 (by decide) (fun c_25 => ?_) (fun c_25 => ?_)
    · refine lv_lload hx hb dX9_lowest_46 (lv_at hl 0 rfl) ?_
      exact h_lret X hr hlk (Nat.le_of_ble_eq_true rfl) (Nat.le_of_ble_eq_true rfl) hw ⟨rfl, by simp only [f_lowest, f_low, c_9, c_25, not_false_eq_true, not_true_eq_false, if_true, if_false, ↓reduceIte]⟩ dX9_lowest_48
    · refine lv_lload hx hb dX9_lowest_28 (lv_at hl 0 rfl) ?_
      refine lv_lload_n hx hb dX9_lowest_30 rfl (lv_at hl 2 rfl) ?_
      refine lv_ldc2 (v := 2) hx hb hown (hts _ tb_397) dX9_lowest_31 ?_
      refine lv_ldiv hx hb dX9_lowest_34 (by decide) ?_
      refine W.lcmp hx hb dX9_lowest_35 ?_
      refine lv_if_lt (tgt := 46) hx hb dX9_lowest_36 (by decide) (fun c_36 => ?_) (fun c_36 => ?_)
      · have c_36 := (lg_cmp_lt _ _).mp c_36
        refine lv_lload hx hb dX9_lowest_46 (lv_at hl 0 rfl) ?_
        exact h_lret X hr hlk (Nat.le_of_ble_eq_true rfl) (Nat.le_of_ble_eq_true rfl) hw ⟨rfl, by simp only [f_lowest, f_low, c_9, c_25, c_36, not_false_eq_true, not_true_eq_false, if_true, if_false, ↓reduceIte]⟩ dX9_lowest_48
      · have c_36 := (not_congr (lg_cmp_lt _ _)).mp c_36
        refine lv_lload hx hb dX9_lowest_39 (lv_at hl 0 rfl) ?_
        refine lv_lload_n hx hb dX9_lowest_41 rfl (lv_at hl 2 rfl) ?_
        refine lv_lsub hx hb dX9_lowest_42 ?_
        refine lv_goto (tgt := 48) hx hb dX9_lowest_43 (by decide) ?_
        exact h_lret X hr hlk (Nat.le_of_ble_eq_true rfl) (Nat.le_of_ble_eq_true rfl) hw ⟨rfl, by simp only [f_lowest, f_low, c_9, c_25, c_36, not_false_eq_true, not_true_eq_false, if_true, if_false, ↓reduceIte]⟩ dX9_lowest_48
  · have c_9 := (not_congr (lg_cmp_ge _ _)).mp c_9
    refine lv_lload hx hb dX9_lowest_12 (lv_at hl 0 rfl) ?_
    refine lv_lload_n hx hb dX9_lowest_14 rfl (lv_at hl 2 rfl) ?_
    refine lv_ladd hx hb dX9_lowest_15 ?_
    refine lv_goto (tgt := 21) hx hb dX9_lowest_16 (by decide) ?_
    refine lv_lstore (lv' := [(5, .long (((x0 - x0 / x1 * x1) + x1))), (0, .long x0), (2, .long x1), (4, .int g0)]) hx hb dX9_lowest_21 hl (by decide) rfl (fun ls hl => ?_)
    refine lv_iload hx hb dX9_lowest_23 (lv_at hl 3 rfl) ?_
    refine lv_if_eq (tgt := 46) hx hb dX9_lowest_25 (by decide) (fun c_25 => ?_) (fun c_25 => ?_)
    · refine lv_lload hx hb dX9_lowest_46 (lv_at hl 0 rfl) ?_
      exact h_lret X hr hlk (Nat.le_of_ble_eq_true rfl) (Nat.le_of_ble_eq_true rfl) hw ⟨rfl, by simp only [f_lowest, f_low, c_9, c_25, not_false_eq_true, not_true_eq_false, if_true, if_false, ↓reduceIte]⟩ dX9_lowest_48
    · refine lv_lload hx hb dX9_lowest_28 (lv_at hl 0 rfl) ?_
      refine lv_lload_n hx hb dX9_lowest_30 rfl (lv_at hl 2 rfl) ?_
      refine lv_ldc2 (v := 2) hx hb hown (hts _ tb_397) dX9_lowest_31 ?_
      refine lv_ldiv hx hb dX9_lowest_34 (by decide) ?_
      refine W.lcmp hx hb dX9_lowest_35 ?_
      refine lv_if_lt (tgt := 46) hx hb dX9_lowest_36 (by decide) (fun c_36 => ?_) (fun c_36 => ?_)
      · have c_36 := (lg_cmp_lt _ _).mp c_36
        refine lv_lload hx hb dX9_lowest_46 (lv_at hl 0 rfl) ?_
        exact h_lret X hr hlk (Nat.le_of_ble_eq_true rfl) (Nat.le_of_ble_eq_true rfl) hw ⟨rfl, by simp only [f_lowest, f_low, c_9, c_25, c_36, not_false_eq_true, not_true_eq_false, if_true, if_false, ↓reduceIte]⟩ dX9_lowest_48
      · have c_36 := (not_congr (lg_cmp_lt _ _)).mp c_36
        refine lv_lload hx hb dX9_lowest_39 (lv_at hl 0 rfl) ?_
        refine lv_lload_n hx hb dX9_lowest_41 rfl (lv_at hl 2 rfl) ?_
        refine lv_lsub hx hb dX9_lowest_42 ?_
        refine lv_goto (tgt := 48) hx hb dX9_lowest_43 (by decide) ?_
        exact h_lret X hr hlk (Nat.le_of_ble_eq_true rfl) (Nat.le_of_ble_eq_true rfl) hw ⟨rfl, by simp only [f_lowest, f_low, c_9, c_25, c_36, not_false_eq_true, not_true_eq_false, if_true, if_false, ↓reduceIte]⟩ dX9_lowest_48
end
section
/-! ROUNDING -/
theorem vp_lt {i : Int32} {n : Nat} (h : vp_in i n) : i.toNatClampNeg < n := Nat.not_le.mp fun q => h (Or.inr q)
theorem vp_nb1 : vp_nar .boolean 1 = 1 := by decide
theorem vp_nb0 : vp_nar .boolean 0 = 0 := by decide
theorem rounded_abs {v : Int64} (h : v.toInt.natAbs ≤ 2147483648) : (f_rounded v).toInt.natAbs ≤ 2147483648 := by
  sorry
theorem sum_small {x y : Int64} (hx : x.toInt.natAbs ≤ 2147483648) (hy : y.toInt.natAbs ≤ 2147483648) : (x + y).toInt.natAbs < 1099511627776 := by
  rw [Jvm.FP.Core.int64_add (by omega) (by omega)]
  omega
theorem c_X9_rounded (l : Launch) (D : va_G) (dA : Nat → ClassId) (z : Nat) (M : Mp) (x0 : Int64) (hv : x0.toInt.natAbs < 1099511627776) : CQ l D dA z yX9_rounded cX9_rounded 13 (some .long) [.long x0] (rmN 0 0) M (Ql D dA z (fun r M' => M' = M ∧ r = f_rounded x0)) := by
  sorry
end
section
set_option maxHeartbeats 4000000 in
set_option maxRecDepth 100000 in
theorem c_X9_fitted (l : Launch) (D : va_G) (dA : Nat → ClassId) (z : Nat) (M : Mp) (x0 : Int32) (x1 : Int64) (hv : x0 = 2 → x1.toInt.natAbs < 1099511627776) : CQ l D dA z yX9_fitted cX9_fitted 3 (some .long) [.int x0, .long x1] (rmN 1 40) M (Ql D dA z (fun r M' => M' = M ∧ r = f_fitted x0 x1)) := by
  refine ct_of (cc := cX9_fitted) (maxL := 3) (ret := some .long) (by decide) rfl (by decide) ?_
  intro p e s m below meth c X hml hr hin hlk hw ls hl
  have X : Cx p s m _ c cX9_fitted RX9 lw_tbl D vwCl (aT dA) := X
  obtain ⟨hx, hb, hown, hts, hK⟩ := id X
  have hl : lv_has ls 3 [(0, .int x0), (1, .long x1)] := hl
  refine lv_iload_n hx hb dX9_fitted_0 rfl (lv_at hl 0 rfl) ?_
  refine lv_iconst (v := 2) hx hb dX9_fitted_1 (by decide) ?_
  refine lv_icmp_ne (tgt := 10) hx hb dX9_fitted_2 (by decide) (fun c_2 => ?_) (fun c_2 => ?_)
  · refine lv_iload_n hx hb dX9_fitted_10 rfl (lv_at hl 0 rfl) ?_
    refine lv_iconst (v := 3) hx hb dX9_fitted_11 (by decide) ?_
    refine lv_icmp_ne (tgt := 27) hx hb dX9_fitted_12 (by decide) (fun c_12 => ?_) (fun c_12 => ?_)
    · refine lv_iload_n hx hb dX9_fitted_27 rfl (lv_at hl 0 rfl) ?_
      refine lv_if_ne (tgt := 42) hx hb dX9_fitted_28 (by decide) (fun c_28 => ?_) (fun c_28 => ?_)
      · refine lv_iload_n hx hb dX9_fitted_42 rfl (lv_at hl 0 rfl) ?_
        refine lv_iconst (v := 1) hx hb dX9_fitted_43 (by decide) ?_
        refine lv_icmp_ne (tgt := 58) hx hb dX9_fitted_44 (by decide) (fun c_44 => ?_) (fun c_44 => ?_)
        · refine lv_lload_n hx hb dX9_fitted_58 rfl (lv_at hl 1 rfl) ?_
          refine lv_ldc2 (v := 256) hx hb hown (hts _ tb_402) dX9_fitted_59 ?_
          refine lv_iconst (v := 1) hx hb dX9_fitted_62 (by decide) ?_
          refine h_calll (h_runS (rest := []) X hml tb_401 tb_10 tb_399 tb_400 (by decide +kernel) (by decide +kernel) (c_X9_lowest l D dA z M x1 256 1 (by decide)) ⟨(Nat.le_of_ble_eq_true rfl), (Nat.le_of_ble_eq_true rfl)⟩ hw rfl hl.1 rfl (lv_room (Nat.le_of_ble_eq_true rfl)) dX9_fitted_63 ⟨(Nat.le_of_ble_eq_true rfl), (Nat.le_of_ble_eq_true rfl)⟩) hw (fun r_63 M_63 H locs hp hw => ?_)
          obtain ⟨rfl, rfl⟩ := hp
          exact h_lret X hr hlk (Nat.le_of_ble_eq_true rfl) (Nat.le_of_ble_eq_true rfl) hw ⟨rfl, by simp only [f_fitted, c_2, c_12, c_28, c_44, not_false_eq_true, not_true_eq_false, if_true, if_false, ↓reduceIte]⟩ dX9_fitted_66
        · refine lv_lload_n hx hb dX9_fitted_47 rfl (lv_at hl 1 rfl) ?_
          refine lv_ldc2 (v := 65536) hx hb hown (hts _ tb_398) dX9_fitted_48 ?_
          refine lv_iconst (v := 1) hx hb dX9_fitted_51 (by decide) ?_
          refine h_calll (h_runS (rest := []) X hml tb_401 tb_10 tb_399 tb_400 (by decide +kernel) (by decide +kernel) (c_X9_lowest l D dA z M x1 65536 1 (by decide)) ⟨(Nat.le_of_ble_eq_true rfl), (Nat.le_of_ble_eq_true rfl)⟩ hw rfl hl.1 rfl (lv_room (Nat.le_of_ble_eq_true rfl)) dX9_fitted_52 ⟨(Nat.le_of_ble_eq_true rfl), (Nat.le_of_ble_eq_true rfl)⟩) hw (fun r_52 M_52 H locs hp hw => ?_)
          obtain ⟨rfl, rfl⟩ := hp
          refine lv_goto (tgt := 66) hx hb dX9_fitted_55 (by decide) ?_
          exact h_lret X hr hlk (Nat.le_of_ble_eq_true rfl) (Nat.le_of_ble_eq_true rfl) hw ⟨rfl, by simp only [f_fitted, c_2, c_12, c_28, c_44, not_false_eq_true, not_true_eq_false, if_true, if_false, ↓reduceIte]⟩ dX9_fitted_66
      · refine lv_lload_n hx hb dX9_fitted_31 rfl (lv_at hl 1 rfl) ?_
        refine lv_ldc2 (v := 65536) hx hb hown (hts _ tb_398) dX9_fitted_32 ?_
        refine lv_iconst (v := 0) hx hb dX9_fitted_35 (by decide) ?_
        refine h_calll (h_runS (rest := []) X hml tb_401 tb_10 tb_399 tb_400 (by decide +kernel) (by decide +kernel) (c_X9_lowest l D dA z M x1 65536 0 (by decide)) ⟨(Nat.le_of_ble_eq_true rfl), (Nat.le_of_ble_eq_true rfl)⟩ hw rfl hl.1 rfl (lv_room (Nat.le_of_ble_eq_true rfl)) dX9_fitted_36 ⟨(Nat.le_of_ble_eq_true rfl), (Nat.le_of_ble_eq_true rfl)⟩) hw (fun r_36 M_36 H locs hp hw => ?_)
        obtain ⟨rfl, rfl⟩ := hp
        refine lv_goto (tgt := 66) hx hb dX9_fitted_39 (by decide) ?_
        exact h_lret X hr hlk (Nat.le_of_ble_eq_true rfl) (Nat.le_of_ble_eq_true rfl) hw ⟨rfl, by simp only [f_fitted, c_2, c_12, c_28, not_false_eq_true, not_true_eq_false, if_true, if_false, ↓reduceIte]⟩ dX9_fitted_66
    · refine lv_lload_n hx hb dX9_fitted_15 rfl (lv_at hl 1 rfl) ?_
      refine lv_lconst (v := 0) hx hb dX9_fitted_16 (by decide) ?_
      refine W.lcmp hx hb dX9_fitted_17 ?_
      refine lv_if_eq (tgt := 25) hx hb dX9_fitted_18 (by decide) (fun c_18 => ?_) (fun c_18 => ?_)
      · have c_18 := (lg_cmp_eq _ _).mp c_18
        refine lv_lconst (v := 0) hx hb dX9_fitted_25 (by decide) ?_
        exact h_lret X hr hlk (Nat.le_of_ble_eq_true rfl) (Nat.le_of_ble_eq_true rfl) hw ⟨rfl, by simp only [f_fitted, c_2, c_12, c_18, not_false_eq_true, not_true_eq_false, if_true, if_false, ↓reduceIte]⟩ dX9_fitted_26
      · have c_18 := (not_congr (lg_cmp_eq _ _)).mp c_18
        refine lv_lconst (v := 1) hx hb dX9_fitted_21 (by decide) ?_
        refine lv_goto (tgt := 26) hx hb dX9_fitted_22 (by decide) ?_
        exact h_lret X hr hlk (Nat.le_of_ble_eq_true rfl) (Nat.le_of_ble_eq_true rfl) hw ⟨rfl, by simp only [f_fitted, c_2, c_12, c_18, not_false_eq_true, not_true_eq_false, if_true, if_false, ↓reduceIte]⟩ dX9_fitted_26
  · refine lv_lload_n hx hb dX9_fitted_5 rfl (lv_at hl 1 rfl) ?_
    refine h_calll (h_runS (rest := []) X hml tb_395 tb_10 tb_393 tb_394 (by decide +kernel) (by decide +kernel) (c_X9_rounded l D dA z M x1 (hv c_2)) ⟨(Nat.le_of_ble_eq_true rfl), (Nat.le_of_ble_eq_true rfl)⟩ hw rfl hl.1 rfl (lv_room (Nat.le_of_ble_eq_true rfl)) dX9_fitted_6 ⟨(Nat.le_of_ble_eq_true rfl), (Nat.le_of_ble_eq_true rfl)⟩) hw (fun r_6 M_6 H locs hp hw => ?_)
    obtain ⟨rfl, rfl⟩ := hp
    exact h_lret X hr hlk (Nat.le_of_ble_eq_true rfl) (Nat.le_of_ble_eq_true rfl) hw ⟨rfl, by simp only [f_fitted, c_2, not_false_eq_true, not_true_eq_false, if_true, if_false, ↓reduceIte]⟩ dX9_fitted_9
set_option maxHeartbeats 4000000 in
set_option maxRecDepth 100000 in
theorem c_X9_raised (l : Launch) (D : va_G) (dA : Nat → ClassId) (z : Nat) (M : Mp) (x0 : Int32) (x1 x3 : Int64) (h1 : x1.toInt.natAbs ≤ 2147483648) (h3 : x3.toInt.natAbs ≤ 2147483648) : CQ l D dA z yX9_raised cX9_raised 5 (some .long) [.int x0, .long x1, .long x3] (rmN 2 80) M (Ql D dA z (fun r M' => M' = M ∧ r = f_raised x0 x1 x3)) := by
  refine ct_of (cc := cX9_raised) (maxL := 5) (ret := some .long) (by decide) rfl (by decide) ?_
  intro p e s m below meth c X hml hr hin hlk hw ls hl
  have X : Cx p s m _ c cX9_raised RX9 lw_tbl D vwCl (aT dA) := X
  obtain ⟨hx, hb, hown, hts, hK⟩ := id X
  have hl : lv_has ls 5 [(0, .int x0), (1, .long x1), (3, .long x3)] := hl
  refine lv_iload_n hx hb dX9_raised_0 rfl (lv_at hl 0 rfl) ?_
  refine lv_iconst (v := 2) hx hb dX9_raised_1 (by decide) ?_
  refine lv_icmp_ne (tgt := 18) hx hb dX9_raised_2 (by decide) (fun c_2 => ?_) (fun c_2 => ?_)
  · refine lv_iload_n hx hb dX9_raised_18 rfl (lv_at hl 0 rfl) ?_
    refine lv_iconst (v := 3) hx hb dX9_raised_19 (by decide) ?_
    refine lv_icmp_ne (tgt := 41) hx hb dX9_raised_20 (by decide) (fun c_20 => ?_) (fun c_20 => ?_)
    · refine lv_iload_n hx hb dX9_raised_41 rfl (lv_at hl 0 rfl) ?_
      refine lv_lload_n hx hb dX9_raised_42 rfl (lv_at hl 1 rfl) ?_
      refine lv_lload_n hx hb dX9_raised_43 rfl (lv_at hl 2 rfl) ?_
      refine lv_ladd hx hb dX9_raised_44 ?_
      refine h_calll (h_runS (rest := []) X hml tb_392 tb_10 tb_390 tb_391 (by decide +kernel) (by decide +kernel) (c_X9_fitted l D dA z M x0 (x1 + x3) (fun q => absurd q c_2)) ⟨(Nat.le_of_ble_eq_true rfl), (Nat.le_of_ble_eq_true rfl)⟩ hw rfl hl.1 rfl (lv_room (Nat.le_of_ble_eq_true rfl)) dX9_raised_45 ⟨(Nat.le_of_ble_eq_true rfl), (Nat.le_of_ble_eq_true rfl)⟩) hw (fun r_45 M_45 H locs hp hw => ?_)
      obtain ⟨rfl, rfl⟩ := hp
      exact h_lret X hr hlk (Nat.le_of_ble_eq_true rfl) (Nat.le_of_ble_eq_true rfl) hw ⟨rfl, by simp only [f_raised, c_2, c_20, not_false_eq_true, not_true_eq_false, if_true, if_false, ↓reduceIte]⟩ dX9_raised_48
    · refine lv_lload_n hx hb dX9_raised_23 rfl (lv_at hl 2 rfl) ?_
      refine lv_ldc2 (v := 2) hx hb hown (hts _ tb_397) dX9_raised_24 ?_
      refine lv_lrem hx hb dX9_raised_27 (by decide) ?_
      refine lv_lconst (v := 0) hx hb dX9_raised_28 (by decide) ?_
      refine W.lcmp hx hb dX9_raised_29 ?_
      refine lv_if_eq (tgt := 39) hx hb dX9_raised_30 (by decide) (fun c_30 => ?_) (fun c_30 => ?_)
      · have c_30 := (lg_cmp_eq _ _).mp c_30
        refine lv_lload_n hx hb dX9_raised_39 rfl (lv_at hl 1 rfl) ?_
        exact h_lret X hr hlk (Nat.le_of_ble_eq_true rfl) (Nat.le_of_ble_eq_true rfl) hw ⟨rfl, by simp only [f_raised, c_2, c_20, c_30, not_false_eq_true, not_true_eq_false, if_true, if_false, ↓reduceIte]⟩ dX9_raised_40
      · have c_30 := (not_congr (lg_cmp_eq _ _)).mp c_30
        refine lv_lconst (v := 1) hx hb dX9_raised_33 (by decide) ?_
        refine lv_lload_n hx hb dX9_raised_34 rfl (lv_at hl 1 rfl) ?_
        refine lv_lsub hx hb dX9_raised_35 ?_
        refine lv_goto (tgt := 40) hx hb dX9_raised_36 (by decide) ?_
        exact h_lret X hr hlk (Nat.le_of_ble_eq_true rfl) (Nat.le_of_ble_eq_true rfl) hw ⟨rfl, by simp only [f_raised, c_2, c_20, c_30, not_false_eq_true, not_true_eq_false, if_true, if_false, ↓reduceIte]⟩ dX9_raised_40
  · refine lv_lload_n hx hb dX9_raised_5 rfl (lv_at hl 1 rfl) ?_
    refine lv_lload_n hx hb dX9_raised_6 rfl (lv_at hl 2 rfl) ?_
    refine h_calll (h_runS (rest := [.long x1]) X hml tb_395 tb_10 tb_393 tb_394 (by decide +kernel) (by decide +kernel) (c_X9_rounded l D dA z M x3 (by omega)) ⟨(Nat.le_of_ble_eq_true rfl), (Nat.le_of_ble_eq_true rfl)⟩ hw rfl hl.1 rfl (lv_room (Nat.le_of_ble_eq_true rfl)) dX9_raised_7 ⟨(Nat.le_of_ble_eq_true rfl), (Nat.le_of_ble_eq_true rfl)⟩) hw (fun r_7 M_7 H locs hp hw => ?_)
    obtain ⟨rfl, rfl⟩ := hp
    refine lv_ladd hx hb dX9_raised_10 ?_
    refine h_calll (h_runS (rest := []) X hml tb_395 tb_10 tb_393 tb_394 (by decide +kernel) (by decide +kernel) (c_X9_rounded l D dA z M (x1 + f_rounded x3) (sum_small h1 (rounded_abs h3))) ⟨(Nat.le_of_ble_eq_true rfl), (Nat.le_of_ble_eq_true rfl)⟩ hw rfl hl.1 rfl (lv_room (Nat.le_of_ble_eq_true rfl)) dX9_raised_11 ⟨(Nat.le_of_ble_eq_true rfl), (Nat.le_of_ble_eq_true rfl)⟩) hw (fun r_11 M_11 H locs hp hw => ?_)
    obtain ⟨rfl, rfl⟩ := hp
    refine h_calll (h_runS (rest := []) X hml tb_412 tb_10 tb_410 tb_411 (by decide +kernel) (by decide +kernel) (c_X9_bounded l D dA z M (f_rounded (x1 + f_rounded x3))) ⟨(Nat.le_of_ble_eq_true rfl), (Nat.le_of_ble_eq_true rfl)⟩ hw rfl hl.1 rfl (lv_room (Nat.le_of_ble_eq_true rfl)) dX9_raised_14 ⟨(Nat.le_of_ble_eq_true rfl), (Nat.le_of_ble_eq_true rfl)⟩) hw (fun r_14 M_14 H locs hp hw => ?_)
    obtain ⟨rfl, rfl⟩ := hp
    exact h_lret X hr hlk (Nat.le_of_ble_eq_true rfl) (Nat.le_of_ble_eq_true rfl) hw ⟨rfl, by simp only [f_raised, c_2, not_false_eq_true, not_true_eq_false, if_true, if_false, ↓reduceIte]⟩ dX9_raised_17
set_option maxHeartbeats 4000000 in
set_option maxRecDepth 100000 in
theorem c_X9_multiplied (l : Launch) (D : va_G) (dA : Nat → ClassId) (z : Nat) (M : Mp) (x0 : Int32) (x1 x3 : Int64) (h3 : x3.toInt.natAbs ≤ 2147483648) : CQ l D dA z yX9_multiplied cX9_multiplied 5 (some .long) [.int x0, .long x1, .long x3] (rmN 2 80) M (Ql D dA z (fun r M' => M' = M ∧ r = f_multiplied x0 x1 x3)) := by
  refine ct_of (cc := cX9_multiplied) (maxL := 5) (ret := some .long) (by decide) rfl (by decide) ?_
  intro p e s m below meth c X hml hr hin hlk hw ls hl
  have X : Cx p s m _ c cX9_multiplied RX9 lw_tbl D vwCl (aT dA) := X
  obtain ⟨hx, hb, hown, hts, hK⟩ := id X
  have hl : lv_has ls 5 [(0, .int x0), (1, .long x1), (3, .long x3)] := hl
  refine lv_iload_n hx hb dX9_multiplied_0 rfl (lv_at hl 0 rfl) ?_
  refine lv_iconst (v := 2) hx hb dX9_multiplied_1 (by decide) ?_
  refine lv_icmp_ne (tgt := 15) hx hb dX9_multiplied_2 (by decide) (fun c_2 => ?_) (fun c_2 => ?_)
  · refine lv_iload_n hx hb dX9_multiplied_15 rfl (lv_at hl 0 rfl) ?_
    refine lv_iconst (v := 3) hx hb dX9_multiplied_16 (by decide) ?_
    refine lv_icmp_ne (tgt := 32) hx hb dX9_multiplied_17 (by decide) (fun c_17 => ?_) (fun c_17 => ?_)
    · refine lv_iload_n hx hb dX9_multiplied_32 rfl (lv_at hl 0 rfl) ?_
      refine lv_lload_n hx hb dX9_multiplied_33 rfl (lv_at hl 1 rfl) ?_
      refine lv_lload_n hx hb dX9_multiplied_34 rfl (lv_at hl 2 rfl) ?_
      refine lv_lmul hx hb dX9_multiplied_35 ?_
      refine h_calll (h_runS (rest := []) X hml tb_392 tb_10 tb_390 tb_391 (by decide +kernel) (by decide +kernel) (c_X9_fitted l D dA z M x0 (x1 * x3) (fun q => absurd q c_2)) ⟨(Nat.le_of_ble_eq_true rfl), (Nat.le_of_ble_eq_true rfl)⟩ hw rfl hl.1 rfl (lv_room (Nat.le_of_ble_eq_true rfl)) dX9_multiplied_36 ⟨(Nat.le_of_ble_eq_true rfl), (Nat.le_of_ble_eq_true rfl)⟩) hw (fun r_36 M_36 H locs hp hw => ?_)
      obtain ⟨rfl, rfl⟩ := hp
      exact h_lret X hr hlk (Nat.le_of_ble_eq_true rfl) (Nat.le_of_ble_eq_true rfl) hw ⟨rfl, by simp only [f_multiplied, c_2, c_17, not_false_eq_true, not_true_eq_false, if_true, if_false, ↓reduceIte]⟩ dX9_multiplied_39
    · refine lv_lload_n hx hb dX9_multiplied_20 rfl (lv_at hl 2 rfl) ?_
      refine lv_lconst (v := 0) hx hb dX9_multiplied_21 (by decide) ?_
      refine W.lcmp hx hb dX9_multiplied_22 ?_
      refine lv_if_ne (tgt := 30) hx hb dX9_multiplied_23 (by decide) (fun c_23 => ?_) (fun c_23 => ?_)
      · have c_23 := (not_congr (lg_cmp_eq _ _)).mp c_23
        refine lv_lload_n hx hb dX9_multiplied_30 rfl (lv_at hl 1 rfl) ?_
        exact h_lret X hr hlk (Nat.le_of_ble_eq_true rfl) (Nat.le_of_ble_eq_true rfl) hw ⟨rfl, by simp only [f_multiplied, c_2, c_17, c_23, not_false_eq_true, not_true_eq_false, if_true, if_false, ↓reduceIte]⟩ dX9_multiplied_31
      · have c_23 := (lg_cmp_eq _ _).mp c_23
        refine lv_lconst (v := 0) hx hb dX9_multiplied_26 (by decide) ?_
        refine lv_goto (tgt := 31) hx hb dX9_multiplied_27 (by decide) ?_
        exact h_lret X hr hlk (Nat.le_of_ble_eq_true rfl) (Nat.le_of_ble_eq_true rfl) hw ⟨rfl, by simp only [f_multiplied, c_2, c_17, c_23, not_false_eq_true, not_true_eq_false, if_true, if_false, ↓reduceIte]⟩ dX9_multiplied_31
  · refine lv_lload_n hx hb dX9_multiplied_5 rfl (lv_at hl 1 rfl) ?_
    refine lv_lload_n hx hb dX9_multiplied_6 rfl (lv_at hl 2 rfl) ?_
    refine h_calll (h_runS (rest := [.long x1]) X hml tb_395 tb_10 tb_393 tb_394 (by decide +kernel) (by decide +kernel) (c_X9_rounded l D dA z M x3 (by omega)) ⟨(Nat.le_of_ble_eq_true rfl), (Nat.le_of_ble_eq_true rfl)⟩ hw rfl hl.1 rfl (lv_room (Nat.le_of_ble_eq_true rfl)) dX9_multiplied_7 ⟨(Nat.le_of_ble_eq_true rfl), (Nat.le_of_ble_eq_true rfl)⟩) hw (fun r_7 M_7 H locs hp hw => ?_)
    obtain ⟨rfl, rfl⟩ := hp
    refine lv_lmul hx hb dX9_multiplied_10 ?_
    refine h_calll (h_runS (rest := []) X hml tb_412 tb_10 tb_410 tb_411 (by decide +kernel) (by decide +kernel) (c_X9_bounded l D dA z M (x1 * f_rounded x3)) ⟨(Nat.le_of_ble_eq_true rfl), (Nat.le_of_ble_eq_true rfl)⟩ hw rfl hl.1 rfl (lv_room (Nat.le_of_ble_eq_true rfl)) dX9_multiplied_11 ⟨(Nat.le_of_ble_eq_true rfl), (Nat.le_of_ble_eq_true rfl)⟩) hw (fun r_11 M_11 H locs hp hw => ?_)
    obtain ⟨rfl, rfl⟩ := hp
    exact h_lret X hr hlk (Nat.le_of_ble_eq_true rfl) (Nat.le_of_ble_eq_true rfl) hw ⟨rfl, by simp only [f_multiplied, c_2, not_false_eq_true, not_true_eq_false, if_true, if_false, ↓reduceIte]⟩ dX9_multiplied_14
end
section
set_option maxHeartbeats 4000000 in
set_option maxRecDepth 100000 in
theorem c_X9_lacks (l : Launch) (D : va_G) (dA : Nat → ClassId) (z : Nat) (M : Mp) (md : Nat → Nat) (C : Nat → Int64) (S P T : Nat → Int32) (b w v o : Int32) (x1 : Int32) (x2 : Int32) (hM : MR dA M md (C, S, P, T, b, w, v, o)) : CQ l D dA z yX9_lacks cX9_lacks 3 (some .int) [.ref (md 0), .int x1, .int x2] (rmN 1 20) M (Qi D dA z (fun r M' => M' = M ∧ r = f_lacks S x1 x2)) := by
  refine ct_of (cc := cX9_lacks) (maxL := 3) (ret := some .int) (by decide) rfl (by decide) ?_
  intro p e s m below meth c X hml hr hin hlk hw ls hl
  have X : Cx p s m _ c cX9_lacks RX9 lw_tbl D vwCl (aT dA) := X
  obtain ⟨hx, hb, hown, hts, hK⟩ := id X
  have hl : lv_has ls 3 [(0, .ref (md 0)), (1, .int x1), (2, .int x2)] := hl
  obtain ⟨h0, h1, h2, h3, h4⟩ := id hM
  have hn := hM.ne
  have h0 : M (md 0) = some (.inr (7, [.ref (md 1), .ref (md 2), .ref (md 3), .ref (md 4), .int b, .int w, .int v, .int o])) := h0
  have h1 : M (md 1) = some (.inl (dA 6, 1000, .inr (.inl C))) := h1
  have h2 : M (md 2) = some (.inl (dA 5, 5, .inl S)) := h2
  have h3 : M (md 3) = some (.inl (dA 5, 1600, .inl P)) := h3
  have h4 : M (md 4) = some (.inl (dA 3, 40, .inl T)) := h4
  refine lv_iload_n hx hb dX9_lacks_0 rfl (lv_at hl 1 rfl) ?_
  refine h_calli (h_runS (rest := []) X hml tb_367 tb_10 tb_365 tb_366 (by decide +kernel) (by decide +kernel) (c_X9_isRoll l D dA z M x1) ⟨(Nat.le_of_ble_eq_true rfl), (Nat.le_of_ble_eq_true rfl)⟩ hw rfl hl.1 rfl (lv_room (Nat.le_of_ble_eq_true rfl)) dX9_lacks_1 ⟨(Nat.le_of_ble_eq_true rfl), (Nat.le_of_ble_eq_true rfl)⟩) hw (fun r_1 M_1 H locs hp hw => ?_)
  obtain ⟨rfl, rfl⟩ := hp
  refine lv_if_ne (tgt := 9) hx hb dX9_lacks_4 (by decide) (fun c_4 => ?_) (fun c_4 => ?_)
  · refine lv_aload_n hx hb dX9_lacks_9 rfl (lv_at hl 0 rfl) ?_
    refine h_get X inX9 (rfl : vwCl[7]? = some (RX9, TX9, 8)) 1 (by decide) tb_336 (fun _ h => h) hw h0 rfl dX9_lacks_10 ?_
    refine lv_iload_n hx hb dX9_lacks_13 rfl (lv_at hl 1 rfl) ?_
    refine h_iald X 5 rfl hw h2 (isRoll_in c_4) dX9_lacks_14 ?_
    refine lv_if_ge (tgt := 20) hx hb dX9_lacks_15 (by decide) (fun c_15 => ?_) (fun c_15 => ?_)
    · refine lv_iload_n hx hb dX9_lacks_20 rfl (lv_at hl 2 rfl) ?_
      refine lv_if_lt (tgt := 34) hx hb dX9_lacks_21 (by decide) (fun c_21 => ?_) (fun c_21 => ?_)
      · refine lv_iconst (v := 3) hx hb dX9_lacks_34 (by decide) ?_
        refine lv_goto (tgt := 39) hx hb dX9_lacks_35 (by decide) ?_
        exact h_iret X hr hlk (Nat.le_of_ble_eq_true rfl) (Nat.le_of_ble_eq_true rfl) hw ⟨rfl, by simp only [f_lacks, c_4, c_15, c_21, not_false_eq_true, not_true_eq_false, if_true, if_false, ↓reduceIte]⟩ dX9_lacks_39
      · refine lv_iload_n hx hb dX9_lacks_24 rfl (lv_at hl 2 rfl) ?_
        refine lv_aload_n hx hb dX9_lacks_25 rfl (lv_at hl 0 rfl) ?_
        refine h_get X inX9 (rfl : vwCl[7]? = some (RX9, TX9, 8)) 1 (by decide) tb_336 (fun _ h => h) hw h0 rfl dX9_lacks_26 ?_
        refine lv_iload_n hx hb dX9_lacks_29 rfl (lv_at hl 1 rfl) ?_
        refine h_iald X 5 rfl hw h2 (isRoll_in c_4) dX9_lacks_30 ?_
        refine lv_icmp_lt (tgt := 38) hx hb dX9_lacks_31 (by decide) (fun c_31 => ?_) (fun c_31 => ?_)
        · refine lv_iconst (v := 0) hx hb dX9_lacks_38 (by decide) ?_
          exact h_iret X hr hlk (Nat.le_of_ble_eq_true rfl) (Nat.le_of_ble_eq_true rfl) hw ⟨rfl, by simp only [f_lacks, c_4, c_15, c_21, c_31, not_false_eq_true, not_true_eq_false, if_true, if_false, ↓reduceIte]⟩ dX9_lacks_39
        · refine lv_iconst (v := 3) hx hb dX9_lacks_34 (by decide) ?_
          refine lv_goto (tgt := 39) hx hb dX9_lacks_35 (by decide) ?_
          exact h_iret X hr hlk (Nat.le_of_ble_eq_true rfl) (Nat.le_of_ble_eq_true rfl) hw ⟨rfl, by simp only [f_lacks, c_4, c_15, c_21, c_31, not_false_eq_true, not_true_eq_false, if_true, if_false, ↓reduceIte]⟩ dX9_lacks_39
    · refine lv_iconst (v := 2) hx hb dX9_lacks_18 (by decide) ?_
      exact h_iret X hr hlk (Nat.le_of_ble_eq_true rfl) (Nat.le_of_ble_eq_true rfl) hw ⟨rfl, by simp only [f_lacks, c_4, c_15, not_false_eq_true, not_true_eq_false, if_true, if_false, ↓reduceIte]⟩ dX9_lacks_19
  · refine lv_iconst (v := 1) hx hb dX9_lacks_7 (by decide) ?_
    exact h_iret X hr hlk (Nat.le_of_ble_eq_true rfl) (Nat.le_of_ble_eq_true rfl) hw ⟨rfl, by simp only [f_lacks, c_4, not_false_eq_true, not_true_eq_false, if_true, if_false, ↓reduceIte]⟩ dX9_lacks_8
set_option maxHeartbeats 4000000 in
set_option maxRecDepth 100000 in
theorem c_X9_tells (l : Launch) (D : va_G) (dA : Nat → ClassId) (z : Nat) (M : Mp) (md : Nat → Nat) (C : Nat → Int64) (S P T : Nat → Int32) (b w v o : Int32) (x1 : Int32) (x2 : Int32) (x3 : Int64) (hM : MR dA M md (C, S, P, T, b, w, v, o)) (hi : vp_in (200 * x1 + x2) 1000) : CQ l D dA z yX9_tells cX9_tells 5 (some .int) [.ref (md 0), .int x1, .int x2, .long x3] (rmN 0 0) M (Qi D dA z (fun r M' => r = 0 ∧ MR dA M' md (s_tells (C, S, P, T, b, w, v, o) x1 x2 x3) ∧ Same md 5 M M')) := by
  refine ct_of (cc := cX9_tells) (maxL := 5) (ret := some .int) (by decide) rfl (by decide) ?_
  intro p e s m below meth c X hml hr hin hlk hw ls hl
  have X : Cx p s m _ c cX9_tells RX9 lw_tbl D vwCl (aT dA) := X
  obtain ⟨hx, hb, hown, hts, hK⟩ := id X
  have hl : lv_has ls 5 [(0, .ref (md 0)), (1, .int x1), (2, .int x2), (3, .long x3)] := hl
  obtain ⟨h0, h1, h2, h3, h4⟩ := id hM
  have hn := hM.ne
  have h0 : M (md 0) = some (.inr (7, [.ref (md 1), .ref (md 2), .ref (md 3), .ref (md 4), .int b, .int w, .int v, .int o])) := h0
  have h1 : M (md 1) = some (.inl (dA 6, 1000, .inr (.inl C))) := h1
  have h2 : M (md 2) = some (.inl (dA 5, 5, .inl S)) := h2
  have h3 : M (md 3) = some (.inl (dA 5, 1600, .inl P)) := h3
  have h4 : M (md 4) = some (.inl (dA 3, 40, .inl T)) := h4
  refine lv_aload_n hx hb dX9_tells_0 rfl (lv_at hl 0 rfl) ?_
  refine h_get X inX9 (rfl : vwCl[7]? = some (RX9, TX9, 8)) 0 (by decide) tb_335 (fun _ h => h) hw h0 rfl dX9_tells_1 ?_
  refine lv_sipush (v := 200) hx hb dX9_tells_4 (by decide) ?_
  refine lv_iload_n hx hb dX9_tells_7 rfl (lv_at hl 1 rfl) ?_
  refine lv_imul hx hb dX9_tells_8 ?_
  refine lv_iload_n hx hb dX9_tells_9 rfl (lv_at hl 2 rfl) ?_
  refine lv_iadd hx hb dX9_tells_10 ?_
  refine lv_lload_n hx hb dX9_tells_11 rfl (lv_at hl 3 rfl) ?_
  refine h_last X 6 rfl hw h1 hi dX9_tells_12 (fun H locs hw => ?_)
  have hw : wd D vwCl z (mU M (md 1) (.inl (dA 6, 1000, .inr (.inl (vp_updL C ((200 * x1) + x2).toNatClampNeg x3))))) s.heap H locs := hw
  have hk2 := (mU_n (M) (.inl (dA 6, 1000, .inr (.inl (vp_updL C ((200 * x1) + x2).toNatClampNeg x3)))) (hn 0 1 (by decide) (by decide) (by decide))).trans h0
  have hk3 := (mU_n (M) (.inl (dA 6, 1000, .inr (.inl (vp_updL C ((200 * x1) + x2).toNatClampNeg x3)))) (hn 2 1 (by decide) (by decide) (by decide))).trans h2
  have hk4 := (mU_n (M) (.inl (dA 6, 1000, .inr (.inl (vp_updL C ((200 * x1) + x2).toNatClampNeg x3)))) (hn 3 1 (by decide) (by decide) (by decide))).trans h3
  have hk5 := (mU_n (M) (.inl (dA 6, 1000, .inr (.inl (vp_updL C ((200 * x1) + x2).toNatClampNeg x3)))) (hn 4 1 (by decide) (by decide) (by decide))).trans h4
  have hk6 := mU_s (M) (md 1) (.inl (dA 6, 1000, .inr (.inl (vp_updL C ((200 * x1) + x2).toNatClampNeg x3))))
  refine lv_aload_n hx hb dX9_tells_13 rfl (lv_at hl 0 rfl) ?_
  refine lv_lload_n hx hb dX9_tells_14 rfl (lv_at hl 3 rfl) ?_
  refine lv_ldc2 (v := 2147483647) hx hb hown (hts _ tb_384) dX9_tells_15 ?_
  refine W.lcmp hx hb dX9_tells_18 ?_
  refine lv_if_le (tgt := 27) hx hb dX9_tells_19 (by decide) (fun c_19 => ?_) (fun c_19 => ?_)
  · have c_19 := (lg_cmp_le _ _).mp c_19
    refine lv_lload_n hx hb dX9_tells_27 rfl (lv_at hl 3 rfl) ?_
    refine lv_l2i hx hb dX9_tells_28 rfl ?_
    refine h_put X inX9 (rfl : vwCl[7]? = some (RX9, TX9, 8)) tyX9 tyX9_ok nmX9 7 (by decide) tb_342 (fun _ h => h) rfl hw hk2 (ty := .int) (by decide +kernel) rfl rfl (Nat.le_of_ble_eq_true rfl) dX9_tells_29 (fun H locs hw => ?_)
    have hw : wd D vwCl z (mU (mU M (md 1) (.inl (dA 6, 1000, .inr (.inl (vp_updL C ((200 * x1) + x2).toNatClampNeg x3))))) (md 0) (.inr (7, [.ref (md 1), .ref (md 2), .ref (md 3), .ref (md 4), .int b, .int w, .int v, .int (x3.toInt32)]))) s.heap H locs := hw
    have hk8 := (mU_n (mU M (md 1) (.inl (dA 6, 1000, .inr (.inl (vp_updL C ((200 * x1) + x2).toNatClampNeg x3))))) (.inr (7, [.ref (md 1), .ref (md 2), .ref (md 3), .ref (md 4), .int b, .int w, .int v, .int (x3.toInt32)])) (hn 2 0 (by decide) (by decide) (by decide))).trans hk3
    have hk9 := (mU_n (mU M (md 1) (.inl (dA 6, 1000, .inr (.inl (vp_updL C ((200 * x1) + x2).toNatClampNeg x3))))) (.inr (7, [.ref (md 1), .ref (md 2), .ref (md 3), .ref (md 4), .int b, .int w, .int v, .int (x3.toInt32)])) (hn 3 0 (by decide) (by decide) (by decide))).trans hk4
    have hk10 := (mU_n (mU M (md 1) (.inl (dA 6, 1000, .inr (.inl (vp_updL C ((200 * x1) + x2).toNatClampNeg x3))))) (.inr (7, [.ref (md 1), .ref (md 2), .ref (md 3), .ref (md 4), .int b, .int w, .int v, .int (x3.toInt32)])) (hn 4 0 (by decide) (by decide) (by decide))).trans hk5
    have hk11 := (mU_n (mU M (md 1) (.inl (dA 6, 1000, .inr (.inl (vp_updL C ((200 * x1) + x2).toNatClampNeg x3))))) (.inr (7, [.ref (md 1), .ref (md 2), .ref (md 3), .ref (md 4), .int b, .int w, .int v, .int (x3.toInt32)])) (hn 1 0 (by decide) (by decide) (by decide))).trans hk6
    have hk12 := mU_s (mU M (md 1) (.inl (dA 6, 1000, .inr (.inl (vp_updL C ((200 * x1) + x2).toNatClampNeg x3))))) (md 0) (.inr (7, [.ref (md 1), .ref (md 2), .ref (md 3), .ref (md 4), .int b, .int w, .int v, .int (x3.toInt32)]))
    refine lv_iconst (v := 0) hx hb dX9_tells_32 (by decide) ?_
    have e9 : s_tells (C, S, P, T, b, w, v, o) x1 x2 x3 = ((vp_updL C ((200 * x1) + x2).toNatClampNeg x3), S, P, T, b, w, v, x3.toInt32) := by simp only [s_tells, f_at, f_cap, c_19, not_false_eq_true, not_true_eq_false, if_true, if_false, ↓reduceIte]
    exact h_iret X hr hlk (Nat.le_of_ble_eq_true rfl) (Nat.le_of_ble_eq_true rfl) hw (by rw [e9]; exact ⟨rfl, ⟨hk12, hk11, hk8, hk9, hk10⟩, (Same.put (Same.put Same.rf (show 1 < 5 by decide)) (show 0 < 5 by decide))⟩) dX9_tells_33
  · have c_19 := (not_congr (lg_cmp_le _ _)).mp c_19
    refine lv_ldc (v := 2147483647) hx hb hown (hts _ tb_385) dX9_tells_22 ?_
    refine lv_goto (tgt := 29) hx hb dX9_tells_24 (by decide) ?_
    refine h_put X inX9 (rfl : vwCl[7]? = some (RX9, TX9, 8)) tyX9 tyX9_ok nmX9 7 (by decide) tb_342 (fun _ h => h) rfl hw hk2 (ty := .int) (by decide +kernel) rfl rfl (Nat.le_of_ble_eq_true rfl) dX9_tells_29 (fun H locs hw => ?_)
    have hw : wd D vwCl z (mU (mU M (md 1) (.inl (dA 6, 1000, .inr (.inl (vp_updL C ((200 * x1) + x2).toNatClampNeg x3))))) (md 0) (.inr (7, [.ref (md 1), .ref (md 2), .ref (md 3), .ref (md 4), .int b, .int w, .int v, .int 2147483647]))) s.heap H locs := hw
    have hk14 := (mU_n (mU M (md 1) (.inl (dA 6, 1000, .inr (.inl (vp_updL C ((200 * x1) + x2).toNatClampNeg x3))))) (.inr (7, [.ref (md 1), .ref (md 2), .ref (md 3), .ref (md 4), .int b, .int w, .int v, .int 2147483647])) (hn 2 0 (by decide) (by decide) (by decide))).trans hk3
    have hk15 := (mU_n (mU M (md 1) (.inl (dA 6, 1000, .inr (.inl (vp_updL C ((200 * x1) + x2).toNatClampNeg x3))))) (.inr (7, [.ref (md 1), .ref (md 2), .ref (md 3), .ref (md 4), .int b, .int w, .int v, .int 2147483647])) (hn 3 0 (by decide) (by decide) (by decide))).trans hk4
    have hk16 := (mU_n (mU M (md 1) (.inl (dA 6, 1000, .inr (.inl (vp_updL C ((200 * x1) + x2).toNatClampNeg x3))))) (.inr (7, [.ref (md 1), .ref (md 2), .ref (md 3), .ref (md 4), .int b, .int w, .int v, .int 2147483647])) (hn 4 0 (by decide) (by decide) (by decide))).trans hk5
    have hk17 := (mU_n (mU M (md 1) (.inl (dA 6, 1000, .inr (.inl (vp_updL C ((200 * x1) + x2).toNatClampNeg x3))))) (.inr (7, [.ref (md 1), .ref (md 2), .ref (md 3), .ref (md 4), .int b, .int w, .int v, .int 2147483647])) (hn 1 0 (by decide) (by decide) (by decide))).trans hk6
    have hk18 := mU_s (mU M (md 1) (.inl (dA 6, 1000, .inr (.inl (vp_updL C ((200 * x1) + x2).toNatClampNeg x3))))) (md 0) (.inr (7, [.ref (md 1), .ref (md 2), .ref (md 3), .ref (md 4), .int b, .int w, .int v, .int 2147483647]))
    refine lv_iconst (v := 0) hx hb dX9_tells_32 (by decide) ?_
    have e9 : s_tells (C, S, P, T, b, w, v, o) x1 x2 x3 = ((vp_updL C ((200 * x1) + x2).toNatClampNeg x3), S, P, T, b, w, v, 2147483647) := by simp only [s_tells, f_at, f_cap, c_19, not_false_eq_true, not_true_eq_false, if_true, if_false, ↓reduceIte]
    exact h_iret X hr hlk (Nat.le_of_ble_eq_true rfl) (Nat.le_of_ble_eq_true rfl) hw (by rw [e9]; exact ⟨rfl, ⟨hk18, hk17, hk14, hk15, hk16⟩, (Same.put (Same.put Same.rf (show 1 < 5 by decide)) (show 0 < 5 by decide))⟩) dX9_tells_33
set_option maxHeartbeats 4000000 in
set_option maxRecDepth 100000 in
theorem c_X9_tear (l : Launch) (D : va_G) (dA : Nat → ClassId) (z : Nat) (M : Mp) (md : Nat → Nat) (C : Nat → Int64) (S P T : Nat → Int32) (b w v o : Int32) (x1 : Int32) (hM : MR dA M md (C, S, P, T, b, w, v, o)) : CQ l D dA z yX9_tear cX9_tear 2 (some .int) [.ref (md 0), .int x1] (rmN 1 20) M (Qi D dA z (fun r M' => r = (r_tear (C, S, P, T, b, w, v, o) x1).1 ∧ MR dA M' md (r_tear (C, S, P, T, b, w, v, o) x1).2 ∧ Same md 5 M M')) := by
  refine ct_of (cc := cX9_tear) (maxL := 2) (ret := some .int) (by decide) rfl (by decide) ?_
  intro p e s m below meth c X hml hr hin hlk hw ls hl
  have X : Cx p s m _ c cX9_tear RX9 lw_tbl D vwCl (aT dA) := X
  obtain ⟨hx, hb, hown, hts, hK⟩ := id X
  have hl : lv_has ls 2 [(0, .ref (md 0)), (1, .int x1)] := hl
  obtain ⟨h0, h1, h2, h3, h4⟩ := id hM
  have hn := hM.ne
  have h0 : M (md 0) = some (.inr (7, [.ref (md 1), .ref (md 2), .ref (md 3), .ref (md 4), .int b, .int w, .int v, .int o])) := h0
  have h1 : M (md 1) = some (.inl (dA 6, 1000, .inr (.inl C))) := h1
  have h2 : M (md 2) = some (.inl (dA 5, 5, .inl S)) := h2
  have h3 : M (md 3) = some (.inl (dA 5, 1600, .inl P)) := h3
  have h4 : M (md 4) = some (.inl (dA 3, 40, .inl T)) := h4
  refine lv_iload_n hx hb dX9_tear_0 rfl (lv_at hl 1 rfl) ?_
  refine h_calli (h_runS (rest := []) X hml tb_367 tb_10 tb_365 tb_366 (by decide +kernel) (by decide +kernel) (c_X9_isRoll l D dA z M x1) ⟨(Nat.le_of_ble_eq_true rfl), (Nat.le_of_ble_eq_true rfl)⟩ hw rfl hl.1 rfl (lv_room (Nat.le_of_ble_eq_true rfl)) dX9_tear_1 ⟨(Nat.le_of_ble_eq_true rfl), (Nat.le_of_ble_eq_true rfl)⟩) hw (fun r_1 M_1 H locs hp hw => ?_)
  obtain ⟨rfl, rfl⟩ := hp
  refine lv_if_ne (tgt := 9) hx hb dX9_tear_4 (by decide) (fun c_4 => ?_) (fun c_4 => ?_)
  · refine lv_aload_n hx hb dX9_tear_9 rfl (lv_at hl 0 rfl) ?_
    refine h_get X inX9 (rfl : vwCl[7]? = some (RX9, TX9, 8)) 1 (by decide) tb_336 (fun _ h => h) hw h0 rfl dX9_tear_10 ?_
    refine lv_iload_n hx hb dX9_tear_13 rfl (lv_at hl 1 rfl) ?_
    refine h_iald X 5 rfl hw h2 (isRoll_in c_4) dX9_tear_14 ?_
    refine lv_if_ge (tgt := 20) hx hb dX9_tear_15 (by decide) (fun c_15 => ?_) (fun c_15 => ?_)
    · refine lv_aload_n hx hb dX9_tear_20 rfl (lv_at hl 0 rfl) ?_
      refine h_get X inX9 (rfl : vwCl[7]? = some (RX9, TX9, 8)) 1 (by decide) tb_336 (fun _ h => h) hw h0 rfl dX9_tear_21 ?_
      refine lv_iload_n hx hb dX9_tear_24 rfl (lv_at hl 1 rfl) ?_
      refine lv_iconst (v := -1) hx hb dX9_tear_25 (by decide) ?_
      refine h_iast X 5 rfl hw h2 (isRoll_in c_4) dX9_tear_26 (fun H locs hw => ?_)
      have hw : wd D vwCl z (mU M (md 2) (.inl (dA 5, 5, .inl (upd S x1.toNatClampNeg (-1))))) s.heap H locs := hw
      have hk2 := (mU_n (M) (.inl (dA 5, 5, .inl (upd S x1.toNatClampNeg (-1)))) (hn 0 2 (by decide) (by decide) (by decide))).trans h0
      have hk3 := (mU_n (M) (.inl (dA 5, 5, .inl (upd S x1.toNatClampNeg (-1)))) (hn 1 2 (by decide) (by decide) (by decide))).trans h1
      have hk4 := (mU_n (M) (.inl (dA 5, 5, .inl (upd S x1.toNatClampNeg (-1)))) (hn 3 2 (by decide) (by decide) (by decide))).trans h3
      have hk5 := (mU_n (M) (.inl (dA 5, 5, .inl (upd S x1.toNatClampNeg (-1)))) (hn 4 2 (by decide) (by decide) (by decide))).trans h4
      have hk6 := mU_s (M) (md 2) (.inl (dA 5, 5, .inl (upd S x1.toNatClampNeg (-1))))
      refine lv_iconst (v := 0) hx hb dX9_tear_27 (by decide) ?_
      have e9 : r_tear (C, S, P, T, b, w, v, o) x1 = (0, (C, (upd S x1.toNatClampNeg (-1)), P, T, b, w, v, o)) := by simp only [r_tear, c_4, c_15, not_false_eq_true, not_true_eq_false, if_true, if_false, ↓reduceIte]
      exact h_iret X hr hlk (Nat.le_of_ble_eq_true rfl) (Nat.le_of_ble_eq_true rfl) hw (by rw [e9]; exact ⟨rfl, ⟨hk2, hk3, hk6, hk4, hk5⟩, (Same.put Same.rf (show 2 < 5 by decide))⟩) dX9_tear_28
    · refine lv_iconst (v := 2) hx hb dX9_tear_18 (by decide) ?_
      have e9 : r_tear (C, S, P, T, b, w, v, o) x1 = (2, (C, S, P, T, b, w, v, o)) := by simp only [r_tear, c_4, c_15, not_false_eq_true, not_true_eq_false, if_true, if_false, ↓reduceIte]
      exact h_iret X hr hlk (Nat.le_of_ble_eq_true rfl) (Nat.le_of_ble_eq_true rfl) hw (by rw [e9]; exact ⟨rfl, ⟨h0, h1, h2, h3, h4⟩, Same.rf⟩) dX9_tear_19
  · refine lv_iconst (v := 1) hx hb dX9_tear_7 (by decide) ?_
    have e9 : r_tear (C, S, P, T, b, w, v, o) x1 = (1, (C, S, P, T, b, w, v, o)) := by simp only [r_tear, c_4, not_false_eq_true, not_true_eq_false, if_true, if_false, ↓reduceIte]
    exact h_iret X hr hlk (Nat.le_of_ble_eq_true rfl) (Nat.le_of_ble_eq_true rfl) hw (by rw [e9]; exact ⟨rfl, ⟨h0, h1, h2, h3, h4⟩, Same.rf⟩) dX9_tear_8
set_option maxHeartbeats 4000000 in
set_option maxRecDepth 100000 in
theorem c_X9_read (l : Launch) (D : va_G) (dA : Nat → ClassId) (z : Nat) (M : Mp) (md : Nat → Nat) (C : Nat → Int64) (S P T : Nat → Int32) (b w v o : Int32) (x1 : Int32) (x2 : Int32) (hM : MR dA M md (C, S, P, T, b, w, v, o)) (hO : Ok (C, S, P, T, b, w, v, o)) : CQ l D dA z yX9_read cX9_read 4 (some .int) [.ref (md 0), .int x1, .int x2] (rmN 2 45) M (Qi D dA z (fun r M' => r = (r_read (C, S, P, T, b, w, v, o) x1 x2).1 ∧ MR dA M' md (r_read (C, S, P, T, b, w, v, o) x1 x2).2 ∧ Same md 5 M M')) := by
  refine ct_of (cc := cX9_read) (maxL := 4) (ret := some .int) (by decide) rfl (by decide) ?_
  intro p e s m below meth c X hml hr hin hlk hw ls hl
  have X : Cx p s m _ c cX9_read RX9 lw_tbl D vwCl (aT dA) := X
  obtain ⟨hx, hb, hown, hts, hK⟩ := id X
  have hl : lv_has ls 4 [(0, .ref (md 0)), (1, .int x1), (2, .int x2)] := hl
  obtain ⟨h0, h1, h2, h3, h4⟩ := id hM
  have hn := hM.ne
  have h0 : M (md 0) = some (.inr (7, [.ref (md 1), .ref (md 2), .ref (md 3), .ref (md 4), .int b, .int w, .int v, .int o])) := h0
  have h1 : M (md 1) = some (.inl (dA 6, 1000, .inr (.inl C))) := h1
  have h2 : M (md 2) = some (.inl (dA 5, 5, .inl S)) := h2
  have h3 : M (md 3) = some (.inl (dA 5, 1600, .inl P)) := h3
  have h4 : M (md 4) = some (.inl (dA 3, 40, .inl T)) := h4
  refine lv_aload_n hx hb dX9_read_0 rfl (lv_at hl 0 rfl) ?_
  refine lv_iload_n hx hb dX9_read_1 rfl (lv_at hl 1 rfl) ?_
  refine lv_iload_n hx hb dX9_read_2 rfl (lv_at hl 2 rfl) ?_
  refine h_calli (h_runV (rest := []) X hml tb_379 tb_10 tb_376 tb_378 tp_lacks9 (by decide +kernel) (by decide +kernel) (c_X9_lacks l D dA z M md C S P T b w v o x1 x2 hM) ⟨(Nat.le_of_ble_eq_true rfl), (Nat.le_of_ble_eq_true rfl)⟩ hw (rfl : vwCl[7]? = some (RX9, TX9, 8)) rfl h0 rfl hl.1 rfl (lv_room (Nat.le_of_ble_eq_true rfl)) dX9_read_3 ⟨(Nat.le_of_ble_eq_true rfl), (Nat.le_of_ble_eq_true rfl)⟩) hw (fun r_3 M_3 H locs hp hw => ?_)
  obtain ⟨rfl, rfl⟩ := hp
  refine lv_istore_n (lv' := [(3, .int (f_lacks S x1 x2)), (0, .ref (md 0)), (1, .int x1), (2, .int x2)]) hx hb dX9_read_6 rfl hl (by decide) rfl (fun ls hl => ?_)
  refine lv_iload_n hx hb dX9_read_7 rfl (lv_at hl 0 rfl) ?_
  refine lv_if_le (tgt := 15) hx hb dX9_read_8 (by decide) (fun c_8 => ?_) (fun c_8 => ?_)
  · refine lv_aload_n hx hb dX9_read_15 rfl (lv_at hl 1 rfl) ?_
    refine lv_iload_n hx hb dX9_read_16 rfl (lv_at hl 2 rfl) ?_
    refine lv_iload_n hx hb dX9_read_17 rfl (lv_at hl 3 rfl) ?_
    refine lv_aload_n hx hb dX9_read_18 rfl (lv_at hl 1 rfl) ?_
    refine h_get X inX9 (rfl : vwCl[7]? = some (RX9, TX9, 8)) 0 (by decide) tb_335 (fun _ h => h) hw h0 rfl dX9_read_19 ?_
    refine lv_sipush (v := 200) hx hb dX9_read_22 (by decide) ?_
    refine lv_iload_n hx hb dX9_read_25 rfl (lv_at hl 2 rfl) ?_
    refine lv_imul hx hb dX9_read_26 ?_
    refine lv_iload_n hx hb dX9_read_27 rfl (lv_at hl 3 rfl) ?_
    refine lv_iadd hx hb dX9_read_28 ?_
    refine h_lald X 6 rfl hw h1 (lacks_in hO.1 c_8) dX9_read_29 ?_
    refine h_calli (h_runV (rest := []) X hml tb_383 tb_10 tb_380 tb_382 tp_tells9 (by decide +kernel) (by decide +kernel) (c_X9_tells l D dA z M md C S P T b w v o x1 x2 (C ((200 * x1) + x2).toNatClampNeg) hM (lacks_in hO.1 c_8)) ⟨(Nat.le_of_ble_eq_true rfl), (Nat.le_of_ble_eq_true rfl)⟩ hw (rfl : vwCl[7]? = some (RX9, TX9, 8)) rfl h0 rfl hl.1 rfl (lv_room (Nat.le_of_ble_eq_true rfl)) dX9_read_30 ⟨(Nat.le_of_ble_eq_true rfl), (Nat.le_of_ble_eq_true rfl)⟩) hw (fun r_30 M_30 H locs hp hw => ?_)
    obtain ⟨rfl, hM2, hS2⟩ := hp
    have e9 : r_read (C, S, P, T, b, w, v, o) x1 x2 = (0, s_tells (C, S, P, T, b, w, v, o) x1 x2 (C ((200 * x1) + x2).toNatClampNeg)) := by simp only [r_read, f_at, c_8, not_false_eq_true, not_true_eq_false, if_true, if_false, ↓reduceIte]
    exact h_iret X hr hlk (Nat.le_of_ble_eq_true rfl) (Nat.le_of_ble_eq_true rfl) hw (by rw [e9]; exact ⟨rfl, hM2, hS2⟩) dX9_read_33
  · refine lv_iload_n hx hb dX9_read_11 rfl (lv_at hl 0 rfl) ?_
    refine lv_goto (tgt := 33) hx hb dX9_read_12 (by decide) ?_
    have e9 : r_read (C, S, P, T, b, w, v, o) x1 x2 = (f_lacks S x1 x2, (C, S, P, T, b, w, v, o)) := by simp only [r_read, f_at, c_8, not_false_eq_true, not_true_eq_false, if_true, if_false, ↓reduceIte]
    exact h_iret X hr hlk (Nat.le_of_ble_eq_true rfl) (Nat.le_of_ble_eq_true rfl) hw (by rw [e9]; exact ⟨rfl, ⟨h0, h1, h2, h3, h4⟩, Same.rf⟩) dX9_read_33
set_option maxHeartbeats 4000000 in
set_option maxRecDepth 100000 in
theorem c_X9_mark (l : Launch) (D : va_G) (dA : Nat → ClassId) (z : Nat) (M : Mp) (md : Nat → Nat) (C : Nat → Int64) (S P T : Nat → Int32) (b w v o : Int32) (x1 : Int32) (x2 : Int32) (x3 : Int32) (hM : MR dA M md (C, S, P, T, b, w, v, o)) (hO : Ok (C, S, P, T, b, w, v, o)) : CQ l D dA z yX9_mark cX9_mark 5 (some .int) [.ref (md 0), .int x1, .int x2, .int x3] (rmN 2 62) M (Qi D dA z (fun r M' => r = (r_mark (C, S, P, T, b, w, v, o) x1 x2 x3).1 ∧ MR dA M' md (r_mark (C, S, P, T, b, w, v, o) x1 x2 x3).2 ∧ Same md 5 M M')) := by
  refine ct_of (cc := cX9_mark) (maxL := 5) (ret := some .int) (by decide) rfl (by decide) ?_
  intro p e s m below meth c X hml hr hin hlk hw ls hl
  have X : Cx p s m _ c cX9_mark RX9 lw_tbl D vwCl (aT dA) := X
  obtain ⟨hx, hb, hown, hts, hK⟩ := id X
  have hl : lv_has ls 5 [(0, .ref (md 0)), (1, .int x1), (2, .int x2), (3, .int x3)] := hl
  obtain ⟨h0, h1, h2, h3, h4⟩ := id hM
  have hn := hM.ne
  have h0 : M (md 0) = some (.inr (7, [.ref (md 1), .ref (md 2), .ref (md 3), .ref (md 4), .int b, .int w, .int v, .int o])) := h0
  have h1 : M (md 1) = some (.inl (dA 6, 1000, .inr (.inl C))) := h1
  have h2 : M (md 2) = some (.inl (dA 5, 5, .inl S)) := h2
  have h3 : M (md 3) = some (.inl (dA 5, 1600, .inl P)) := h3
  have h4 : M (md 4) = some (.inl (dA 3, 40, .inl T)) := h4
  refine lv_aload_n hx hb dX9_mark_0 rfl (lv_at hl 0 rfl) ?_
  refine lv_iload_n hx hb dX9_mark_1 rfl (lv_at hl 1 rfl) ?_
  refine lv_iload_n hx hb dX9_mark_2 rfl (lv_at hl 2 rfl) ?_
  refine h_calli (h_runV (rest := []) X hml tb_379 tb_10 tb_376 tb_378 tp_lacks9 (by decide +kernel) (by decide +kernel) (c_X9_lacks l D dA z M md C S P T b w v o x1 x2 hM) ⟨(Nat.le_of_ble_eq_true rfl), (Nat.le_of_ble_eq_true rfl)⟩ hw (rfl : vwCl[7]? = some (RX9, TX9, 8)) rfl h0 rfl hl.1 rfl (lv_room (Nat.le_of_ble_eq_true rfl)) dX9_mark_3 ⟨(Nat.le_of_ble_eq_true rfl), (Nat.le_of_ble_eq_true rfl)⟩) hw (fun r_3 M_3 H locs hp hw => ?_)
  obtain ⟨rfl, rfl⟩ := hp
  refine lv_istore (lv' := [(4, .int (f_lacks S x1 x2)), (0, .ref (md 0)), (1, .int x1), (2, .int x2), (3, .int x3)]) hx hb dX9_mark_6 hl (by decide) rfl (fun ls hl => ?_)
  refine lv_iload hx hb dX9_mark_8 (lv_at hl 0 rfl) ?_
  refine lv_if_le (tgt := 18) hx hb dX9_mark_10 (by decide) (fun c_10 => ?_) (fun c_10 => ?_)
  · refine lv_aload_n hx hb dX9_mark_18 rfl (lv_at hl 1 rfl) ?_
    refine lv_iload_n hx hb dX9_mark_19 rfl (lv_at hl 2 rfl) ?_
    refine lv_iload_n hx hb dX9_mark_20 rfl (lv_at hl 3 rfl) ?_
    refine lv_iload_n hx hb dX9_mark_21 rfl (lv_at hl 2 rfl) ?_
    refine lv_iload_n hx hb dX9_mark_22 rfl (lv_at hl 4 rfl) ?_
    refine lv_i2l hx hb dX9_mark_23 rfl ?_
    refine h_calll (h_runS (rest := [.int x2, .int x1, .ref (md 0)]) X hml tb_392 tb_10 tb_390 tb_391 (by decide +kernel) (by decide +kernel) (c_X9_fitted l D dA z M x1 x3.toInt64 (fun _ => Nat.lt_of_le_of_lt (i32_abs x3) (by decide))) ⟨(Nat.le_of_ble_eq_true rfl), (Nat.le_of_ble_eq_true rfl)⟩ hw rfl hl.1 rfl (lv_room (Nat.le_of_ble_eq_true rfl)) dX9_mark_24 ⟨(Nat.le_of_ble_eq_true rfl), (Nat.le_of_ble_eq_true rfl)⟩) hw (fun r_24 M_24 H locs hp hw => ?_)
    obtain ⟨rfl, rfl⟩ := hp
    refine h_calli (h_runV (rest := []) X hml tb_383 tb_10 tb_380 tb_382 tp_tells9 (by decide +kernel) (by decide +kernel) (c_X9_tells l D dA z M md C S P T b w v o x1 x2 (f_fitted x1 x3.toInt64) hM (lacks_in hO.1 c_10)) ⟨(Nat.le_of_ble_eq_true rfl), (Nat.le_of_ble_eq_true rfl)⟩ hw (rfl : vwCl[7]? = some (RX9, TX9, 8)) rfl h0 rfl hl.1 rfl (lv_room (Nat.le_of_ble_eq_true rfl)) dX9_mark_27 ⟨(Nat.le_of_ble_eq_true rfl), (Nat.le_of_ble_eq_true rfl)⟩) hw (fun r_27 M_27 H locs hp hw => ?_)
    obtain ⟨rfl, hM2, hS2⟩ := hp
    have e9 : r_mark (C, S, P, T, b, w, v, o) x1 x2 x3 = (0, s_tells (C, S, P, T, b, w, v, o) x1 x2 (f_fitted x1 x3.toInt64)) := by simp only [r_mark, f_at, c_10, not_false_eq_true, not_true_eq_false, if_true, if_false, ↓reduceIte]
    exact h_iret X hr hlk (Nat.le_of_ble_eq_true rfl) (Nat.le_of_ble_eq_true rfl) hw (by rw [e9]; exact ⟨rfl, hM2, hS2⟩) dX9_mark_30
  · refine lv_iload hx hb dX9_mark_13 (lv_at hl 0 rfl) ?_
    refine lv_goto (tgt := 30) hx hb dX9_mark_15 (by decide) ?_
    have e9 : r_mark (C, S, P, T, b, w, v, o) x1 x2 x3 = (f_lacks S x1 x2, (C, S, P, T, b, w, v, o)) := by simp only [r_mark, f_at, c_10, not_false_eq_true, not_true_eq_false, if_true, if_false, ↓reduceIte]
    exact h_iret X hr hlk (Nat.le_of_ble_eq_true rfl) (Nat.le_of_ble_eq_true rfl) hw (by rw [e9]; exact ⟨rfl, ⟨h0, h1, h2, h3, h4⟩, Same.rf⟩) dX9_mark_30
set_option maxHeartbeats 4000000 in
set_option maxRecDepth 100000 in
theorem c_X9_more (l : Launch) (D : va_G) (dA : Nat → ClassId) (z : Nat) (M : Mp) (md : Nat → Nat) (C : Nat → Int64) (S P T : Nat → Int32) (b w v o : Int32) (x1 : Int32) (x2 : Int32) (x3 : Int32) (hM : MR dA M md (C, S, P, T, b, w, v, o)) (hO : Ok (C, S, P, T, b, w, v, o)) : CQ l D dA z yX9_more cX9_more 5 (some .int) [.ref (md 0), .int x1, .int x2, .int x3] (rmN 3 104) M (Qi D dA z (fun r M' => r = (r_more (C, S, P, T, b, w, v, o) x1 x2 x3).1 ∧ MR dA M' md (r_more (C, S, P, T, b, w, v, o) x1 x2 x3).2 ∧ Same md 5 M M')) := by
  refine ct_of (cc := cX9_more) (maxL := 5) (ret := some .int) (by decide) rfl (by decide) ?_
  intro p e s m below meth c X hml hr hin hlk hw ls hl
  have X : Cx p s m _ c cX9_more RX9 lw_tbl D vwCl (aT dA) := X
  obtain ⟨hx, hb, hown, hts, hK⟩ := id X
  have hl : lv_has ls 5 [(0, .ref (md 0)), (1, .int x1), (2, .int x2), (3, .int x3)] := hl
  obtain ⟨h0, h1, h2, h3, h4⟩ := id hM
  have hn := hM.ne
  have h0 : M (md 0) = some (.inr (7, [.ref (md 1), .ref (md 2), .ref (md 3), .ref (md 4), .int b, .int w, .int v, .int o])) := h0
  have h1 : M (md 1) = some (.inl (dA 6, 1000, .inr (.inl C))) := h1
  have h2 : M (md 2) = some (.inl (dA 5, 5, .inl S)) := h2
  have h3 : M (md 3) = some (.inl (dA 5, 1600, .inl P)) := h3
  have h4 : M (md 4) = some (.inl (dA 3, 40, .inl T)) := h4
  refine lv_aload_n hx hb dX9_more_0 rfl (lv_at hl 0 rfl) ?_
  refine lv_iload_n hx hb dX9_more_1 rfl (lv_at hl 1 rfl) ?_
  refine lv_iload_n hx hb dX9_more_2 rfl (lv_at hl 2 rfl) ?_
  refine h_calli (h_runV (rest := []) X hml tb_379 tb_10 tb_376 tb_378 tp_lacks9 (by decide +kernel) (by decide +kernel) (c_X9_lacks l D dA z M md C S P T b w v o x1 x2 hM) ⟨(Nat.le_of_ble_eq_true rfl), (Nat.le_of_ble_eq_true rfl)⟩ hw (rfl : vwCl[7]? = some (RX9, TX9, 8)) rfl h0 rfl hl.1 rfl (lv_room (Nat.le_of_ble_eq_true rfl)) dX9_more_3 ⟨(Nat.le_of_ble_eq_true rfl), (Nat.le_of_ble_eq_true rfl)⟩) hw (fun r_3 M_3 H locs hp hw => ?_)
  obtain ⟨rfl, rfl⟩ := hp
  refine lv_istore (lv' := [(4, .int (f_lacks S x1 x2)), (0, .ref (md 0)), (1, .int x1), (2, .int x2), (3, .int x3)]) hx hb dX9_more_6 hl (by decide) rfl (fun ls hl => ?_)
  refine lv_iload hx hb dX9_more_8 (lv_at hl 0 rfl) ?_
  refine lv_if_le (tgt := 18) hx hb dX9_more_10 (by decide) (fun c_10 => ?_) (fun c_10 => ?_)
  · refine lv_aload_n hx hb dX9_more_18 rfl (lv_at hl 1 rfl) ?_
    refine lv_iload_n hx hb dX9_more_19 rfl (lv_at hl 2 rfl) ?_
    refine lv_iload_n hx hb dX9_more_20 rfl (lv_at hl 3 rfl) ?_
    refine lv_iload_n hx hb dX9_more_21 rfl (lv_at hl 2 rfl) ?_
    refine lv_aload_n hx hb dX9_more_22 rfl (lv_at hl 1 rfl) ?_
    refine h_get X inX9 (rfl : vwCl[7]? = some (RX9, TX9, 8)) 0 (by decide) tb_335 (fun _ h => h) hw h0 rfl dX9_more_23 ?_
    refine lv_sipush (v := 200) hx hb dX9_more_26 (by decide) ?_
    refine lv_iload_n hx hb dX9_more_29 rfl (lv_at hl 2 rfl) ?_
    refine lv_imul hx hb dX9_more_30 ?_
    refine lv_iload_n hx hb dX9_more_31 rfl (lv_at hl 3 rfl) ?_
    refine lv_iadd hx hb dX9_more_32 ?_
    refine h_lald X 6 rfl hw h1 (lacks_in hO.1 c_10) dX9_more_33 ?_
    refine lv_iload_n hx hb dX9_more_34 rfl (lv_at hl 4 rfl) ?_
    refine lv_i2l hx hb dX9_more_35 rfl ?_
    refine h_calll (h_runS (rest := [.int x2, .int x1, .ref (md 0)]) X hml tb_409 tb_10 tb_407 tb_408 (by decide +kernel) (by decide +kernel) (c_X9_raised l D dA z M x1 (C ((200 * x1) + x2).toNatClampNeg) x3.toInt64 (hO.2.2.2.1 _ (vp_lt (lacks_in hO.1 c_10))) (i32_abs x3)) ⟨(Nat.le_of_ble_eq_true rfl), (Nat.le_of_ble_eq_true rfl)⟩ hw rfl hl.1 rfl (lv_room (Nat.le_of_ble_eq_true rfl)) dX9_more_36 ⟨(Nat.le_of_ble_eq_true rfl), (Nat.le_of_ble_eq_true rfl)⟩) hw (fun r_36 M_36 H locs hp hw => ?_)
    obtain ⟨rfl, rfl⟩ := hp
    refine h_calli (h_runV (rest := []) X hml tb_383 tb_10 tb_380 tb_382 tp_tells9 (by decide +kernel) (by decide +kernel) (c_X9_tells l D dA z M md C S P T b w v o x1 x2 (f_raised x1 (C ((200 * x1) + x2).toNatClampNeg) x3.toInt64) hM (lacks_in hO.1 c_10)) ⟨(Nat.le_of_ble_eq_true rfl), (Nat.le_of_ble_eq_true rfl)⟩ hw (rfl : vwCl[7]? = some (RX9, TX9, 8)) rfl h0 rfl hl.1 rfl (lv_room (Nat.le_of_ble_eq_true rfl)) dX9_more_39 ⟨(Nat.le_of_ble_eq_true rfl), (Nat.le_of_ble_eq_true rfl)⟩) hw (fun r_39 M_39 H locs hp hw => ?_)
    obtain ⟨rfl, hM2, hS2⟩ := hp
    have e9 : r_more (C, S, P, T, b, w, v, o) x1 x2 x3 = (0, s_tells (C, S, P, T, b, w, v, o) x1 x2 (f_raised x1 (C ((200 * x1) + x2).toNatClampNeg) x3.toInt64)) := by simp only [r_more, f_at, c_10, not_false_eq_true, not_true_eq_false, if_true, if_false, ↓reduceIte]
    exact h_iret X hr hlk (Nat.le_of_ble_eq_true rfl) (Nat.le_of_ble_eq_true rfl) hw (by rw [e9]; exact ⟨rfl, hM2, hS2⟩) dX9_more_42
  · refine lv_iload hx hb dX9_more_13 (lv_at hl 0 rfl) ?_
    refine lv_goto (tgt := 42) hx hb dX9_more_15 (by decide) ?_
    have e9 : r_more (C, S, P, T, b, w, v, o) x1 x2 x3 = (f_lacks S x1 x2, (C, S, P, T, b, w, v, o)) := by simp only [r_more, f_at, c_10, not_false_eq_true, not_true_eq_false, if_true, if_false, ↓reduceIte]
    exact h_iret X hr hlk (Nat.le_of_ble_eq_true rfl) (Nat.le_of_ble_eq_true rfl) hw (by rw [e9]; exact ⟨rfl, ⟨h0, h1, h2, h3, h4⟩, Same.rf⟩) dX9_more_42
set_option maxHeartbeats 4000000 in
set_option maxRecDepth 100000 in
theorem c_X9_times (l : Launch) (D : va_G) (dA : Nat → ClassId) (z : Nat) (M : Mp) (md : Nat → Nat) (C : Nat → Int64) (S P T : Nat → Int32) (b w v o : Int32) (x1 : Int32) (x2 : Int32) (x3 : Int32) (hM : MR dA M md (C, S, P, T, b, w, v, o)) (hO : Ok (C, S, P, T, b, w, v, o)) : CQ l D dA z yX9_times cX9_times 5 (some .int) [.ref (md 0), .int x1, .int x2, .int x3] (rmN 3 104) M (Qi D dA z (fun r M' => r = (r_times (C, S, P, T, b, w, v, o) x1 x2 x3).1 ∧ MR dA M' md (r_times (C, S, P, T, b, w, v, o) x1 x2 x3).2 ∧ Same md 5 M M')) := by
  refine ct_of (cc := cX9_times) (maxL := 5) (ret := some .int) (by decide) rfl (by decide) ?_
  intro p e s m below meth c X hml hr hin hlk hw ls hl
  have X : Cx p s m _ c cX9_times RX9 lw_tbl D vwCl (aT dA) := X
  obtain ⟨hx, hb, hown, hts, hK⟩ := id X
  have hl : lv_has ls 5 [(0, .ref (md 0)), (1, .int x1), (2, .int x2), (3, .int x3)] := hl
  obtain ⟨h0, h1, h2, h3, h4⟩ := id hM
  have hn := hM.ne
  have h0 : M (md 0) = some (.inr (7, [.ref (md 1), .ref (md 2), .ref (md 3), .ref (md 4), .int b, .int w, .int v, .int o])) := h0
  have h1 : M (md 1) = some (.inl (dA 6, 1000, .inr (.inl C))) := h1
  have h2 : M (md 2) = some (.inl (dA 5, 5, .inl S)) := h2
  have h3 : M (md 3) = some (.inl (dA 5, 1600, .inl P)) := h3
  have h4 : M (md 4) = some (.inl (dA 3, 40, .inl T)) := h4
  refine lv_aload_n hx hb dX9_times_0 rfl (lv_at hl 0 rfl) ?_
  refine lv_iload_n hx hb dX9_times_1 rfl (lv_at hl 1 rfl) ?_
  refine lv_iload_n hx hb dX9_times_2 rfl (lv_at hl 2 rfl) ?_
  refine h_calli (h_runV (rest := []) X hml tb_379 tb_10 tb_376 tb_378 tp_lacks9 (by decide +kernel) (by decide +kernel) (c_X9_lacks l D dA z M md C S P T b w v o x1 x2 hM) ⟨(Nat.le_of_ble_eq_true rfl), (Nat.le_of_ble_eq_true rfl)⟩ hw (rfl : vwCl[7]? = some (RX9, TX9, 8)) rfl h0 rfl hl.1 rfl (lv_room (Nat.le_of_ble_eq_true rfl)) dX9_times_3 ⟨(Nat.le_of_ble_eq_true rfl), (Nat.le_of_ble_eq_true rfl)⟩) hw (fun r_3 M_3 H locs hp hw => ?_)
  obtain ⟨rfl, rfl⟩ := hp
  refine lv_istore (lv' := [(4, .int (f_lacks S x1 x2)), (0, .ref (md 0)), (1, .int x1), (2, .int x2), (3, .int x3)]) hx hb dX9_times_6 hl (by decide) rfl (fun ls hl => ?_)
  refine lv_iload hx hb dX9_times_8 (lv_at hl 0 rfl) ?_
  refine lv_if_le (tgt := 18) hx hb dX9_times_10 (by decide) (fun c_10 => ?_) (fun c_10 => ?_)
  · refine lv_aload_n hx hb dX9_times_18 rfl (lv_at hl 1 rfl) ?_
    refine lv_iload_n hx hb dX9_times_19 rfl (lv_at hl 2 rfl) ?_
    refine lv_iload_n hx hb dX9_times_20 rfl (lv_at hl 3 rfl) ?_
    refine lv_iload_n hx hb dX9_times_21 rfl (lv_at hl 2 rfl) ?_
    refine lv_aload_n hx hb dX9_times_22 rfl (lv_at hl 1 rfl) ?_
    refine h_get X inX9 (rfl : vwCl[7]? = some (RX9, TX9, 8)) 0 (by decide) tb_335 (fun _ h => h) hw h0 rfl dX9_times_23 ?_
    refine lv_sipush (v := 200) hx hb dX9_times_26 (by decide) ?_
    refine lv_iload_n hx hb dX9_times_29 rfl (lv_at hl 2 rfl) ?_
    refine lv_imul hx hb dX9_times_30 ?_
    refine lv_iload_n hx hb dX9_times_31 rfl (lv_at hl 3 rfl) ?_
    refine lv_iadd hx hb dX9_times_32 ?_
    refine h_lald X 6 rfl hw h1 (lacks_in hO.1 c_10) dX9_times_33 ?_
    refine lv_iload_n hx hb dX9_times_34 rfl (lv_at hl 4 rfl) ?_
    refine lv_i2l hx hb dX9_times_35 rfl ?_
    refine h_calll (h_runS (rest := [.int x2, .int x1, .ref (md 0)]) X hml tb_421 tb_10 tb_419 tb_420 (by decide +kernel) (by decide +kernel) (c_X9_multiplied l D dA z M x1 (C ((200 * x1) + x2).toNatClampNeg) x3.toInt64 (i32_abs x3)) ⟨(Nat.le_of_ble_eq_true rfl), (Nat.le_of_ble_eq_true rfl)⟩ hw rfl hl.1 rfl (lv_room (Nat.le_of_ble_eq_true rfl)) dX9_times_36 ⟨(Nat.le_of_ble_eq_true rfl), (Nat.le_of_ble_eq_true rfl)⟩) hw (fun r_36 M_36 H locs hp hw => ?_)
    obtain ⟨rfl, rfl⟩ := hp
    refine h_calli (h_runV (rest := []) X hml tb_383 tb_10 tb_380 tb_382 tp_tells9 (by decide +kernel) (by decide +kernel) (c_X9_tells l D dA z M md C S P T b w v o x1 x2 (f_multiplied x1 (C ((200 * x1) + x2).toNatClampNeg) x3.toInt64) hM (lacks_in hO.1 c_10)) ⟨(Nat.le_of_ble_eq_true rfl), (Nat.le_of_ble_eq_true rfl)⟩ hw (rfl : vwCl[7]? = some (RX9, TX9, 8)) rfl h0 rfl hl.1 rfl (lv_room (Nat.le_of_ble_eq_true rfl)) dX9_times_39 ⟨(Nat.le_of_ble_eq_true rfl), (Nat.le_of_ble_eq_true rfl)⟩) hw (fun r_39 M_39 H locs hp hw => ?_)
    obtain ⟨rfl, hM2, hS2⟩ := hp
    have e9 : r_times (C, S, P, T, b, w, v, o) x1 x2 x3 = (0, s_tells (C, S, P, T, b, w, v, o) x1 x2 (f_multiplied x1 (C ((200 * x1) + x2).toNatClampNeg) x3.toInt64)) := by simp only [r_times, f_at, c_10, not_false_eq_true, not_true_eq_false, if_true, if_false, ↓reduceIte]
    exact h_iret X hr hlk (Nat.le_of_ble_eq_true rfl) (Nat.le_of_ble_eq_true rfl) hw (by rw [e9]; exact ⟨rfl, hM2, hS2⟩) dX9_times_42
  · refine lv_iload hx hb dX9_times_13 (lv_at hl 0 rfl) ?_
    refine lv_goto (tgt := 42) hx hb dX9_times_15 (by decide) ?_
    have e9 : r_times (C, S, P, T, b, w, v, o) x1 x2 x3 = (f_lacks S x1 x2, (C, S, P, T, b, w, v, o)) := by simp only [r_times, f_at, c_10, not_false_eq_true, not_true_eq_false, if_true, if_false, ↓reduceIte]
    exact h_iret X hr hlk (Nat.le_of_ble_eq_true rfl) (Nat.le_of_ble_eq_true rfl) hw (by rw [e9]; exact ⟨rfl, ⟨h0, h1, h2, h3, h4⟩, Same.rf⟩) dX9_times_42
set_option maxHeartbeats 4000000 in
set_option maxRecDepth 100000 in
theorem c_X9_size (l : Launch) (D : va_G) (dA : Nat → ClassId) (z : Nat) (M : Mp) (md : Nat → Nat) (C : Nat → Int64) (S P T : Nat → Int32) (b w v o : Int32) (x1 : Int32) (hM : MR dA M md (C, S, P, T, b, w, v, o)) : CQ l D dA z yX9_size cX9_size 2 (some .int) [.ref (md 0), .int x1] (rmN 1 20) M (Qi D dA z (fun r M' => r = (r_size (C, S, P, T, b, w, v, o) x1).1 ∧ MR dA M' md (r_size (C, S, P, T, b, w, v, o) x1).2 ∧ Same md 5 M M')) := by
  refine ct_of (cc := cX9_size) (maxL := 2) (ret := some .int) (by decide) rfl (by decide) ?_
  intro p e s m below meth c X hml hr hin hlk hw ls hl
  have X : Cx p s m _ c cX9_size RX9 lw_tbl D vwCl (aT dA) := X
  obtain ⟨hx, hb, hown, hts, hK⟩ := id X
  have hl : lv_has ls 2 [(0, .ref (md 0)), (1, .int x1)] := hl
  obtain ⟨h0, h1, h2, h3, h4⟩ := id hM
  have hn := hM.ne
  have h0 : M (md 0) = some (.inr (7, [.ref (md 1), .ref (md 2), .ref (md 3), .ref (md 4), .int b, .int w, .int v, .int o])) := h0
  have h1 : M (md 1) = some (.inl (dA 6, 1000, .inr (.inl C))) := h1
  have h2 : M (md 2) = some (.inl (dA 5, 5, .inl S)) := h2
  have h3 : M (md 3) = some (.inl (dA 5, 1600, .inl P)) := h3
  have h4 : M (md 4) = some (.inl (dA 3, 40, .inl T)) := h4
  refine lv_iload_n hx hb dX9_size_0 rfl (lv_at hl 1 rfl) ?_
  refine h_calli (h_runS (rest := []) X hml tb_367 tb_10 tb_365 tb_366 (by decide +kernel) (by decide +kernel) (c_X9_isRoll l D dA z M x1) ⟨(Nat.le_of_ble_eq_true rfl), (Nat.le_of_ble_eq_true rfl)⟩ hw rfl hl.1 rfl (lv_room (Nat.le_of_ble_eq_true rfl)) dX9_size_1 ⟨(Nat.le_of_ble_eq_true rfl), (Nat.le_of_ble_eq_true rfl)⟩) hw (fun r_1 M_1 H locs hp hw => ?_)
  obtain ⟨rfl, rfl⟩ := hp
  refine lv_if_ne (tgt := 9) hx hb dX9_size_4 (by decide) (fun c_4 => ?_) (fun c_4 => ?_)
  · refine lv_aload_n hx hb dX9_size_9 rfl (lv_at hl 0 rfl) ?_
    refine h_get X inX9 (rfl : vwCl[7]? = some (RX9, TX9, 8)) 1 (by decide) tb_336 (fun _ h => h) hw h0 rfl dX9_size_10 ?_
    refine lv_iload_n hx hb dX9_size_13 rfl (lv_at hl 1 rfl) ?_
    refine h_iald X 5 rfl hw h2 (isRoll_in c_4) dX9_size_14 ?_
    refine lv_if_ge (tgt := 20) hx hb dX9_size_15 (by decide) (fun c_15 => ?_) (fun c_15 => ?_)
    · refine lv_aload_n hx hb dX9_size_20 rfl (lv_at hl 0 rfl) ?_
      refine lv_aload_n hx hb dX9_size_21 rfl (lv_at hl 0 rfl) ?_
      refine h_get X inX9 (rfl : vwCl[7]? = some (RX9, TX9, 8)) 1 (by decide) tb_336 (fun _ h => h) hw h0 rfl dX9_size_22 ?_
      refine lv_iload_n hx hb dX9_size_25 rfl (lv_at hl 1 rfl) ?_
      refine h_iald X 5 rfl hw h2 (isRoll_in c_4) dX9_size_26 ?_
      refine h_put X inX9 (rfl : vwCl[7]? = some (RX9, TX9, 8)) tyX9 tyX9_ok nmX9 7 (by decide) tb_342 (fun _ h => h) rfl hw h0 (ty := .int) (by decide +kernel) rfl rfl (Nat.le_of_ble_eq_true rfl) dX9_size_27 (fun H locs hw => ?_)
      have hw : wd D vwCl z (mU M (md 0) (.inr (7, [.ref (md 1), .ref (md 2), .ref (md 3), .ref (md 4), .int b, .int w, .int v, .int ((S x1.toNatClampNeg))]))) s.heap H locs := hw
      have hk2 := (mU_n (M) (.inr (7, [.ref (md 1), .ref (md 2), .ref (md 3), .ref (md 4), .int b, .int w, .int v, .int ((S x1.toNatClampNeg))])) (hn 1 0 (by decide) (by decide) (by decide))).trans h1
      have hk3 := (mU_n (M) (.inr (7, [.ref (md 1), .ref (md 2), .ref (md 3), .ref (md 4), .int b, .int w, .int v, .int ((S x1.toNatClampNeg))])) (hn 2 0 (by decide) (by decide) (by decide))).trans h2
      have hk4 := (mU_n (M) (.inr (7, [.ref (md 1), .ref (md 2), .ref (md 3), .ref (md 4), .int b, .int w, .int v, .int ((S x1.toNatClampNeg))])) (hn 3 0 (by decide) (by decide) (by decide))).trans h3
      have hk5 := (mU_n (M) (.inr (7, [.ref (md 1), .ref (md 2), .ref (md 3), .ref (md 4), .int b, .int w, .int v, .int ((S x1.toNatClampNeg))])) (hn 4 0 (by decide) (by decide) (by decide))).trans h4
      have hk6 := mU_s (M) (md 0) (.inr (7, [.ref (md 1), .ref (md 2), .ref (md 3), .ref (md 4), .int b, .int w, .int v, .int ((S x1.toNatClampNeg))]))
      refine lv_iconst (v := 0) hx hb dX9_size_30 (by decide) ?_
      have e9 : r_size (C, S, P, T, b, w, v, o) x1 = (0, (C, S, P, T, b, w, v, (S x1.toNatClampNeg))) := by simp only [r_size, s_told, c_4, c_15, not_false_eq_true, not_true_eq_false, if_true, if_false, ↓reduceIte]
      exact h_iret X hr hlk (Nat.le_of_ble_eq_true rfl) (Nat.le_of_ble_eq_true rfl) hw (by rw [e9]; exact ⟨rfl, ⟨hk6, hk2, hk3, hk4, hk5⟩, (Same.put Same.rf (show 0 < 5 by decide))⟩) dX9_size_31
    · refine lv_iconst (v := 2) hx hb dX9_size_18 (by decide) ?_
      have e9 : r_size (C, S, P, T, b, w, v, o) x1 = (2, (C, S, P, T, b, w, v, o)) := by simp only [r_size, s_told, c_4, c_15, not_false_eq_true, not_true_eq_false, if_true, if_false, ↓reduceIte]
      exact h_iret X hr hlk (Nat.le_of_ble_eq_true rfl) (Nat.le_of_ble_eq_true rfl) hw (by rw [e9]; exact ⟨rfl, ⟨h0, h1, h2, h3, h4⟩, Same.rf⟩) dX9_size_19
  · refine lv_iconst (v := 1) hx hb dX9_size_7 (by decide) ?_
    have e9 : r_size (C, S, P, T, b, w, v, o) x1 = (1, (C, S, P, T, b, w, v, o)) := by simp only [r_size, s_told, c_4, not_false_eq_true, not_true_eq_false, if_true, if_false, ↓reduceIte]
    exact h_iret X hr hlk (Nat.le_of_ble_eq_true rfl) (Nat.le_of_ble_eq_true rfl) hw (by rw [e9]; exact ⟨rfl, ⟨h0, h1, h2, h3, h4⟩, Same.rf⟩) dX9_size_8
set_option maxHeartbeats 4000000 in
set_option maxRecDepth 100000 in
theorem c_X9_pour (l : Launch) (D : va_G) (dA : Nat → ClassId) (z : Nat) (M : Mp) (md : Nat → Nat) (C : Nat → Int64) (S P T : Nat → Int32) (b w v o : Int32) (x1 : Int32) (x2 : Int32) (x3 : Int32) (x4 : Int32) (hM : MR dA M md (C, S, P, T, b, w, v, o)) (hO : Ok (C, S, P, T, b, w, v, o)) : CQ l D dA z yX9_pour cX9_pour 8 (some .int) [.ref (md 0), .int x1, .int x2, .int x3, .int x4] (rmN 2 62) M (Qi D dA z (fun r M' => r = (r_pour (C, S, P, T, b, w, v, o) x1 x2 x3 x4).1 ∧ MR dA M' md (r_pour (C, S, P, T, b, w, v, o) x1 x2 x3 x4).2 ∧ Same md 5 M M')) := by
  refine ct_of (cc := cX9_pour) (maxL := 8) (ret := some .int) (by decide) rfl (by decide) ?_
  intro p e s m below meth c X hml hr hin hlk hw ls hl
  have X : Cx p s m _ c cX9_pour RX9 lw_tbl D vwCl (aT dA) := X
  obtain ⟨hx, hb, hown, hts, hK⟩ := id X
  have hl : lv_has ls 8 [(0, .ref (md 0)), (1, .int x1), (2, .int x2), (3, .int x3), (4, .int x4)] := hl
  obtain ⟨h0, h1, h2, h3, h4⟩ := id hM
  have hn := hM.ne
  have h0 : M (md 0) = some (.inr (7, [.ref (md 1), .ref (md 2), .ref (md 3), .ref (md 4), .int b, .int w, .int v, .int o])) := h0
  have h1 : M (md 1) = some (.inl (dA 6, 1000, .inr (.inl C))) := h1
  have h2 : M (md 2) = some (.inl (dA 5, 5, .inl S)) := h2
  have h3 : M (md 3) = some (.inl (dA 5, 1600, .inl P)) := h3
  have h4 : M (md 4) = some (.inl (dA 3, 40, .inl T)) := h4
  refine lv_iload_n hx hb dX9_pour_0 rfl (lv_at hl 1 rfl) ?_
  refine h_calli (h_runS (rest := []) X hml tb_367 tb_10 tb_365 tb_366 (by decide +kernel) (by decide +kernel) (c_X9_isRoll l D dA z M x1) ⟨(Nat.le_of_ble_eq_true rfl), (Nat.le_of_ble_eq_true rfl)⟩ hw rfl hl.1 rfl (lv_room (Nat.le_of_ble_eq_true rfl)) dX9_pour_1 ⟨(Nat.le_of_ble_eq_true rfl), (Nat.le_of_ble_eq_true rfl)⟩) hw (fun r_1 M_1 H locs hp hw => ?_)
  obtain ⟨rfl, rfl⟩ := hp
  refine lv_if_eq (tgt := 14) hx hb dX9_pour_4 (by decide) (fun c_4 => ?_) (fun c_4 => ?_)
  · refine lv_iconst (v := 1) hx hb dX9_pour_14 (by decide) ?_
    have e9 : r_pour (C, S, P, T, b, w, v, o) x1 x2 x3 x4 = (1, (C, S, P, T, b, w, v, o)) := by simp only [r_pour, f_at, f_clip, c_4, not_false_eq_true, not_true_eq_false, if_true, if_false, ↓reduceIte]
    exact h_iret X hr hlk (Nat.le_of_ble_eq_true rfl) (Nat.le_of_ble_eq_true rfl) hw (by rw [e9]; exact ⟨rfl, ⟨h0, h1, h2, h3, h4⟩, Same.rf⟩) dX9_pour_15
  · refine lv_iload_n hx hb dX9_pour_7 rfl (lv_at hl 3 rfl) ?_
    refine h_calli (h_runS (rest := []) X hml tb_367 tb_10 tb_365 tb_366 (by decide +kernel) (by decide +kernel) (c_X9_isRoll l D dA z M x3) ⟨(Nat.le_of_ble_eq_true rfl), (Nat.le_of_ble_eq_true rfl)⟩ hw rfl hl.1 rfl (lv_room (Nat.le_of_ble_eq_true rfl)) dX9_pour_8 ⟨(Nat.le_of_ble_eq_true rfl), (Nat.le_of_ble_eq_true rfl)⟩) hw (fun r_8 M_8 H locs hp hw => ?_)
    obtain ⟨rfl, rfl⟩ := hp
    refine lv_if_ne (tgt := 16) hx hb dX9_pour_11 (by decide) (fun c_11 => ?_) (fun c_11 => ?_)
    · refine lv_aload_n hx hb dX9_pour_16 rfl (lv_at hl 0 rfl) ?_
      refine lv_iload_n hx hb dX9_pour_17 rfl (lv_at hl 1 rfl) ?_
      refine lv_iload_n hx hb dX9_pour_18 rfl (lv_at hl 2 rfl) ?_
      refine h_calli (h_runV (rest := []) X hml tb_379 tb_10 tb_376 tb_378 tp_lacks9 (by decide +kernel) (by decide +kernel) (c_X9_lacks l D dA z M md C S P T b w v o x1 x2 hM) ⟨(Nat.le_of_ble_eq_true rfl), (Nat.le_of_ble_eq_true rfl)⟩ hw (rfl : vwCl[7]? = some (RX9, TX9, 8)) rfl h0 rfl hl.1 rfl (lv_room (Nat.le_of_ble_eq_true rfl)) dX9_pour_19 ⟨(Nat.le_of_ble_eq_true rfl), (Nat.le_of_ble_eq_true rfl)⟩) hw (fun r_19 M_19 H locs hp hw => ?_)
      obtain ⟨rfl, rfl⟩ := hp
      refine lv_istore (lv' := [(5, .int (f_lacks S x1 x2)), (0, .ref (md 0)), (1, .int x1), (2, .int x2), (3, .int x3), (4, .int x4)]) hx hb dX9_pour_22 hl (by decide) rfl (fun ls hl => ?_)
      refine lv_iload hx hb dX9_pour_24 (lv_at hl 0 rfl) ?_
      refine lv_if_le (tgt := 34) hx hb dX9_pour_26 (by decide) (fun c_26 => ?_) (fun c_26 => ?_)
      · refine lv_aload_n hx hb dX9_pour_34 rfl (lv_at hl 1 rfl) ?_
        refine lv_iload_n hx hb dX9_pour_35 rfl (lv_at hl 4 rfl) ?_
        refine lv_iload hx hb dX9_pour_36 (lv_at hl 5 rfl) ?_
        refine h_calli (h_runV (rest := []) X hml tb_379 tb_10 tb_376 tb_378 tp_lacks9 (by decide +kernel) (by decide +kernel) (c_X9_lacks l D dA z M md C S P T b w v o x3 x4 hM) ⟨(Nat.le_of_ble_eq_true rfl), (Nat.le_of_ble_eq_true rfl)⟩ hw (rfl : vwCl[7]? = some (RX9, TX9, 8)) rfl h0 rfl hl.1 rfl (lv_room (Nat.le_of_ble_eq_true rfl)) dX9_pour_38 ⟨(Nat.le_of_ble_eq_true rfl), (Nat.le_of_ble_eq_true rfl)⟩) hw (fun r_38 M_38 H locs hp hw => ?_)
        obtain ⟨rfl, rfl⟩ := hp
        refine lv_istore (lv' := [(5, .int (f_lacks S x3 x4)), (0, .ref (md 0)), (1, .int x1), (2, .int x2), (3, .int x3), (4, .int x4)]) hx hb dX9_pour_41 hl (by decide) rfl (fun ls hl => ?_)
        refine lv_iload hx hb dX9_pour_43 (lv_at hl 0 rfl) ?_
        refine lv_if_le (tgt := 51) hx hb dX9_pour_45 (by decide) (fun c_45 => ?_) (fun c_45 => ?_)
        · refine lv_aload_n hx hb dX9_pour_51 rfl (lv_at hl 1 rfl) ?_
          refine h_get X inX9 (rfl : vwCl[7]? = some (RX9, TX9, 8)) 0 (by decide) tb_335 (fun _ h => h) hw h0 rfl dX9_pour_52 ?_
          refine lv_sipush (v := 200) hx hb dX9_pour_55 (by decide) ?_
          refine lv_iload_n hx hb dX9_pour_58 rfl (lv_at hl 2 rfl) ?_
          refine lv_imul hx hb dX9_pour_59 ?_
          refine lv_iload_n hx hb dX9_pour_60 rfl (lv_at hl 3 rfl) ?_
          refine lv_iadd hx hb dX9_pour_61 ?_
          refine h_lald X 6 rfl hw h1 (lacks_in hO.1 c_26) dX9_pour_62 ?_
          refine lv_lstore (lv' := [(6, .long ((C ((200 * x1) + x2).toNatClampNeg))), (5, .int (f_lacks S x3 x4)), (0, .ref (md 0)), (1, .int x1), (2, .int x2), (3, .int x3), (4, .int x4)]) hx hb dX9_pour_63 hl (by decide) rfl (fun ls hl => ?_)
          refine lv_aload_n hx hb dX9_pour_65 rfl (lv_at hl 2 rfl) ?_
          refine lv_iload_n hx hb dX9_pour_66 rfl (lv_at hl 5 rfl) ?_
          refine lv_iload hx hb dX9_pour_67 (lv_at hl 6 rfl) ?_
          refine lv_iload_n hx hb dX9_pour_69 rfl (lv_at hl 5 rfl) ?_
          refine lv_lload hx hb dX9_pour_70 (lv_at hl 0 rfl) ?_
          refine lv_ldc2 (v := 2147483647) hx hb hown (hts _ tb_384) dX9_pour_72 ?_
          refine W.lcmp hx hb dX9_pour_75 ?_
          refine lv_if_le (tgt := 85) hx hb dX9_pour_76 (by decide) (fun c_76 => ?_) (fun c_76 => ?_)
          · have c_76 := (lg_cmp_le _ _).mp c_76
            refine lv_lload hx hb dX9_pour_85 (lv_at hl 0 rfl) ?_
            refine h_calll (h_runS (rest := [.int x4, .int x3, .ref (md 0)]) X hml tb_392 tb_10 tb_390 tb_391 (by decide +kernel) (by decide +kernel) (c_X9_fitted l D dA z M x3 (C ((200 * x1) + x2).toNatClampNeg) (fun _ => Nat.lt_of_le_of_lt (by first | exact hO.2.2.2.1 _ (vp_lt (lacks_in hO.1 c_26)) | decide) (by decide))) ⟨(Nat.le_of_ble_eq_true rfl), (Nat.le_of_ble_eq_true rfl)⟩ hw rfl hl.1 rfl (lv_room (Nat.le_of_ble_eq_true rfl)) dX9_pour_87 ⟨(Nat.le_of_ble_eq_true rfl), (Nat.le_of_ble_eq_true rfl)⟩) hw (fun r_87 M_87 H locs hp hw => ?_)
            obtain ⟨rfl, rfl⟩ := hp
            refine h_calli (h_runV (rest := []) X hml tb_383 tb_10 tb_380 tb_382 tp_tells9 (by decide +kernel) (by decide +kernel) (c_X9_tells l D dA z M md C S P T b w v o x3 x4 (f_fitted x3 (C ((200 * x1) + x2).toNatClampNeg)) hM (lacks_in hO.1 c_45)) ⟨(Nat.le_of_ble_eq_true rfl), (Nat.le_of_ble_eq_true rfl)⟩ hw (rfl : vwCl[7]? = some (RX9, TX9, 8)) rfl h0 rfl hl.1 rfl (lv_room (Nat.le_of_ble_eq_true rfl)) dX9_pour_90 ⟨(Nat.le_of_ble_eq_true rfl), (Nat.le_of_ble_eq_true rfl)⟩) hw (fun r_90 M_90 H locs hp hw => ?_)
            obtain ⟨rfl, hM2, hS2⟩ := hp
            have e9 : r_pour (C, S, P, T, b, w, v, o) x1 x2 x3 x4 = (0, s_tells (C, S, P, T, b, w, v, o) x3 x4 (f_fitted x3 (C ((200 * x1) + x2).toNatClampNeg))) := by simp only [r_pour, f_at, f_clip, c_4, c_11, c_26, c_45, c_76, not_false_eq_true, not_true_eq_false, if_true, if_false, ↓reduceIte]
            exact h_iret X hr hlk (Nat.le_of_ble_eq_true rfl) (Nat.le_of_ble_eq_true rfl) hw (by rw [e9]; exact ⟨rfl, hM2, hS2⟩) dX9_pour_93
          · have c_76 := (not_congr (lg_cmp_le _ _)).mp c_76
            refine lv_ldc2 (v := 2147483647) hx hb hown (hts _ tb_384) dX9_pour_79 ?_
            refine lv_goto (tgt := 87) hx hb dX9_pour_82 (by decide) ?_
            refine h_calll (h_runS (rest := [.int x4, .int x3, .ref (md 0)]) X hml tb_392 tb_10 tb_390 tb_391 (by decide +kernel) (by decide +kernel) (c_X9_fitted l D dA z M x3 2147483647 (fun _ => Nat.lt_of_le_of_lt (by first | exact hO.2.2.2.1 _ (vp_lt (lacks_in hO.1 c_26)) | decide) (by decide))) ⟨(Nat.le_of_ble_eq_true rfl), (Nat.le_of_ble_eq_true rfl)⟩ hw rfl hl.1 rfl (lv_room (Nat.le_of_ble_eq_true rfl)) dX9_pour_87 ⟨(Nat.le_of_ble_eq_true rfl), (Nat.le_of_ble_eq_true rfl)⟩) hw (fun r_87 M_87 H locs hp hw => ?_)
            obtain ⟨rfl, rfl⟩ := hp
            refine h_calli (h_runV (rest := []) X hml tb_383 tb_10 tb_380 tb_382 tp_tells9 (by decide +kernel) (by decide +kernel) (c_X9_tells l D dA z M md C S P T b w v o x3 x4 (f_fitted x3 2147483647) hM (lacks_in hO.1 c_45)) ⟨(Nat.le_of_ble_eq_true rfl), (Nat.le_of_ble_eq_true rfl)⟩ hw (rfl : vwCl[7]? = some (RX9, TX9, 8)) rfl h0 rfl hl.1 rfl (lv_room (Nat.le_of_ble_eq_true rfl)) dX9_pour_90 ⟨(Nat.le_of_ble_eq_true rfl), (Nat.le_of_ble_eq_true rfl)⟩) hw (fun r_90 M_90 H locs hp hw => ?_)
            obtain ⟨rfl, hM2, hS2⟩ := hp
            have e9 : r_pour (C, S, P, T, b, w, v, o) x1 x2 x3 x4 = (0, s_tells (C, S, P, T, b, w, v, o) x3 x4 (f_fitted x3 2147483647)) := by simp only [r_pour, f_at, f_clip, c_4, c_11, c_26, c_45, c_76, not_false_eq_true, not_true_eq_false, if_true, if_false, ↓reduceIte]
            exact h_iret X hr hlk (Nat.le_of_ble_eq_true rfl) (Nat.le_of_ble_eq_true rfl) hw (by rw [e9]; exact ⟨rfl, hM2, hS2⟩) dX9_pour_93
        · refine lv_iload hx hb dX9_pour_48 (lv_at hl 0 rfl) ?_
          have e9 : r_pour (C, S, P, T, b, w, v, o) x1 x2 x3 x4 = (f_lacks S x3 x4, (C, S, P, T, b, w, v, o)) := by simp only [r_pour, f_at, f_clip, c_4, c_11, c_26, c_45, not_false_eq_true, not_true_eq_false, if_true, if_false, ↓reduceIte]
          exact h_iret X hr hlk (Nat.le_of_ble_eq_true rfl) (Nat.le_of_ble_eq_true rfl) hw (by rw [e9]; exact ⟨rfl, ⟨h0, h1, h2, h3, h4⟩, Same.rf⟩) dX9_pour_50
      · refine lv_iload hx hb dX9_pour_29 (lv_at hl 0 rfl) ?_
        refine lv_goto (tgt := 41) hx hb dX9_pour_31 (by decide) ?_
        refine lv_istore (lv' := [(5, .int (f_lacks S x1 x2)), (0, .ref (md 0)), (1, .int x1), (2, .int x2), (3, .int x3), (4, .int x4)]) hx hb dX9_pour_41 hl (by decide) rfl (fun ls hl => ?_)
        refine lv_iload hx hb dX9_pour_43 (lv_at hl 0 rfl) ?_
        refine lv_if_le (tgt := 51) hx hb dX9_pour_45 (by decide) (fun c_45 => ?_) (fun c_45 => ?_)
        · refine lv_aload_n hx hb dX9_pour_51 rfl (lv_at hl 1 rfl) ?_
          refine h_get X inX9 (rfl : vwCl[7]? = some (RX9, TX9, 8)) 0 (by decide) tb_335 (fun _ h => h) hw h0 rfl dX9_pour_52 ?_
          refine lv_sipush (v := 200) hx hb dX9_pour_55 (by decide) ?_
          refine lv_iload_n hx hb dX9_pour_58 rfl (lv_at hl 2 rfl) ?_
          refine lv_imul hx hb dX9_pour_59 ?_
          refine lv_iload_n hx hb dX9_pour_60 rfl (lv_at hl 3 rfl) ?_
          refine lv_iadd hx hb dX9_pour_61 ?_
          refine h_lald X 6 rfl hw h1 (lacks_in hO.1 c_26) dX9_pour_62 ?_
          refine lv_lstore (lv' := [(6, .long ((C ((200 * x1) + x2).toNatClampNeg))), (5, .int (f_lacks S x1 x2)), (0, .ref (md 0)), (1, .int x1), (2, .int x2), (3, .int x3), (4, .int x4)]) hx hb dX9_pour_63 hl (by decide) rfl (fun ls hl => ?_)
          refine lv_aload_n hx hb dX9_pour_65 rfl (lv_at hl 2 rfl) ?_
          refine lv_iload_n hx hb dX9_pour_66 rfl (lv_at hl 5 rfl) ?_
          refine lv_iload hx hb dX9_pour_67 (lv_at hl 6 rfl) ?_
          refine lv_iload_n hx hb dX9_pour_69 rfl (lv_at hl 5 rfl) ?_
          refine lv_lload hx hb dX9_pour_70 (lv_at hl 0 rfl) ?_
          refine lv_ldc2 (v := 2147483647) hx hb hown (hts _ tb_384) dX9_pour_72 ?_
          refine W.lcmp hx hb dX9_pour_75 ?_
          refine lv_if_le (tgt := 85) hx hb dX9_pour_76 (by decide) (fun c_76 => ?_) (fun c_76 => ?_)
          · have c_76 := (lg_cmp_le _ _).mp c_76
            refine lv_lload hx hb dX9_pour_85 (lv_at hl 0 rfl) ?_
            refine h_calll (h_runS (rest := [.int x4, .int x3, .ref (md 0)]) X hml tb_392 tb_10 tb_390 tb_391 (by decide +kernel) (by decide +kernel) (c_X9_fitted l D dA z M x3 (C ((200 * x1) + x2).toNatClampNeg) (fun _ => Nat.lt_of_le_of_lt (by first | exact hO.2.2.2.1 _ (vp_lt (lacks_in hO.1 c_26)) | decide) (by decide))) ⟨(Nat.le_of_ble_eq_true rfl), (Nat.le_of_ble_eq_true rfl)⟩ hw rfl hl.1 rfl (lv_room (Nat.le_of_ble_eq_true rfl)) dX9_pour_87 ⟨(Nat.le_of_ble_eq_true rfl), (Nat.le_of_ble_eq_true rfl)⟩) hw (fun r_87 M_87 H locs hp hw => ?_)
            obtain ⟨rfl, rfl⟩ := hp
            refine h_calli (h_runV (rest := []) X hml tb_383 tb_10 tb_380 tb_382 tp_tells9 (by decide +kernel) (by decide +kernel) (c_X9_tells l D dA z M md C S P T b w v o x3 x4 (f_fitted x3 (C ((200 * x1) + x2).toNatClampNeg)) hM (lacks_in hO.1 c_45)) ⟨(Nat.le_of_ble_eq_true rfl), (Nat.le_of_ble_eq_true rfl)⟩ hw (rfl : vwCl[7]? = some (RX9, TX9, 8)) rfl h0 rfl hl.1 rfl (lv_room (Nat.le_of_ble_eq_true rfl)) dX9_pour_90 ⟨(Nat.le_of_ble_eq_true rfl), (Nat.le_of_ble_eq_true rfl)⟩) hw (fun r_90 M_90 H locs hp hw => ?_)
            obtain ⟨rfl, hM2, hS2⟩ := hp
            have e9 : r_pour (C, S, P, T, b, w, v, o) x1 x2 x3 x4 = (0, s_tells (C, S, P, T, b, w, v, o) x3 x4 (f_fitted x3 (C ((200 * x1) + x2).toNatClampNeg))) := by simp only [r_pour, f_at, f_clip, c_4, c_11, c_26, c_45, c_76, not_false_eq_true, not_true_eq_false, if_true, if_false, ↓reduceIte]
            exact h_iret X hr hlk (Nat.le_of_ble_eq_true rfl) (Nat.le_of_ble_eq_true rfl) hw (by rw [e9]; exact ⟨rfl, hM2, hS2⟩) dX9_pour_93
          · have c_76 := (not_congr (lg_cmp_le _ _)).mp c_76
            refine lv_ldc2 (v := 2147483647) hx hb hown (hts _ tb_384) dX9_pour_79 ?_
            refine lv_goto (tgt := 87) hx hb dX9_pour_82 (by decide) ?_
            refine h_calll (h_runS (rest := [.int x4, .int x3, .ref (md 0)]) X hml tb_392 tb_10 tb_390 tb_391 (by decide +kernel) (by decide +kernel) (c_X9_fitted l D dA z M x3 2147483647 (fun _ => Nat.lt_of_le_of_lt (by first | exact hO.2.2.2.1 _ (vp_lt (lacks_in hO.1 c_26)) | decide) (by decide))) ⟨(Nat.le_of_ble_eq_true rfl), (Nat.le_of_ble_eq_true rfl)⟩ hw rfl hl.1 rfl (lv_room (Nat.le_of_ble_eq_true rfl)) dX9_pour_87 ⟨(Nat.le_of_ble_eq_true rfl), (Nat.le_of_ble_eq_true rfl)⟩) hw (fun r_87 M_87 H locs hp hw => ?_)
            obtain ⟨rfl, rfl⟩ := hp
            refine h_calli (h_runV (rest := []) X hml tb_383 tb_10 tb_380 tb_382 tp_tells9 (by decide +kernel) (by decide +kernel) (c_X9_tells l D dA z M md C S P T b w v o x3 x4 (f_fitted x3 2147483647) hM (lacks_in hO.1 c_45)) ⟨(Nat.le_of_ble_eq_true rfl), (Nat.le_of_ble_eq_true rfl)⟩ hw (rfl : vwCl[7]? = some (RX9, TX9, 8)) rfl h0 rfl hl.1 rfl (lv_room (Nat.le_of_ble_eq_true rfl)) dX9_pour_90 ⟨(Nat.le_of_ble_eq_true rfl), (Nat.le_of_ble_eq_true rfl)⟩) hw (fun r_90 M_90 H locs hp hw => ?_)
            obtain ⟨rfl, hM2, hS2⟩ := hp
            have e9 : r_pour (C, S, P, T, b, w, v, o) x1 x2 x3 x4 = (0, s_tells (C, S, P, T, b, w, v, o) x3 x4 (f_fitted x3 2147483647)) := by simp only [r_pour, f_at, f_clip, c_4, c_11, c_26, c_45, c_76, not_false_eq_true, not_true_eq_false, if_true, if_false, ↓reduceIte]
            exact h_iret X hr hlk (Nat.le_of_ble_eq_true rfl) (Nat.le_of_ble_eq_true rfl) hw (by rw [e9]; exact ⟨rfl, hM2, hS2⟩) dX9_pour_93
        · refine lv_iload hx hb dX9_pour_48 (lv_at hl 0 rfl) ?_
          have e9 : r_pour (C, S, P, T, b, w, v, o) x1 x2 x3 x4 = (f_lacks S x1 x2, (C, S, P, T, b, w, v, o)) := by simp only [r_pour, f_at, f_clip, c_4, c_11, c_26, c_45, not_false_eq_true, not_true_eq_false, if_true, if_false, ↓reduceIte]
          exact h_iret X hr hlk (Nat.le_of_ble_eq_true rfl) (Nat.le_of_ble_eq_true rfl) hw (by rw [e9]; exact ⟨rfl, ⟨h0, h1, h2, h3, h4⟩, Same.rf⟩) dX9_pour_50
    · refine lv_iconst (v := 1) hx hb dX9_pour_14 (by decide) ?_
      have e9 : r_pour (C, S, P, T, b, w, v, o) x1 x2 x3 x4 = (1, (C, S, P, T, b, w, v, o)) := by simp only [r_pour, f_at, f_clip, c_4, c_11, not_false_eq_true, not_true_eq_false, if_true, if_false, ↓reduceIte]
      exact h_iret X hr hlk (Nat.le_of_ble_eq_true rfl) (Nat.le_of_ble_eq_true rfl) hw (by rw [e9]; exact ⟨rfl, ⟨h0, h1, h2, h3, h4⟩, Same.rf⟩) dX9_pour_15
end
section
set_option maxHeartbeats 4000000 in
set_option maxRecDepth 100000 in
theorem c_X9_lacksRow (l : Launch) (D : va_G) (dA : Nat → ClassId) (z : Nat) (M : Mp) (md : Nat → Nat) (C : Nat → Int64) (S P T : Nat → Int32) (b w v o : Int32) (x1 : Int32) (hM : MR dA M md (C, S, P, T, b, w, v, o)) (hO : Ok (C, S, P, T, b, w, v, o)) : CQ l D dA z yX9_lacksRow cX9_lacksRow 2 (some .int) [.ref (md 0), .int x1] (rmN 0 0) M (Qi D dA z (fun r M' => M' = M ∧ r = f_lacksRow (C, S, P, T, b, w, v, o) x1)) := by
  refine ct_of (cc := cX9_lacksRow) (maxL := 2) (ret := some .int) (by decide) rfl (by decide) ?_
  intro p e s m below meth c X hml hr hin hlk hw ls hl
  have X : Cx p s m _ c cX9_lacksRow RX9 lw_tbl D vwCl (aT dA) := X
  obtain ⟨hx, hb, hown, hts, hK⟩ := id X
  have hl : lv_has ls 2 [(0, .ref (md 0)), (1, .int x1)] := hl
  obtain ⟨h0, h1, h2, h3, h4⟩ := id hM
  have hn := hM.ne
  have h0 : M (md 0) = some (.inr (7, [.ref (md 1), .ref (md 2), .ref (md 3), .ref (md 4), .int b, .int w, .int v, .int o])) := h0
  have h1 : M (md 1) = some (.inl (dA 6, 1000, .inr (.inl C))) := h1
  have h2 : M (md 2) = some (.inl (dA 5, 5, .inl S)) := h2
  have h3 : M (md 3) = some (.inl (dA 5, 1600, .inl P)) := h3
  have h4 : M (md 4) = some (.inl (dA 3, 40, .inl T)) := h4
  refine lv_aload_n hx hb dX9_lacksRow_0 rfl (lv_at hl 0 rfl) ?_
  refine h_get X inX9 (rfl : vwCl[7]? = some (RX9, TX9, 8)) 4 (by decide) tb_339 (fun _ h => h) hw h0 rfl dX9_lacksRow_1 ?_
  refine lv_if_ne (tgt := 9) hx hb dX9_lacksRow_4 (by decide) (fun c_4 => ?_) (fun c_4 => ?_)
  · refine lv_iload_n hx hb dX9_lacksRow_9 rfl (lv_at hl 1 rfl) ?_
    refine lv_if_lt (tgt := 21) hx hb dX9_lacksRow_10 (by decide) (fun c_10 => ?_) (fun c_10 => ?_)
    · refine lv_iconst (v := 3) hx hb dX9_lacksRow_21 (by decide) ?_
      exact h_iret X hr hlk (Nat.le_of_ble_eq_true rfl) (Nat.le_of_ble_eq_true rfl) hw ⟨rfl, by simp only [f_lacksRow, c_4, c_10, not_false_eq_true, not_true_eq_false, if_true, if_false, ↓reduceIte]⟩ dX9_lacksRow_22
    · refine lv_iload_n hx hb dX9_lacksRow_13 rfl (lv_at hl 1 rfl) ?_
      refine lv_aload_n hx hb dX9_lacksRow_14 rfl (lv_at hl 0 rfl) ?_
      refine h_get X inX9 (rfl : vwCl[7]? = some (RX9, TX9, 8)) 5 (by decide) tb_340 (fun _ h => h) hw h0 rfl dX9_lacksRow_15 ?_
      refine lv_icmp_lt (tgt := 23) hx hb dX9_lacksRow_18 (by decide) (fun c_18 => ?_) (fun c_18 => ?_)
      · refine lv_aload_n hx hb dX9_lacksRow_23 rfl (lv_at hl 0 rfl) ?_
        refine h_get X inX9 (rfl : vwCl[7]? = some (RX9, TX9, 8)) 3 (by decide) tb_338 (fun _ h => h) hw h0 rfl dX9_lacksRow_24 ?_
        refine lv_iload_n hx hb dX9_lacksRow_27 rfl (lv_at hl 1 rfl) ?_
        refine h_zald X 3 rfl hw h4 (row_in hO c_10 c_18) dX9_lacksRow_28 ?_
        refine lv_if_eq (tgt := 36) hx hb dX9_lacksRow_29 (by decide) (fun c_29 => ?_) (fun c_29 => ?_)
        · refine lv_iconst (v := 0) hx hb dX9_lacksRow_36 (by decide) ?_
          exact h_iret X hr hlk (Nat.le_of_ble_eq_true rfl) (Nat.le_of_ble_eq_true rfl) hw ⟨rfl, by simp only [f_lacksRow, c_4, c_10, c_18, c_29, not_false_eq_true, not_true_eq_false, if_true, if_false, ↓reduceIte]⟩ dX9_lacksRow_37
        · refine lv_iconst (v := 2) hx hb dX9_lacksRow_32 (by decide) ?_
          refine lv_goto (tgt := 37) hx hb dX9_lacksRow_33 (by decide) ?_
          exact h_iret X hr hlk (Nat.le_of_ble_eq_true rfl) (Nat.le_of_ble_eq_true rfl) hw ⟨rfl, by simp only [f_lacksRow, c_4, c_10, c_18, c_29, not_false_eq_true, not_true_eq_false, if_true, if_false, ↓reduceIte]⟩ dX9_lacksRow_37
      · refine lv_iconst (v := 3) hx hb dX9_lacksRow_21 (by decide) ?_
        exact h_iret X hr hlk (Nat.le_of_ble_eq_true rfl) (Nat.le_of_ble_eq_true rfl) hw ⟨rfl, by simp only [f_lacksRow, c_4, c_10, c_18, not_false_eq_true, not_true_eq_false, if_true, if_false, ↓reduceIte]⟩ dX9_lacksRow_22
  · refine lv_iconst (v := 2) hx hb dX9_lacksRow_7 (by decide) ?_
    exact h_iret X hr hlk (Nat.le_of_ble_eq_true rfl) (Nat.le_of_ble_eq_true rfl) hw ⟨rfl, by simp only [f_lacksRow, c_4, not_false_eq_true, not_true_eq_false, if_true, if_false, ↓reduceIte]⟩ dX9_lacksRow_8
set_option maxHeartbeats 4000000 in
set_option maxRecDepth 100000 in
theorem c_X9_lacksPeg (l : Launch) (D : va_G) (dA : Nat → ClassId) (z : Nat) (M : Mp) (md : Nat → Nat) (C : Nat → Int64) (S P T : Nat → Int32) (b w v o : Int32) (x1 : Int32) (x2 : Int32) (hM : MR dA M md (C, S, P, T, b, w, v, o)) (hO : Ok (C, S, P, T, b, w, v, o)) : CQ l D dA z yX9_lacksPeg cX9_lacksPeg 4 (some .int) [.ref (md 0), .int x1, .int x2] (rmN 1 21) M (Qi D dA z (fun r M' => M' = M ∧ r = f_lacksPeg (C, S, P, T, b, w, v, o) x1 x2)) := by
  refine ct_of (cc := cX9_lacksPeg) (maxL := 4) (ret := some .int) (by decide) rfl (by decide) ?_
  intro p e s m below meth c X hml hr hin hlk hw ls hl
  have X : Cx p s m _ c cX9_lacksPeg RX9 lw_tbl D vwCl (aT dA) := X
  obtain ⟨hx, hb, hown, hts, hK⟩ := id X
  have hl : lv_has ls 4 [(0, .ref (md 0)), (1, .int x1), (2, .int x2)] := hl
  obtain ⟨h0, h1, h2, h3, h4⟩ := id hM
  have hn := hM.ne
  have h0 : M (md 0) = some (.inr (7, [.ref (md 1), .ref (md 2), .ref (md 3), .ref (md 4), .int b, .int w, .int v, .int o])) := h0
  have h1 : M (md 1) = some (.inl (dA 6, 1000, .inr (.inl C))) := h1
  have h2 : M (md 2) = some (.inl (dA 5, 5, .inl S)) := h2
  have h3 : M (md 3) = some (.inl (dA 5, 1600, .inl P)) := h3
  have h4 : M (md 4) = some (.inl (dA 3, 40, .inl T)) := h4
  refine lv_aload_n hx hb dX9_lacksPeg_0 rfl (lv_at hl 0 rfl) ?_
  refine lv_iload_n hx hb dX9_lacksPeg_1 rfl (lv_at hl 1 rfl) ?_
  refine h_calli (h_runV (rest := []) X hml tb_445 tb_10 tb_442 tb_444 tp_lacksRow9 (by decide +kernel) (by decide +kernel) (c_X9_lacksRow l D dA z M md C S P T b w v o x1 hM hO) ⟨(Nat.le_of_ble_eq_true rfl), (Nat.le_of_ble_eq_true rfl)⟩ hw (rfl : vwCl[7]? = some (RX9, TX9, 8)) rfl h0 rfl hl.1 rfl (lv_room (Nat.le_of_ble_eq_true rfl)) dX9_lacksPeg_2 ⟨(Nat.le_of_ble_eq_true rfl), (Nat.le_of_ble_eq_true rfl)⟩) hw (fun r_2 M_2 H locs hp hw => ?_)
  obtain ⟨rfl, rfl⟩ := hp
  refine lv_istore_n (lv' := [(3, .int (f_lacksRow (C, S, P, T, b, w, v, o) x1)), (0, .ref (md 0)), (1, .int x1), (2, .int x2)]) hx hb dX9_lacksPeg_5 rfl hl (by decide) rfl (fun ls hl => ?_)
  refine lv_iload_n hx hb dX9_lacksPeg_6 rfl (lv_at hl 0 rfl) ?_
  refine lv_if_le (tgt := 14) hx hb dX9_lacksPeg_7 (by decide) (fun c_7 => ?_) (fun c_7 => ?_)
  · refine lv_iload_n hx hb dX9_lacksPeg_14 rfl (lv_at hl 3 rfl) ?_
    refine lv_if_lt (tgt := 26) hx hb dX9_lacksPeg_15 (by decide) (fun c_15 => ?_) (fun c_15 => ?_)
    · refine lv_iconst (v := 3) hx hb dX9_lacksPeg_26 (by decide) ?_
      refine lv_goto (tgt := 31) hx hb dX9_lacksPeg_27 (by decide) ?_
      exact h_iret X hr hlk (Nat.le_of_ble_eq_true rfl) (Nat.le_of_ble_eq_true rfl) hw ⟨rfl, by simp only [f_lacksPeg, c_7, c_15, not_false_eq_true, not_true_eq_false, if_true, if_false, ↓reduceIte]⟩ dX9_lacksPeg_31
    · refine lv_iload_n hx hb dX9_lacksPeg_18 rfl (lv_at hl 3 rfl) ?_
      refine lv_aload_n hx hb dX9_lacksPeg_19 rfl (lv_at hl 1 rfl) ?_
      refine h_get X inX9 (rfl : vwCl[7]? = some (RX9, TX9, 8)) 6 (by decide) tb_341 (fun _ h => h) hw h0 rfl dX9_lacksPeg_20 ?_
      refine lv_icmp_lt (tgt := 30) hx hb dX9_lacksPeg_23 (by decide) (fun c_23 => ?_) (fun c_23 => ?_)
      · refine lv_iconst (v := 0) hx hb dX9_lacksPeg_30 (by decide) ?_
        exact h_iret X hr hlk (Nat.le_of_ble_eq_true rfl) (Nat.le_of_ble_eq_true rfl) hw ⟨rfl, by simp only [f_lacksPeg, c_7, c_15, c_23, not_false_eq_true, not_true_eq_false, if_true, if_false, ↓reduceIte]⟩ dX9_lacksPeg_31
      · refine lv_iconst (v := 3) hx hb dX9_lacksPeg_26 (by decide) ?_
        refine lv_goto (tgt := 31) hx hb dX9_lacksPeg_27 (by decide) ?_
        exact h_iret X hr hlk (Nat.le_of_ble_eq_true rfl) (Nat.le_of_ble_eq_true rfl) hw ⟨rfl, by simp only [f_lacksPeg, c_7, c_15, c_23, not_false_eq_true, not_true_eq_false, if_true, if_false, ↓reduceIte]⟩ dX9_lacksPeg_31
  · refine lv_iload_n hx hb dX9_lacksPeg_10 rfl (lv_at hl 0 rfl) ?_
    refine lv_goto (tgt := 31) hx hb dX9_lacksPeg_11 (by decide) ?_
    exact h_iret X hr hlk (Nat.le_of_ble_eq_true rfl) (Nat.le_of_ble_eq_true rfl) hw ⟨rfl, by simp only [f_lacksPeg, c_7, not_false_eq_true, not_true_eq_false, if_true, if_false, ↓reduceIte]⟩ dX9_lacksPeg_31
set_option maxHeartbeats 4000000 in
set_option maxRecDepth 100000 in
theorem c_X9_peg (l : Launch) (D : va_G) (dA : Nat → ClassId) (z : Nat) (M : Mp) (md : Nat → Nat) (C : Nat → Int64) (S P T : Nat → Int32) (b w v o : Int32) (x1 : Int32) (x2 : Int32) (x3 : Int32) (hM : MR dA M md (C, S, P, T, b, w, v, o)) (hO : Ok (C, S, P, T, b, w, v, o)) : CQ l D dA z yX9_peg cX9_peg 5 (some .int) [.ref (md 0), .int x1, .int x2, .int x3] (rmN 2 44) M (Qi D dA z (fun r M' => r = (r_peg (C, S, P, T, b, w, v, o) x1 x2 x3).1 ∧ MR dA M' md (r_peg (C, S, P, T, b, w, v, o) x1 x2 x3).2 ∧ Same md 5 M M')) := by
  refine ct_of (cc := cX9_peg) (maxL := 5) (ret := some .int) (by decide) rfl (by decide) ?_
  intro p e s m below meth c X hml hr hin hlk hw ls hl
  have X : Cx p s m _ c cX9_peg RX9 lw_tbl D vwCl (aT dA) := X
  obtain ⟨hx, hb, hown, hts, hK⟩ := id X
  have hl : lv_has ls 5 [(0, .ref (md 0)), (1, .int x1), (2, .int x2), (3, .int x3)] := hl
  obtain ⟨h0, h1, h2, h3, h4⟩ := id hM
  have hn := hM.ne
  have h0 : M (md 0) = some (.inr (7, [.ref (md 1), .ref (md 2), .ref (md 3), .ref (md 4), .int b, .int w, .int v, .int o])) := h0
  have h1 : M (md 1) = some (.inl (dA 6, 1000, .inr (.inl C))) := h1
  have h2 : M (md 2) = some (.inl (dA 5, 5, .inl S)) := h2
  have h3 : M (md 3) = some (.inl (dA 5, 1600, .inl P)) := h3
  have h4 : M (md 4) = some (.inl (dA 3, 40, .inl T)) := h4
  refine lv_aload_n hx hb dX9_peg_0 rfl (lv_at hl 0 rfl) ?_
  refine lv_iload_n hx hb dX9_peg_1 rfl (lv_at hl 1 rfl) ?_
  refine lv_iload_n hx hb dX9_peg_2 rfl (lv_at hl 2 rfl) ?_
  refine h_calli (h_runV (rest := []) X hml tb_441 tb_10 tb_438 tb_440 tp_lacksPeg9 (by decide +kernel) (by decide +kernel) (c_X9_lacksPeg l D dA z M md C S P T b w v o x1 x2 hM hO) ⟨(Nat.le_of_ble_eq_true rfl), (Nat.le_of_ble_eq_true rfl)⟩ hw (rfl : vwCl[7]? = some (RX9, TX9, 8)) rfl h0 rfl hl.1 rfl (lv_room (Nat.le_of_ble_eq_true rfl)) dX9_peg_3 ⟨(Nat.le_of_ble_eq_true rfl), (Nat.le_of_ble_eq_true rfl)⟩) hw (fun r_3 M_3 H locs hp hw => ?_)
  obtain ⟨rfl, rfl⟩ := hp
  refine lv_istore (lv' := [(4, .int (f_lacksPeg (C, S, P, T, b, w, v, o) x1 x2)), (0, .ref (md 0)), (1, .int x1), (2, .int x2), (3, .int x3)]) hx hb dX9_peg_6 hl (by decide) rfl (fun ls hl => ?_)
  refine lv_iload hx hb dX9_peg_8 (lv_at hl 0 rfl) ?_
  refine lv_if_le (tgt := 16) hx hb dX9_peg_10 (by decide) (fun c_10 => ?_) (fun c_10 => ?_)
  · refine lv_aload_n hx hb dX9_peg_16 rfl (lv_at hl 1 rfl) ?_
    refine h_get X inX9 (rfl : vwCl[7]? = some (RX9, TX9, 8)) 2 (by decide) tb_337 (fun _ h => h) hw h0 rfl dX9_peg_17 ?_
    refine lv_bipush (v := 40) hx hb dX9_peg_20 (by decide) ?_
    refine lv_iload_n hx hb dX9_peg_22 rfl (lv_at hl 2 rfl) ?_
    refine lv_imul hx hb dX9_peg_23 ?_
    refine lv_iload_n hx hb dX9_peg_24 rfl (lv_at hl 3 rfl) ?_
    refine lv_iadd hx hb dX9_peg_25 ?_
    refine lv_iload_n hx hb dX9_peg_26 rfl (lv_at hl 4 rfl) ?_
    refine h_iast X 5 rfl hw h3 (lacksPeg_in hO c_10) dX9_peg_27 (fun H locs hw => ?_)
    have hw : wd D vwCl z (mU M (md 3) (.inl (dA 5, 1600, .inl (upd P ((40 * x1) + x2).toNatClampNeg x3)))) s.heap H locs := hw
    have hk2 := (mU_n (M) (.inl (dA 5, 1600, .inl (upd P ((40 * x1) + x2).toNatClampNeg x3))) (hn 0 3 (by decide) (by decide) (by decide))).trans h0
    have hk3 := (mU_n (M) (.inl (dA 5, 1600, .inl (upd P ((40 * x1) + x2).toNatClampNeg x3))) (hn 1 3 (by decide) (by decide) (by decide))).trans h1
    have hk4 := (mU_n (M) (.inl (dA 5, 1600, .inl (upd P ((40 * x1) + x2).toNatClampNeg x3))) (hn 2 3 (by decide) (by decide) (by decide))).trans h2
    have hk5 := (mU_n (M) (.inl (dA 5, 1600, .inl (upd P ((40 * x1) + x2).toNatClampNeg x3))) (hn 4 3 (by decide) (by decide) (by decide))).trans h4
    have hk6 := mU_s (M) (md 3) (.inl (dA 5, 1600, .inl (upd P ((40 * x1) + x2).toNatClampNeg x3)))
    refine lv_aload_n hx hb dX9_peg_28 rfl (lv_at hl 1 rfl) ?_
    refine lv_iload_n hx hb dX9_peg_29 rfl (lv_at hl 4 rfl) ?_
    refine h_put X inX9 (rfl : vwCl[7]? = some (RX9, TX9, 8)) tyX9 tyX9_ok nmX9 7 (by decide) tb_342 (fun _ h => h) rfl hw hk2 (ty := .int) (by decide +kernel) rfl rfl (Nat.le_of_ble_eq_true rfl) dX9_peg_30 (fun H locs hw => ?_)
    have hw : wd D vwCl z (mU (mU M (md 3) (.inl (dA 5, 1600, .inl (upd P ((40 * x1) + x2).toNatClampNeg x3)))) (md 0) (.inr (7, [.ref (md 1), .ref (md 2), .ref (md 3), .ref (md 4), .int b, .int w, .int v, .int x3]))) s.heap H locs := hw
    have hk8 := (mU_n (mU M (md 3) (.inl (dA 5, 1600, .inl (upd P ((40 * x1) + x2).toNatClampNeg x3)))) (.inr (7, [.ref (md 1), .ref (md 2), .ref (md 3), .ref (md 4), .int b, .int w, .int v, .int x3])) (hn 1 0 (by decide) (by decide) (by decide))).trans hk3
    have hk9 := (mU_n (mU M (md 3) (.inl (dA 5, 1600, .inl (upd P ((40 * x1) + x2).toNatClampNeg x3)))) (.inr (7, [.ref (md 1), .ref (md 2), .ref (md 3), .ref (md 4), .int b, .int w, .int v, .int x3])) (hn 2 0 (by decide) (by decide) (by decide))).trans hk4
    have hk10 := (mU_n (mU M (md 3) (.inl (dA 5, 1600, .inl (upd P ((40 * x1) + x2).toNatClampNeg x3)))) (.inr (7, [.ref (md 1), .ref (md 2), .ref (md 3), .ref (md 4), .int b, .int w, .int v, .int x3])) (hn 4 0 (by decide) (by decide) (by decide))).trans hk5
    have hk11 := (mU_n (mU M (md 3) (.inl (dA 5, 1600, .inl (upd P ((40 * x1) + x2).toNatClampNeg x3)))) (.inr (7, [.ref (md 1), .ref (md 2), .ref (md 3), .ref (md 4), .int b, .int w, .int v, .int x3])) (hn 3 0 (by decide) (by decide) (by decide))).trans hk6
    have hk12 := mU_s (mU M (md 3) (.inl (dA 5, 1600, .inl (upd P ((40 * x1) + x2).toNatClampNeg x3)))) (md 0) (.inr (7, [.ref (md 1), .ref (md 2), .ref (md 3), .ref (md 4), .int b, .int w, .int v, .int x3]))
    refine lv_iconst (v := 0) hx hb dX9_peg_33 (by decide) ?_
    have e9 : r_peg (C, S, P, T, b, w, v, o) x1 x2 x3 = (0, (C, S, (upd P ((40 * x1) + x2).toNatClampNeg x3), T, b, w, v, x3)) := by simp only [r_peg, f_pat, c_10, not_false_eq_true, not_true_eq_false, if_true, if_false, ↓reduceIte]
    exact h_iret X hr hlk (Nat.le_of_ble_eq_true rfl) (Nat.le_of_ble_eq_true rfl) hw (by rw [e9]; exact ⟨rfl, ⟨hk12, hk8, hk9, hk11, hk10⟩, (Same.put (Same.put Same.rf (show 3 < 5 by decide)) (show 0 < 5 by decide))⟩) dX9_peg_34
  · refine lv_iload hx hb dX9_peg_13 (lv_at hl 0 rfl) ?_
    have e9 : r_peg (C, S, P, T, b, w, v, o) x1 x2 x3 = (f_lacksPeg (C, S, P, T, b, w, v, o) x1 x2, (C, S, P, T, b, w, v, o)) := by simp only [r_peg, f_pat, c_10, not_false_eq_true, not_true_eq_false, if_true, if_false, ↓reduceIte]
    exact h_iret X hr hlk (Nat.le_of_ble_eq_true rfl) (Nat.le_of_ble_eq_true rfl) hw (by rw [e9]; exact ⟨rfl, ⟨h0, h1, h2, h3, h4⟩, Same.rf⟩) dX9_peg_15
set_option maxHeartbeats 4000000 in
set_option maxRecDepth 100000 in
theorem c_X9_look (l : Launch) (D : va_G) (dA : Nat → ClassId) (z : Nat) (M : Mp) (md : Nat → Nat) (C : Nat → Int64) (S P T : Nat → Int32) (b w v o : Int32) (x1 : Int32) (x2 : Int32) (hM : MR dA M md (C, S, P, T, b, w, v, o)) (hO : Ok (C, S, P, T, b, w, v, o)) : CQ l D dA z yX9_look cX9_look 4 (some .int) [.ref (md 0), .int x1, .int x2] (rmN 2 44) M (Qi D dA z (fun r M' => r = (r_look (C, S, P, T, b, w, v, o) x1 x2).1 ∧ MR dA M' md (r_look (C, S, P, T, b, w, v, o) x1 x2).2 ∧ Same md 5 M M')) := by
  refine ct_of (cc := cX9_look) (maxL := 4) (ret := some .int) (by decide) rfl (by decide) ?_
  intro p e s m below meth c X hml hr hin hlk hw ls hl
  have X : Cx p s m _ c cX9_look RX9 lw_tbl D vwCl (aT dA) := X
  obtain ⟨hx, hb, hown, hts, hK⟩ := id X
  have hl : lv_has ls 4 [(0, .ref (md 0)), (1, .int x1), (2, .int x2)] := hl
  obtain ⟨h0, h1, h2, h3, h4⟩ := id hM
  have hn := hM.ne
  have h0 : M (md 0) = some (.inr (7, [.ref (md 1), .ref (md 2), .ref (md 3), .ref (md 4), .int b, .int w, .int v, .int o])) := h0
  have h1 : M (md 1) = some (.inl (dA 6, 1000, .inr (.inl C))) := h1
  have h2 : M (md 2) = some (.inl (dA 5, 5, .inl S)) := h2
  have h3 : M (md 3) = some (.inl (dA 5, 1600, .inl P)) := h3
  have h4 : M (md 4) = some (.inl (dA 3, 40, .inl T)) := h4
  refine lv_aload_n hx hb dX9_look_0 rfl (lv_at hl 0 rfl) ?_
  refine lv_iload_n hx hb dX9_look_1 rfl (lv_at hl 1 rfl) ?_
  refine lv_iload_n hx hb dX9_look_2 rfl (lv_at hl 2 rfl) ?_
  refine h_calli (h_runV (rest := []) X hml tb_441 tb_10 tb_438 tb_440 tp_lacksPeg9 (by decide +kernel) (by decide +kernel) (c_X9_lacksPeg l D dA z M md C S P T b w v o x1 x2 hM hO) ⟨(Nat.le_of_ble_eq_true rfl), (Nat.le_of_ble_eq_true rfl)⟩ hw (rfl : vwCl[7]? = some (RX9, TX9, 8)) rfl h0 rfl hl.1 rfl (lv_room (Nat.le_of_ble_eq_true rfl)) dX9_look_3 ⟨(Nat.le_of_ble_eq_true rfl), (Nat.le_of_ble_eq_true rfl)⟩) hw (fun r_3 M_3 H locs hp hw => ?_)
  obtain ⟨rfl, rfl⟩ := hp
  refine lv_istore_n (lv' := [(3, .int (f_lacksPeg (C, S, P, T, b, w, v, o) x1 x2)), (0, .ref (md 0)), (1, .int x1), (2, .int x2)]) hx hb dX9_look_6 rfl hl (by decide) rfl (fun ls hl => ?_)
  refine lv_iload_n hx hb dX9_look_7 rfl (lv_at hl 0 rfl) ?_
  refine lv_if_le (tgt := 13) hx hb dX9_look_8 (by decide) (fun c_8 => ?_) (fun c_8 => ?_)
  · refine lv_aload_n hx hb dX9_look_13 rfl (lv_at hl 1 rfl) ?_
    refine lv_aload_n hx hb dX9_look_14 rfl (lv_at hl 1 rfl) ?_
    refine h_get X inX9 (rfl : vwCl[7]? = some (RX9, TX9, 8)) 2 (by decide) tb_337 (fun _ h => h) hw h0 rfl dX9_look_15 ?_
    refine lv_bipush (v := 40) hx hb dX9_look_18 (by decide) ?_
    refine lv_iload_n hx hb dX9_look_20 rfl (lv_at hl 2 rfl) ?_
    refine lv_imul hx hb dX9_look_21 ?_
    refine lv_iload_n hx hb dX9_look_22 rfl (lv_at hl 3 rfl) ?_
    refine lv_iadd hx hb dX9_look_23 ?_
    refine h_iald X 5 rfl hw h3 (lacksPeg_in hO c_8) dX9_look_24 ?_
    refine h_put X inX9 (rfl : vwCl[7]? = some (RX9, TX9, 8)) tyX9 tyX9_ok nmX9 7 (by decide) tb_342 (fun _ h => h) rfl hw h0 (ty := .int) (by decide +kernel) rfl rfl (Nat.le_of_ble_eq_true rfl) dX9_look_25 (fun H locs hw => ?_)
    have hw : wd D vwCl z (mU M (md 0) (.inr (7, [.ref (md 1), .ref (md 2), .ref (md 3), .ref (md 4), .int b, .int w, .int v, .int ((P ((40 * x1) + x2).toNatClampNeg))]))) s.heap H locs := hw
    have hk2 := (mU_n (M) (.inr (7, [.ref (md 1), .ref (md 2), .ref (md 3), .ref (md 4), .int b, .int w, .int v, .int ((P ((40 * x1) + x2).toNatClampNeg))])) (hn 1 0 (by decide) (by decide) (by decide))).trans h1
    have hk3 := (mU_n (M) (.inr (7, [.ref (md 1), .ref (md 2), .ref (md 3), .ref (md 4), .int b, .int w, .int v, .int ((P ((40 * x1) + x2).toNatClampNeg))])) (hn 2 0 (by decide) (by decide) (by decide))).trans h2
    have hk4 := (mU_n (M) (.inr (7, [.ref (md 1), .ref (md 2), .ref (md 3), .ref (md 4), .int b, .int w, .int v, .int ((P ((40 * x1) + x2).toNatClampNeg))])) (hn 3 0 (by decide) (by decide) (by decide))).trans h3
    have hk5 := (mU_n (M) (.inr (7, [.ref (md 1), .ref (md 2), .ref (md 3), .ref (md 4), .int b, .int w, .int v, .int ((P ((40 * x1) + x2).toNatClampNeg))])) (hn 4 0 (by decide) (by decide) (by decide))).trans h4
    have hk6 := mU_s (M) (md 0) (.inr (7, [.ref (md 1), .ref (md 2), .ref (md 3), .ref (md 4), .int b, .int w, .int v, .int ((P ((40 * x1) + x2).toNatClampNeg))]))
    refine lv_iconst (v := 0) hx hb dX9_look_28 (by decide) ?_
    have e9 : r_look (C, S, P, T, b, w, v, o) x1 x2 = (0, (C, S, P, T, b, w, v, (P ((40 * x1) + x2).toNatClampNeg))) := by simp only [r_look, f_pat, s_told, c_8, not_false_eq_true, not_true_eq_false, if_true, if_false, ↓reduceIte]
    exact h_iret X hr hlk (Nat.le_of_ble_eq_true rfl) (Nat.le_of_ble_eq_true rfl) hw (by rw [e9]; exact ⟨rfl, ⟨hk6, hk2, hk3, hk4, hk5⟩, (Same.put Same.rf (show 0 < 5 by decide))⟩) dX9_look_29
  · refine lv_iload_n hx hb dX9_look_11 rfl (lv_at hl 0 rfl) ?_
    have e9 : r_look (C, S, P, T, b, w, v, o) x1 x2 = (f_lacksPeg (C, S, P, T, b, w, v, o) x1 x2, (C, S, P, T, b, w, v, o)) := by simp only [r_look, f_pat, s_told, c_8, not_false_eq_true, not_true_eq_false, if_true, if_false, ↓reduceIte]
    exact h_iret X hr hlk (Nat.le_of_ble_eq_true rfl) (Nat.le_of_ble_eq_true rfl) hw (by rw [e9]; exact ⟨rfl, ⟨h0, h1, h2, h3, h4⟩, Same.rf⟩) dX9_look_12
set_option maxHeartbeats 4000000 in
set_option maxRecDepth 100000 in
theorem c_X9_take (l : Launch) (D : va_G) (dA : Nat → ClassId) (z : Nat) (M : Mp) (md : Nat → Nat) (C : Nat → Int64) (S P T : Nat → Int32) (b w v o : Int32) (x1 : Int32) (hM : MR dA M md (C, S, P, T, b, w, v, o)) (hO : Ok (C, S, P, T, b, w, v, o)) : CQ l D dA z yX9_take cX9_take 2 (some .int) [.ref (md 0), .int x1] (rmN 0 0) M (Qi D dA z (fun r M' => r = (r_take (C, S, P, T, b, w, v, o) x1).1 ∧ MR dA M' md (r_take (C, S, P, T, b, w, v, o) x1).2 ∧ Same md 5 M M')) := by
  refine ct_of (cc := cX9_take) (maxL := 2) (ret := some .int) (by decide) rfl (by decide) ?_
  intro p e s m below meth c X hml hr hin hlk hw ls hl
  have X : Cx p s m _ c cX9_take RX9 lw_tbl D vwCl (aT dA) := X
  obtain ⟨hx, hb, hown, hts, hK⟩ := id X
  have hl : lv_has ls 2 [(0, .ref (md 0)), (1, .int x1)] := hl
  obtain ⟨h0, h1, h2, h3, h4⟩ := id hM
  have hn := hM.ne
  have h0 : M (md 0) = some (.inr (7, [.ref (md 1), .ref (md 2), .ref (md 3), .ref (md 4), .int b, .int w, .int v, .int o])) := h0
  have h1 : M (md 1) = some (.inl (dA 6, 1000, .inr (.inl C))) := h1
  have h2 : M (md 2) = some (.inl (dA 5, 5, .inl S)) := h2
  have h3 : M (md 3) = some (.inl (dA 5, 1600, .inl P)) := h3
  have h4 : M (md 4) = some (.inl (dA 3, 40, .inl T)) := h4
  refine lv_aload_n hx hb dX9_take_0 rfl (lv_at hl 0 rfl) ?_
  refine h_get X inX9 (rfl : vwCl[7]? = some (RX9, TX9, 8)) 4 (by decide) tb_339 (fun _ h => h) hw h0 rfl dX9_take_1 ?_
  refine lv_if_ne (tgt := 9) hx hb dX9_take_4 (by decide) (fun c_4 => ?_) (fun c_4 => ?_)
  · refine lv_iload_n hx hb dX9_take_9 rfl (lv_at hl 1 rfl) ?_
    refine lv_if_lt (tgt := 21) hx hb dX9_take_10 (by decide) (fun c_10 => ?_) (fun c_10 => ?_)
    · refine lv_iconst (v := 3) hx hb dX9_take_21 (by decide) ?_
      have e9 : r_take (C, S, P, T, b, w, v, o) x1 = (3, (C, S, P, T, b, w, v, o)) := by simp only [r_take, vp_nb1, c_4, c_10, not_false_eq_true, not_true_eq_false, if_true, if_false, ↓reduceIte]
      exact h_iret X hr hlk (Nat.le_of_ble_eq_true rfl) (Nat.le_of_ble_eq_true rfl) hw (by rw [e9]; exact ⟨rfl, ⟨h0, h1, h2, h3, h4⟩, Same.rf⟩) dX9_take_22
    · refine lv_iload_n hx hb dX9_take_13 rfl (lv_at hl 1 rfl) ?_
      refine lv_aload_n hx hb dX9_take_14 rfl (lv_at hl 0 rfl) ?_
      refine h_get X inX9 (rfl : vwCl[7]? = some (RX9, TX9, 8)) 5 (by decide) tb_340 (fun _ h => h) hw h0 rfl dX9_take_15 ?_
      refine lv_icmp_lt (tgt := 23) hx hb dX9_take_18 (by decide) (fun c_18 => ?_) (fun c_18 => ?_)
      · refine lv_aload_n hx hb dX9_take_23 rfl (lv_at hl 0 rfl) ?_
        refine h_get X inX9 (rfl : vwCl[7]? = some (RX9, TX9, 8)) 3 (by decide) tb_338 (fun _ h => h) hw h0 rfl dX9_take_24 ?_
        refine lv_iload_n hx hb dX9_take_27 rfl (lv_at hl 1 rfl) ?_
        refine lv_iconst (v := 1) hx hb dX9_take_28 (by decide) ?_
        refine h_zast X 3 rfl hw h4 (row_in hO c_10 c_18) dX9_take_29 (fun H locs hw => ?_)
        have hw : wd D vwCl z (mU M (md 4) (.inl (dA 3, 40, .inl (upd T x1.toNatClampNeg (vp_nar .boolean 1))))) s.heap H locs := hw
        have hk2 := (mU_n (M) (.inl (dA 3, 40, .inl (upd T x1.toNatClampNeg (vp_nar .boolean 1)))) (hn 0 4 (by decide) (by decide) (by decide))).trans h0
        have hk3 := (mU_n (M) (.inl (dA 3, 40, .inl (upd T x1.toNatClampNeg (vp_nar .boolean 1)))) (hn 1 4 (by decide) (by decide) (by decide))).trans h1
        have hk4 := (mU_n (M) (.inl (dA 3, 40, .inl (upd T x1.toNatClampNeg (vp_nar .boolean 1)))) (hn 2 4 (by decide) (by decide) (by decide))).trans h2
        have hk5 := (mU_n (M) (.inl (dA 3, 40, .inl (upd T x1.toNatClampNeg (vp_nar .boolean 1)))) (hn 3 4 (by decide) (by decide) (by decide))).trans h3
        have hk6 := mU_s (M) (md 4) (.inl (dA 3, 40, .inl (upd T x1.toNatClampNeg (vp_nar .boolean 1))))
        refine lv_iconst (v := 0) hx hb dX9_take_30 (by decide) ?_
        have e9 : r_take (C, S, P, T, b, w, v, o) x1 = (0, (C, S, P, (upd T x1.toNatClampNeg (vp_nar .boolean 1)), b, w, v, o)) := by simp only [r_take, vp_nb1, c_4, c_10, c_18, not_false_eq_true, not_true_eq_false, if_true, if_false, ↓reduceIte]
        exact h_iret X hr hlk (Nat.le_of_ble_eq_true rfl) (Nat.le_of_ble_eq_true rfl) hw (by rw [e9]; exact ⟨rfl, ⟨hk2, hk3, hk4, hk5, hk6⟩, (Same.put Same.rf (show 4 < 5 by decide))⟩) dX9_take_31
      · refine lv_iconst (v := 3) hx hb dX9_take_21 (by decide) ?_
        have e9 : r_take (C, S, P, T, b, w, v, o) x1 = (3, (C, S, P, T, b, w, v, o)) := by simp only [r_take, vp_nb1, c_4, c_10, c_18, not_false_eq_true, not_true_eq_false, if_true, if_false, ↓reduceIte]
        exact h_iret X hr hlk (Nat.le_of_ble_eq_true rfl) (Nat.le_of_ble_eq_true rfl) hw (by rw [e9]; exact ⟨rfl, ⟨h0, h1, h2, h3, h4⟩, Same.rf⟩) dX9_take_22
  · refine lv_iconst (v := 2) hx hb dX9_take_7 (by decide) ?_
    have e9 : r_take (C, S, P, T, b, w, v, o) x1 = (2, (C, S, P, T, b, w, v, o)) := by simp only [r_take, vp_nb1, c_4, not_false_eq_true, not_true_eq_false, if_true, if_false, ↓reduceIte]
    exact h_iret X hr hlk (Nat.le_of_ble_eq_true rfl) (Nat.le_of_ble_eq_true rfl) hw (by rw [e9]; exact ⟨rfl, ⟨h0, h1, h2, h3, h4⟩, Same.rf⟩) dX9_take_8
set_option maxHeartbeats 4000000 in
set_option maxRecDepth 100000 in
theorem c_X9_width (l : Launch) (D : va_G) (dA : Nat → ClassId) (z : Nat) (M : Mp) (md : Nat → Nat) (C : Nat → Int64) (S P T : Nat → Int32) (b w v o : Int32) (x1 : Int32) (hM : MR dA M md (C, S, P, T, b, w, v, o)) (hO : Ok (C, S, P, T, b, w, v, o)) : CQ l D dA z yX9_width cX9_width 3 (some .int) [.ref (md 0), .int x1] (rmN 1 21) M (Qi D dA z (fun r M' => r = (r_width (C, S, P, T, b, w, v, o) x1).1 ∧ MR dA M' md (r_width (C, S, P, T, b, w, v, o) x1).2 ∧ Same md 5 M M')) := by
  refine ct_of (cc := cX9_width) (maxL := 3) (ret := some .int) (by decide) rfl (by decide) ?_
  intro p e s m below meth c X hml hr hin hlk hw ls hl
  have X : Cx p s m _ c cX9_width RX9 lw_tbl D vwCl (aT dA) := X
  obtain ⟨hx, hb, hown, hts, hK⟩ := id X
  have hl : lv_has ls 3 [(0, .ref (md 0)), (1, .int x1)] := hl
  obtain ⟨h0, h1, h2, h3, h4⟩ := id hM
  have hn := hM.ne
  have h0 : M (md 0) = some (.inr (7, [.ref (md 1), .ref (md 2), .ref (md 3), .ref (md 4), .int b, .int w, .int v, .int o])) := h0
  have h1 : M (md 1) = some (.inl (dA 6, 1000, .inr (.inl C))) := h1
  have h2 : M (md 2) = some (.inl (dA 5, 5, .inl S)) := h2
  have h3 : M (md 3) = some (.inl (dA 5, 1600, .inl P)) := h3
  have h4 : M (md 4) = some (.inl (dA 3, 40, .inl T)) := h4
  refine lv_aload_n hx hb dX9_width_0 rfl (lv_at hl 0 rfl) ?_
  refine lv_iload_n hx hb dX9_width_1 rfl (lv_at hl 1 rfl) ?_
  refine h_calli (h_runV (rest := []) X hml tb_445 tb_10 tb_442 tb_444 tp_lacksRow9 (by decide +kernel) (by decide +kernel) (c_X9_lacksRow l D dA z M md C S P T b w v o x1 hM hO) ⟨(Nat.le_of_ble_eq_true rfl), (Nat.le_of_ble_eq_true rfl)⟩ hw (rfl : vwCl[7]? = some (RX9, TX9, 8)) rfl h0 rfl hl.1 rfl (lv_room (Nat.le_of_ble_eq_true rfl)) dX9_width_2 ⟨(Nat.le_of_ble_eq_true rfl), (Nat.le_of_ble_eq_true rfl)⟩) hw (fun r_2 M_2 H locs hp hw => ?_)
  obtain ⟨rfl, rfl⟩ := hp
  refine lv_istore_n (lv' := [(2, .int (f_lacksRow (C, S, P, T, b, w, v, o) x1)), (0, .ref (md 0)), (1, .int x1)]) hx hb dX9_width_5 rfl hl (by decide) rfl (fun ls hl => ?_)
  refine lv_iload_n hx hb dX9_width_6 rfl (lv_at hl 0 rfl) ?_
  refine lv_if_le (tgt := 12) hx hb dX9_width_7 (by decide) (fun c_7 => ?_) (fun c_7 => ?_)
  · refine lv_aload_n hx hb dX9_width_12 rfl (lv_at hl 1 rfl) ?_
    refine lv_aload_n hx hb dX9_width_13 rfl (lv_at hl 1 rfl) ?_
    refine h_get X inX9 (rfl : vwCl[7]? = some (RX9, TX9, 8)) 6 (by decide) tb_341 (fun _ h => h) hw h0 rfl dX9_width_14 ?_
    refine h_put X inX9 (rfl : vwCl[7]? = some (RX9, TX9, 8)) tyX9 tyX9_ok nmX9 7 (by decide) tb_342 (fun _ h => h) rfl hw h0 (ty := .int) (by decide +kernel) rfl rfl (Nat.le_of_ble_eq_true rfl) dX9_width_17 (fun H locs hw => ?_)
    have hw : wd D vwCl z (mU M (md 0) (.inr (7, [.ref (md 1), .ref (md 2), .ref (md 3), .ref (md 4), .int b, .int w, .int v, .int v]))) s.heap H locs := hw
    have hk2 := (mU_n (M) (.inr (7, [.ref (md 1), .ref (md 2), .ref (md 3), .ref (md 4), .int b, .int w, .int v, .int v])) (hn 1 0 (by decide) (by decide) (by decide))).trans h1
    have hk3 := (mU_n (M) (.inr (7, [.ref (md 1), .ref (md 2), .ref (md 3), .ref (md 4), .int b, .int w, .int v, .int v])) (hn 2 0 (by decide) (by decide) (by decide))).trans h2
    have hk4 := (mU_n (M) (.inr (7, [.ref (md 1), .ref (md 2), .ref (md 3), .ref (md 4), .int b, .int w, .int v, .int v])) (hn 3 0 (by decide) (by decide) (by decide))).trans h3
    have hk5 := (mU_n (M) (.inr (7, [.ref (md 1), .ref (md 2), .ref (md 3), .ref (md 4), .int b, .int w, .int v, .int v])) (hn 4 0 (by decide) (by decide) (by decide))).trans h4
    have hk6 := mU_s (M) (md 0) (.inr (7, [.ref (md 1), .ref (md 2), .ref (md 3), .ref (md 4), .int b, .int w, .int v, .int v]))
    refine lv_iconst (v := 0) hx hb dX9_width_20 (by decide) ?_
    have e9 : r_width (C, S, P, T, b, w, v, o) x1 = (0, (C, S, P, T, b, w, v, v)) := by simp only [r_width, s_told, c_7, not_false_eq_true, not_true_eq_false, if_true, if_false, ↓reduceIte]
    exact h_iret X hr hlk (Nat.le_of_ble_eq_true rfl) (Nat.le_of_ble_eq_true rfl) hw (by rw [e9]; exact ⟨rfl, ⟨hk6, hk2, hk3, hk4, hk5⟩, (Same.put Same.rf (show 0 < 5 by decide))⟩) dX9_width_21
  · refine lv_iload_n hx hb dX9_width_10 rfl (lv_at hl 0 rfl) ?_
    have e9 : r_width (C, S, P, T, b, w, v, o) x1 = (f_lacksRow (C, S, P, T, b, w, v, o) x1, (C, S, P, T, b, w, v, o)) := by simp only [r_width, s_told, c_7, not_false_eq_true, not_true_eq_false, if_true, if_false, ↓reduceIte]
    exact h_iret X hr hlk (Nat.le_of_ble_eq_true rfl) (Nat.le_of_ble_eq_true rfl) hw (by rw [e9]; exact ⟨rfl, ⟨h0, h1, h2, h3, h4⟩, Same.rf⟩) dX9_width_11
set_option maxHeartbeats 4000000 in
set_option maxRecDepth 100000 in
theorem c_X9_told (l : Launch) (D : va_G) (dA : Nat → ClassId) (z : Nat) (M : Mp) (md : Nat → Nat) (C : Nat → Int64) (S P T : Nat → Int32) (b w v o : Int32) (hM : MR dA M md (C, S, P, T, b, w, v, o)) : CQ l D dA z yX9_told cX9_told 1 (some .int) [.ref (md 0)] (rmN 0 0) M (Qi D dA z (fun r M' => M' = M ∧ r = o)) := by
  refine ct_of (cc := cX9_told) (maxL := 1) (ret := some .int) (by decide) rfl (by decide) ?_
  intro p e s m below meth c X hml hr hin hlk hw ls hl
  have X : Cx p s m _ c cX9_told RX9 lw_tbl D vwCl (aT dA) := X
  obtain ⟨hx, hb, hown, hts, hK⟩ := id X
  have hl : lv_has ls 1 [(0, .ref (md 0))] := hl
  obtain ⟨h0, h1, h2, h3, h4⟩ := id hM
  have hn := hM.ne
  have h0 : M (md 0) = some (.inr (7, [.ref (md 1), .ref (md 2), .ref (md 3), .ref (md 4), .int b, .int w, .int v, .int o])) := h0
  have h1 : M (md 1) = some (.inl (dA 6, 1000, .inr (.inl C))) := h1
  have h2 : M (md 2) = some (.inl (dA 5, 5, .inl S)) := h2
  have h3 : M (md 3) = some (.inl (dA 5, 1600, .inl P)) := h3
  have h4 : M (md 4) = some (.inl (dA 3, 40, .inl T)) := h4
  refine lv_aload_n hx hb dX9_told_0 rfl (lv_at hl 0 rfl) ?_
  refine h_get X inX9 (rfl : vwCl[7]? = some (RX9, TX9, 8)) 7 (by decide) tb_342 (fun _ h => h) hw h0 rfl dX9_told_1 ?_
  exact h_iret X hr hlk (Nat.le_of_ble_eq_true rfl) (Nat.le_of_ble_eq_true rfl) hw ⟨rfl, by simp only [eq_self, not_false_eq_true, not_true_eq_false, if_true, if_false, ↓reduceIte]⟩ dX9_told_4
end
