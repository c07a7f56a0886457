-- ===== PART A: goes FIRST, ahead of the names: the tables' words, and 'selects' of the private methods out of them =====
/-- a private method of a class that the tables say can be made, by its rows of tables_1 -/
def lw_okq (q : MethodName × Nat) : Prop := (q.1.cls ≠ "java/lang/invoke/MethodHandle" ∧ q.1.cls ≠ "java/lang/invoke/VarHandle") ∧ Cond.instantiable q.1.cls q.2 ∈ tables_1 ∧ Cond.privateMethod q.1 ∈ tables_1 ∧ Cond.instanceMethod q.1 ∈ tables_1
theorem lw_p0 : lw_okq (⟨"KeeperRolls", "isRoll", "(I)Z"⟩, 3) := ⟨⟨by decide +kernel, by decide +kernel⟩, List.mem_of_getElem? (i := 12) (by decide +kernel), List.mem_of_getElem? (i := 143) (by decide +kernel), List.mem_of_getElem? (i := 144) (by decide +kernel)⟩
theorem lw_p1 : lw_okq (⟨"KeeperRolls", "answerOfRoll", "(I)I"⟩, 3) := ⟨⟨by decide +kernel, by decide +kernel⟩, List.mem_of_getElem? (i := 12) (by decide +kernel), List.mem_of_getElem? (i := 182) (by decide +kernel), List.mem_of_getElem? (i := 183) (by decide +kernel)⟩
theorem lw_p2 : lw_okq (⟨"KeeperRolls", "answerOfCell", "(II)I"⟩, 3) := ⟨⟨by decide +kernel, by decide +kernel⟩, List.mem_of_getElem? (i := 12) (by decide +kernel), List.mem_of_getElem? (i := 190) (by decide +kernel), List.mem_of_getElem? (i := 191) (by decide +kernel)⟩
theorem lw_p3 : lw_okq (⟨"KeeperRolls", "hangingRolls", "()I"⟩, 3) := ⟨⟨by decide +kernel, by decide +kernel⟩, List.mem_of_getElem? (i := 12) (by decide +kernel), List.mem_of_getElem? (i := 322) (by decide +kernel), List.mem_of_getElem? (i := 323) (by decide +kernel)⟩
theorem lw_p4 : lw_okq (⟨"KeeperRollsModel", "lacks", "(II)I"⟩, 8) := ⟨⟨by decide +kernel, by decide +kernel⟩, List.mem_of_getElem? (i := 330) (by decide +kernel), List.mem_of_getElem? (i := 377) (by decide +kernel), List.mem_of_getElem? (i := 378) (by decide +kernel)⟩
theorem lw_p5 : lw_okq (⟨"KeeperRollsModel", "tells", "(IIJ)I"⟩, 8) := ⟨⟨by decide +kernel, by decide +kernel⟩, List.mem_of_getElem? (i := 330) (by decide +kernel), List.mem_of_getElem? (i := 381) (by decide +kernel), List.mem_of_getElem? (i := 382) (by decide +kernel)⟩
theorem lw_p6 : lw_okq (⟨"KeeperRollsModel", "lacksPeg", "(II)I"⟩, 8) := ⟨⟨by decide +kernel, by decide +kernel⟩, List.mem_of_getElem? (i := 330) (by decide +kernel), List.mem_of_getElem? (i := 439) (by decide +kernel), List.mem_of_getElem? (i := 440) (by decide +kernel)⟩
theorem lw_p7 : lw_okq (⟨"KeeperRollsModel", "lacksRow", "(I)I"⟩, 8) := ⟨⟨by decide +kernel, by decide +kernel⟩, List.mem_of_getElem? (i := 330) (by decide +kernel), List.mem_of_getElem? (i := 443) (by decide +kernel), List.mem_of_getElem? (i := 444) (by decide +kernel)⟩
def lw_privs_1 : List (MethodName × Nat) := [(⟨"KeeperRolls", "isRoll", "(I)Z"⟩, 3), (⟨"KeeperRolls", "answerOfRoll", "(I)I"⟩, 3), (⟨"KeeperRolls", "answerOfCell", "(II)I"⟩, 3), (⟨"KeeperRolls", "hangingRolls", "()I"⟩, 3), (⟨"KeeperRollsModel", "lacks", "(II)I"⟩, 8), (⟨"KeeperRollsModel", "tells", "(IIJ)I"⟩, 8), (⟨"KeeperRollsModel", "lacksPeg", "(II)I"⟩, 8), (⟨"KeeperRollsModel", "lacksRow", "(I)I"⟩, 8)]
theorem lw_r1 : ∀ q ∈ lw_privs_1, lw_okq q := List.forall_mem_cons.mpr ⟨lw_p0, List.forall_mem_cons.mpr ⟨lw_p1, List.forall_mem_cons.mpr ⟨lw_p2, List.forall_mem_cons.mpr ⟨lw_p3, List.forall_mem_cons.mpr ⟨lw_p4, List.forall_mem_cons.mpr ⟨lw_p5, List.forall_mem_cons.mpr ⟨lw_p6, List.forall_mem_cons.mpr ⟨lw_p7, fun _ h => absurd h List.not_mem_nil⟩⟩⟩⟩⟩⟩⟩⟩
def lw_privs : List (MethodName × Nat) := lw_privs_1
def lw_tbl : List Cond := k2_sels lw_privs ++ tables_1
theorem lw_privs_ok : ∀ q ∈ lw_privs, lw_okq q := lw_r1
/-! ===== BEGIN printed: names, fields, word lists, decode rows ===== -/
def RX0 : String := "KeeperRolls$Depths"
def TX0 : u_T := fun k => match k with
  | 0 => ("KeeperRolls$Roll", "hangs", "Z", false)
  | 1 => ("KeeperRolls$Roll", "length", "I", false)
  | _ => ("KeeperRolls$Depths", "cells", "[S", true)
def tyX0 : Nat → FieldType := fun k => match k with
  | 0 => .boolean
  | 1 => .int
  | _ => .array .short
abbrev wsX00 : List Cond := u_ws RX0 TX0 3
theorem nmX0 : ∀ a, a < 3 → ∀ b, b < 3 → a ≠ b → (TX0 a).2.1 ≠ (TX0 b).2.1 := by decide +kernel
theorem tyX0_ok : ∀ k, k < 3 → parseFieldDescriptor (TX0 k).2.2.1 = some (tyX0 k) := by decide +kernel
abbrev cX0_init : ByteArray := prog_2_method_1_code
def yX0_init : MethodName := ⟨RX0, "<init>", "()V"⟩
abbrev cX0_whole : ByteArray := prog_2_method_2_code
def yX0_whole : MethodName := ⟨RX0, "whole", "(I)I"⟩
abbrev cX0_put : ByteArray := prog_2_method_3_code
def yX0_put : MethodName := ⟨RX0, "put", "(II)V"⟩
def RX1 : String := "KeeperRolls$Glass"
def TX1 : u_T := fun k => match k with
  | 0 => ("KeeperRolls$Roll", "hangs", "Z", false)
  | 1 => ("KeeperRolls$Roll", "length", "I", false)
  | _ => ("KeeperRolls$Glass", "cells", "[F", true)
def tyX1 : Nat → FieldType := fun k => match k with
  | 0 => .boolean
  | 1 => .int
  | _ => .array .float
abbrev wsX10 : List Cond := u_ws RX1 TX1 3
theorem nmX1 : ∀ a, a < 3 → ∀ b, b < 3 → a ≠ b → (TX1 a).2.1 ≠ (TX1 b).2.1 := by decide +kernel
theorem tyX1_ok : ∀ k, k < 3 → parseFieldDescriptor (TX1 k).2.2.1 = some (tyX1 k) := by decide +kernel
abbrev cX1_init : ByteArray := prog_3_method_1_code
def yX1_init : MethodName := ⟨RX1, "<init>", "()V"⟩
abbrev cX1_whole : ByteArray := prog_3_method_2_code
def yX1_whole : MethodName := ⟨RX1, "whole", "(I)I"⟩
abbrev cX1_put : ByteArray := prog_3_method_3_code
def yX1_put : MethodName := ⟨RX1, "put", "(II)V"⟩
abbrev cX1_raise : ByteArray := prog_3_method_4_code
def yX1_raise : MethodName := ⟨RX1, "raise", "(II)V"⟩
abbrev cX1_multiply : ByteArray := prog_3_method_5_code
def yX1_multiply : MethodName := ⟨RX1, "multiply", "(II)V"⟩
abbrev cX1_real : ByteArray := prog_3_method_6_code
def yX1_real : MethodName := ⟨RX1, "real", "(I)F"⟩
abbrev cX1_within : ByteArray := prog_3_method_7_code
def yX1_within : MethodName := ⟨RX1, "within", "(F)F"⟩
def RX2 : String := "KeeperRolls$Lamps"
def TX2 : u_T := fun k => match k with
  | 0 => ("KeeperRolls$Roll", "hangs", "Z", false)
  | 1 => ("KeeperRolls$Roll", "length", "I", false)
  | _ => ("KeeperRolls$Lamps", "cells", "[Z", true)
def tyX2 : Nat → FieldType := fun k => match k with
  | 0 => .boolean
  | 1 => .int
  | _ => .array .boolean
abbrev wsX20 : List Cond := u_ws RX2 TX2 3
theorem nmX2 : ∀ a, a < 3 → ∀ b, b < 3 → a ≠ b → (TX2 a).2.1 ≠ (TX2 b).2.1 := by decide +kernel
theorem tyX2_ok : ∀ k, k < 3 → parseFieldDescriptor (TX2 k).2.2.1 = some (tyX2 k) := by decide +kernel
abbrev cX2_init : ByteArray := prog_4_method_1_code
def yX2_init : MethodName := ⟨RX2, "<init>", "()V"⟩
abbrev cX2_whole : ByteArray := prog_4_method_2_code
def yX2_whole : MethodName := ⟨RX2, "whole", "(I)I"⟩
abbrev cX2_put : ByteArray := prog_4_method_3_code
def yX2_put : MethodName := ⟨RX2, "put", "(II)V"⟩
abbrev cX2_raise : ByteArray := prog_4_method_4_code
def yX2_raise : MethodName := ⟨RX2, "raise", "(II)V"⟩
abbrev cX2_multiply : ByteArray := prog_4_method_5_code
def yX2_multiply : MethodName := ⟨RX2, "multiply", "(II)V"⟩
def RX3 : String := "KeeperRolls$Letters"
def TX3 : u_T := fun k => match k with
  | 0 => ("KeeperRolls$Roll", "hangs", "Z", false)
  | 1 => ("KeeperRolls$Roll", "length", "I", false)
  | _ => ("KeeperRolls$Letters", "cells", "[C", true)
def tyX3 : Nat → FieldType := fun k => match k with
  | 0 => .boolean
  | 1 => .int
  | _ => .array .char
abbrev wsX30 : List Cond := u_ws RX3 TX3 3
theorem nmX3 : ∀ a, a < 3 → ∀ b, b < 3 → a ≠ b → (TX3 a).2.1 ≠ (TX3 b).2.1 := by decide +kernel
theorem tyX3_ok : ∀ k, k < 3 → parseFieldDescriptor (TX3 k).2.2.1 = some (tyX3 k) := by decide +kernel
abbrev cX3_init : ByteArray := prog_5_method_1_code
def yX3_init : MethodName := ⟨RX3, "<init>", "()V"⟩
abbrev cX3_whole : ByteArray := prog_5_method_2_code
def yX3_whole : MethodName := ⟨RX3, "whole", "(I)I"⟩
abbrev cX3_put : ByteArray := prog_5_method_3_code
def yX3_put : MethodName := ⟨RX3, "put", "(II)V"⟩
def RX4 : String := "KeeperRolls$Notches"
def TX4 : u_T := fun k => match k with
  | 0 => ("KeeperRolls$Roll", "hangs", "Z", false)
  | 1 => ("KeeperRolls$Roll", "length", "I", false)
  | _ => ("KeeperRolls$Notches", "cells", "[B", true)
def tyX4 : Nat → FieldType := fun k => match k with
  | 0 => .boolean
  | 1 => .int
  | _ => .array .byte
abbrev wsX40 : List Cond := u_ws RX4 TX4 3
theorem nmX4 : ∀ a, a < 3 → ∀ b, b < 3 → a ≠ b → (TX4 a).2.1 ≠ (TX4 b).2.1 := by decide +kernel
theorem tyX4_ok : ∀ k, k < 3 → parseFieldDescriptor (TX4 k).2.2.1 = some (tyX4 k) := by decide +kernel
abbrev cX4_init : ByteArray := prog_6_method_1_code
def yX4_init : MethodName := ⟨RX4, "<init>", "()V"⟩
abbrev cX4_whole : ByteArray := prog_6_method_2_code
def yX4_whole : MethodName := ⟨RX4, "whole", "(I)I"⟩
abbrev cX4_put : ByteArray := prog_6_method_3_code
def yX4_put : MethodName := ⟨RX4, "put", "(II)V"⟩
def RX5 : String := "KeeperRolls$Numbers"
def TX5 : u_T := fun k => match k with
  | _ => ("", "", "", false)
def tyX5 : Nat → FieldType := fun k => match k with
  | _ => .int
abbrev wsX50 : List Cond := u_ws RX5 TX5 0
theorem nmX5 : ∀ a, a < 0 → ∀ b, b < 0 → a ≠ b → (TX5 a).2.1 ≠ (TX5 b).2.1 := by decide +kernel
theorem tyX5_ok : ∀ k, k < 0 → parseFieldDescriptor (TX5 k).2.2.1 = some (tyX5 k) := by decide +kernel
abbrev cX5_init : ByteArray := prog_7_method_1_code
def yX5_init : MethodName := ⟨RX5, "<init>", "()V"⟩
abbrev cX5_raise : ByteArray := prog_7_method_2_code
def yX5_raise : MethodName := ⟨RX5, "raise", "(II)V"⟩
abbrev cX5_multiply : ByteArray := prog_7_method_3_code
def yX5_multiply : MethodName := ⟨RX5, "multiply", "(II)V"⟩
def RX6 : String := "KeeperRolls$PegBoard"
def TX6 : u_T := fun k => match k with
  | 0 => ("KeeperRolls$PegBoard", "values", "[[I", true)
  | 1 => ("KeeperRolls$PegBoard", "taken", "[Z", true)
  | 2 => ("KeeperRolls$PegBoard", "stands", "Z", false)
  | 3 => ("KeeperRolls$PegBoard", "rows", "I", false)
  | _ => ("KeeperRolls$PegBoard", "cells", "I", false)
def tyX6 : Nat → FieldType := fun k => match k with
  | 0 => .array (.array .int)
  | 1 => .array .boolean
  | 2 => .boolean
  | 3 => .int
  | _ => .int
abbrev wsX60 : List Cond := u_ws RX6 TX6 5
theorem nmX6 : ∀ a, a < 5 → ∀ b, b < 5 → a ≠ b → (TX6 a).2.1 ≠ (TX6 b).2.1 := by decide +kernel
theorem tyX6_ok : ∀ k, k < 5 → parseFieldDescriptor (TX6 k).2.2.1 = some (tyX6 k) := by decide +kernel
abbrev cX6_init : ByteArray := prog_8_method_1_code
def yX6_init : MethodName := ⟨RX6, "<init>", "()V"⟩
abbrev cX6_setUp : ByteArray := prog_8_method_2_code
def yX6_setUp : MethodName := ⟨RX6, "setUp", "(II)V"⟩
abbrev cX6_answerOfPlace : ByteArray := prog_8_method_3_code
def yX6_answerOfPlace : MethodName := ⟨RX6, "answerOfPlace", "(I)I"⟩
abbrev cX6_answerOfRow : ByteArray := prog_8_method_4_code
def yX6_answerOfRow : MethodName := ⟨RX6, "answerOfRow", "(I)I"⟩
abbrev cX6_answerOfPeg : ByteArray := prog_8_method_5_code
def yX6_answerOfPeg : MethodName := ⟨RX6, "answerOfPeg", "(II)I"⟩
abbrev cX6_takenRows : ByteArray := prog_8_method_6_code
def yX6_takenRows : MethodName := ⟨RX6, "takenRows", "()I"⟩
def RX7 : String := "KeeperRolls$Roll"
def TX7 : u_T := fun k => match k with
  | _ => ("", "", "", false)
def tyX7 : Nat → FieldType := fun k => match k with
  | _ => .int
abbrev wsX70 : List Cond := u_ws RX7 TX7 0
theorem nmX7 : ∀ a, a < 0 → ∀ b, b < 0 → a ≠ b → (TX7 a).2.1 ≠ (TX7 b).2.1 := by decide +kernel
theorem tyX7_ok : ∀ k, k < 0 → parseFieldDescriptor (TX7 k).2.2.1 = some (tyX7 k) := by decide +kernel
abbrev cX7_init : ByteArray := prog_9_method_1_code
def yX7_init : MethodName := ⟨RX7, "<init>", "()V"⟩
abbrev cX7_unroll : ByteArray := prog_9_method_6_code
def yX7_unroll : MethodName := ⟨RX7, "unroll", "(I)V"⟩
def RX8 : String := "KeeperRolls"
def TX8 : u_T := fun k => match k with
  | 0 => ("KeeperRolls", "rolls", "[LKeeperRolls$Roll;", true)
  | 1 => ("KeeperRolls", "pegs", "LKeeperRolls$PegBoard;", true)
  | _ => ("KeeperRolls", "latest", "I", false)
def tyX8 : Nat → FieldType := fun k => match k with
  | 0 => .array (.object "KeeperRolls$Roll")
  | 1 => .object "KeeperRolls$PegBoard"
  | _ => .int
abbrev wsX80 : List Cond := u_ws RX8 TX8 3
theorem nmX8 : ∀ a, a < 3 → ∀ b, b < 3 → a ≠ b → (TX8 a).2.1 ≠ (TX8 b).2.1 := by decide +kernel
theorem tyX8_ok : ∀ k, k < 3 → parseFieldDescriptor (TX8 k).2.2.1 = some (tyX8 k) := by decide +kernel
abbrev cX8_init : ByteArray := prog_1_method_1_code
def yX8_init : MethodName := ⟨RX8, "<init>", "()V"⟩
abbrev cX8_hang : ByteArray := prog_1_method_2_code
def yX8_hang : MethodName := ⟨RX8, "hang", "(II)I"⟩
abbrev cX8_tear : ByteArray := prog_1_method_3_code
def yX8_tear : MethodName := ⟨RX8, "tear", "(I)I"⟩
abbrev cX8_read : ByteArray := prog_1_method_4_code
def yX8_read : MethodName := ⟨RX8, "read", "(II)I"⟩
abbrev cX8_mark : ByteArray := prog_1_method_5_code
def yX8_mark : MethodName := ⟨RX8, "mark", "(III)I"⟩
abbrev cX8_more : ByteArray := prog_1_method_6_code
def yX8_more : MethodName := ⟨RX8, "more", "(III)I"⟩
abbrev cX8_times : ByteArray := prog_1_method_7_code
def yX8_times : MethodName := ⟨RX8, "times", "(III)I"⟩
abbrev cX8_size : ByteArray := prog_1_method_8_code
def yX8_size : MethodName := ⟨RX8, "size", "(I)I"⟩
abbrev cX8_pour : ByteArray := prog_1_method_9_code
def yX8_pour : MethodName := ⟨RX8, "pour", "(IIII)I"⟩
abbrev cX8_board : ByteArray := prog_1_method_10_code
def yX8_board : MethodName := ⟨RX8, "board", "(II)I"⟩
abbrev cX8_peg : ByteArray := prog_1_method_11_code
def yX8_peg : MethodName := ⟨RX8, "peg", "(III)I"⟩
abbrev cX8_look : ByteArray := prog_1_method_12_code
def yX8_look : MethodName := ⟨RX8, "look", "(II)I"⟩
abbrev cX8_take : ByteArray := prog_1_method_13_code
def yX8_take : MethodName := ⟨RX8, "take", "(I)I"⟩
abbrev cX8_width : ByteArray := prog_1_method_14_code
def yX8_width : MethodName := ⟨RX8, "width", "(I)I"⟩
abbrev cX8_told : ByteArray := prog_1_method_15_code
def yX8_told : MethodName := ⟨RX8, "told", "()I"⟩
abbrev cX8_count : ByteArray := prog_1_method_16_code
def yX8_count : MethodName := ⟨RX8, "count", "(I)I"⟩
abbrev cX8_isRoll : ByteArray := prog_1_method_17_code
def yX8_isRoll : MethodName := ⟨RX8, "isRoll", "(I)Z"⟩
abbrev cX8_answerOfRoll : ByteArray := prog_1_method_18_code
def yX8_answerOfRoll : MethodName := ⟨RX8, "answerOfRoll", "(I)I"⟩
abbrev cX8_answerOfCell : ByteArray := prog_1_method_19_code
def yX8_answerOfCell : MethodName := ⟨RX8, "answerOfCell", "(II)I"⟩
abbrev cX8_hangingRolls : ByteArray := prog_1_method_20_code
def yX8_hangingRolls : MethodName := ⟨RX8, "hangingRolls", "()I"⟩
def RX9 : String := "KeeperRollsModel"
def TX9 : u_T := fun k => match k with
  | 0 => ("KeeperRollsModel", "cells", "[J", true)
  | 1 => ("KeeperRollsModel", "sizes", "[I", true)
  | 2 => ("KeeperRollsModel", "pegs", "[I", true)
  | 3 => ("KeeperRollsModel", "taken", "[Z", true)
  | 4 => ("KeeperRollsModel", "hasBoard", "Z", false)
  | 5 => ("KeeperRollsModel", "rows", "I", false)
  | 6 => ("KeeperRollsModel", "width", "I", false)
  | _ => ("KeeperRollsModel", "told", "I", false)
def tyX9 : Nat → FieldType := fun k => match k with
  | 0 => .array .long
  | 1 => .array .int
  | 2 => .array .int
  | 3 => .array .boolean
  | 4 => .boolean
  | 5 => .int
  | 6 => .int
  | _ => .int
abbrev wsX90 : List Cond := u_ws RX9 TX9 8
theorem nmX9 : ∀ a, a < 8 → ∀ b, b < 8 → a ≠ b → (TX9 a).2.1 ≠ (TX9 b).2.1 := by decide +kernel
theorem tyX9_ok : ∀ k, k < 8 → parseFieldDescriptor (TX9 k).2.2.1 = some (tyX9 k) := by decide +kernel
abbrev cX9_init : ByteArray := prog_11_method_1_code
def yX9_init : MethodName := ⟨RX9, "<init>", "()V"⟩
abbrev cX9_rounded : ByteArray := prog_11_method_2_code
def yX9_rounded : MethodName := ⟨RX9, "rounded", "(J)J"⟩
abbrev cX9_lowest : ByteArray := prog_11_method_3_code
def yX9_lowest : MethodName := ⟨RX9, "lowest", "(JJZ)J"⟩
abbrev cX9_bounded : ByteArray := prog_11_method_4_code
def yX9_bounded : MethodName := ⟨RX9, "bounded", "(J)J"⟩
abbrev cX9_fitted : ByteArray := prog_11_method_5_code
def yX9_fitted : MethodName := ⟨RX9, "fitted", "(IJ)J"⟩
abbrev cX9_raised : ByteArray := prog_11_method_6_code
def yX9_raised : MethodName := ⟨RX9, "raised", "(IJJ)J"⟩
abbrev cX9_multiplied : ByteArray := prog_11_method_7_code
def yX9_multiplied : MethodName := ⟨RX9, "multiplied", "(IJJ)J"⟩
abbrev cX9_isRoll : ByteArray := prog_11_method_8_code
def yX9_isRoll : MethodName := ⟨RX9, "isRoll", "(I)Z"⟩
abbrev cX9_lacks : ByteArray := prog_11_method_9_code
def yX9_lacks : MethodName := ⟨RX9, "lacks", "(II)I"⟩
abbrev cX9_tells : ByteArray := prog_11_method_10_code
def yX9_tells : MethodName := ⟨RX9, "tells", "(IIJ)I"⟩
abbrev cX9_hang : ByteArray := prog_11_method_11_code
def yX9_hang : MethodName := ⟨RX9, "hang", "(II)I"⟩
abbrev cX9_tear : ByteArray := prog_11_method_12_code
def yX9_tear : MethodName := ⟨RX9, "tear", "(I)I"⟩
abbrev cX9_read : ByteArray := prog_11_method_13_code
def yX9_read : MethodName := ⟨RX9, "read", "(II)I"⟩
abbrev cX9_mark : ByteArray := prog_11_method_14_code
def yX9_mark : MethodName := ⟨RX9, "mark", "(III)I"⟩
abbrev cX9_more : ByteArray := prog_11_method_15_code
def yX9_more : MethodName := ⟨RX9, "more", "(III)I"⟩
abbrev cX9_times : ByteArray := prog_11_method_16_code
def yX9_times : MethodName := ⟨RX9, "times", "(III)I"⟩
abbrev cX9_size : ByteArray := prog_11_method_17_code
def yX9_size : MethodName := ⟨RX9, "size", "(I)I"⟩
abbrev cX9_pour : ByteArray := prog_11_method_18_code
def yX9_pour : MethodName := ⟨RX9, "pour", "(IIII)I"⟩
abbrev cX9_board : ByteArray := prog_11_method_19_code
def yX9_board : MethodName := ⟨RX9, "board", "(II)I"⟩
abbrev cX9_lacksRow : ByteArray := prog_11_method_20_code
def yX9_lacksRow : MethodName := ⟨RX9, "lacksRow", "(I)I"⟩
abbrev cX9_lacksPeg : ByteArray := prog_11_method_21_code
def yX9_lacksPeg : MethodName := ⟨RX9, "lacksPeg", "(II)I"⟩
abbrev cX9_peg : ByteArray := prog_11_method_22_code
def yX9_peg : MethodName := ⟨RX9, "peg", "(III)I"⟩
abbrev cX9_look : ByteArray := prog_11_method_23_code
def yX9_look : MethodName := ⟨RX9, "look", "(II)I"⟩
abbrev cX9_take : ByteArray := prog_11_method_24_code
def yX9_take : MethodName := ⟨RX9, "take", "(I)I"⟩
abbrev cX9_width : ByteArray := prog_11_method_25_code
def yX9_width : MethodName := ⟨RX9, "width", "(I)I"⟩
abbrev cX9_told : ByteArray := prog_11_method_26_code
def yX9_told : MethodName := ⟨RX9, "told", "()I"⟩
abbrev cX9_count : ByteArray := prog_11_method_27_code
def yX9_count : MethodName := ⟨RX9, "count", "(I)I"⟩
def RL : String := "KeeperRollsLaw"
abbrev cL_law : ByteArray := code
def yL_law : MethodName := ⟨RL, "law", "([I)Z"⟩
set_option maxRecDepth 20000 in
theorem inX0 : ∀ w ∈ wsX00, w ∈ lw_tbl := by decide +kernel
set_option maxRecDepth 20000 in
theorem inX1 : ∀ w ∈ wsX10, w ∈ lw_tbl := by decide +kernel
set_option maxRecDepth 20000 in
theorem inX2 : ∀ w ∈ wsX20, w ∈ lw_tbl := by decide +kernel
set_option maxRecDepth 20000 in
theorem inX3 : ∀ w ∈ wsX30, w ∈ lw_tbl := by decide +kernel
set_option maxRecDepth 20000 in
theorem inX4 : ∀ w ∈ wsX40, w ∈ lw_tbl := by decide +kernel
set_option maxRecDepth 20000 in
theorem inX5 : ∀ w ∈ wsX50, w ∈ lw_tbl := by decide +kernel
set_option maxRecDepth 20000 in
theorem inX6 : ∀ w ∈ wsX60, w ∈ lw_tbl := by decide +kernel
set_option maxRecDepth 20000 in
theorem inX7 : ∀ w ∈ wsX70, w ∈ lw_tbl := by decide +kernel
set_option maxRecDepth 20000 in
theorem inX8 : ∀ w ∈ wsX80, w ∈ lw_tbl := by decide +kernel
set_option maxRecDepth 20000 in
theorem inX9 : ∀ w ∈ wsX90, w ∈ lw_tbl := by decide +kernel
abbrev vwCl : List vw_C := [(RX0, TX0, 3), (RX1, TX1, 3), (RX2, TX2, 3), (RX3, TX3, 3), (RX4, TX4, 3), (RX6, TX6, 5), (RX8, TX8, 3), (RX9, TX9, 8)]
