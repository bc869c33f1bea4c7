/-! ===== BEGIN words of one list among another's, by their places ===== -/
theorem goodIn_r {big : List Cond} (ws : List Cond) (ps : List Nat) (hp : ws = ps.filterMap (fun i => big[i]?)) (h : ws.all goodWord = true) : GoodIn big ws := by
  intro w hw
  have h1 := List.all_eq_true.mp h w hw
  rw [hp] at hw
  obtain ⟨i, -, hi⟩ := List.mem_filterMap.mp hw
  have hm : w ∈ big := by first | exact List.mem_of_getElem? hi | exact List.getElem?_mem hi
  exact ⟨hm, good_of_word h1⟩
theorem goodIn_app {big a b : List Cond} (ha : GoodIn big a) (hb : GoodIn big b) : GoodIn big (a ++ b) := fun w h => (List.mem_append.mp h).elim (ha w) (hb w)
theorem goodIn_ca {big a b : List Cond} {c : Cond} (ha : GoodIn big (c :: a)) (hb : GoodIn big b) : GoodIn big (c :: (a ++ b)) := fun w h => (List.mem_cons.mp h).elim (fun e => ha w (List.mem_cons.mpr (Or.inl e))) (fun h => (List.mem_append.mp h).elim (fun h => ha w (List.mem_cons.mpr (Or.inr h))) (hb w))
theorem goodIn_sub {big ws : List Cond} (hm : ∀ w ∈ ws, w ∈ big) (h : ws.all goodWord = true) : GoodIn big ws := fun w hw => ⟨hm w hw, good_of_word (List.all_eq_true.mp h w hw)⟩
/-! ===== END ===== -/

/-! ===== BEGIN printed: names, fields, word lists, decode rows ===== -/
def RX0 : String := "SharedStates$Blocks"
def TX0 : u_T := fun k => match k with
  | 0 => ("SharedStates$Blocks", "cells", "[I", true)
  | 1 => ("SharedStates$Blocks", "uses", "[I", true)
  | 2 => ("SharedStates$Blocks", "made", "I", false)
  | _ => ("SharedStates$Blocks", "taken", "I", false)
def tyX0 : Nat → FieldType := fun k => match k with
  | 0 => .array .int
  | 1 => .array .int
  | 2 => .int
  | _ => .int
abbrev wsX00 : List Cond := u_ws RX0 TX0 4
theorem nmX0 : ∀ a, a < 4 → ∀ b, b < 4 → a ≠ b → (TX0 a).2.1 ≠ (TX0 b).2.1 := by decide +kernel
theorem tyX0_ok : ∀ k, k < 4 → parseFieldDescriptor (TX0 k).2.2.1 = some (tyX0 k) := by decide +kernel
abbrev cX0_init : ByteArray := prog_2_method_1_code
def yX0_init : MethodName := ⟨RX0, "<init>", "()V"⟩
abbrev cX0_becomeLike : ByteArray := prog_2_method_2_code
def yX0_becomeLike : MethodName := ⟨RX0, "becomeLike", "(LSharedStates$Blocks;)V"⟩
abbrev cX0_usesOf : ByteArray := prog_2_method_3_code
def yX0_usesOf : MethodName := ⟨RX0, "usesOf", "(I)I"⟩
abbrev cX0_addUses : ByteArray := prog_2_method_4_code
def yX0_addUses : MethodName := ⟨RX0, "addUses", "(II)V"⟩
abbrev cX0_isThere : ByteArray := prog_2_method_5_code
def yX0_isThere : MethodName := ⟨RX0, "isThere", "(I)Z"⟩
abbrev cX0_cellOf : ByteArray := prog_2_method_6_code
def yX0_cellOf : MethodName := ⟨RX0, "cellOf", "(II)I"⟩
abbrev cX0_there : ByteArray := prog_2_method_7_code
def yX0_there : MethodName := ⟨RX0, "there", "()I"⟩
abbrev cX0_holds : ByteArray := prog_2_method_8_code
def yX0_holds : MethodName := ⟨RX0, "holds", "(I[II)Z"⟩
abbrev cX0_lowestHolding : ByteArray := prog_2_method_9_code
def yX0_lowestHolding : MethodName := ⟨RX0, "lowestHolding", "([II)I"⟩
abbrev cX0_lowestOtherLike : ByteArray := prog_2_method_10_code
def yX0_lowestOtherLike : MethodName := ⟨RX0, "lowestOtherLike", "(I)I"⟩
abbrev cX0_make : ByteArray := prog_2_method_11_code
def yX0_make : MethodName := ⟨RX0, "make", "([II)I"⟩
abbrev cX0_sumOf : ByteArray := prog_2_method_12_code
def yX0_sumOf : MethodName := ⟨RX0, "sumOf", "(I)I"⟩
abbrev cX0_nonZeroCells : ByteArray := prog_2_method_13_code
def yX0_nonZeroCells : MethodName := ⟨RX0, "nonZeroCells", "(I)I"⟩
abbrev cX0_doubles : ByteArray := prog_2_method_14_code
def yX0_doubles : MethodName := ⟨RX0, "doubles", "()I"⟩
def RX1 : String := "SharedStates$History"
def TX1 : u_T := fun k => match k with
  | 0 => ("SharedStates$History", "records", "[LSharedStates$World;", true)
  | 1 => ("SharedStates$History", "oldest", "I", false)
  | _ => ("SharedStates$History", "size", "I", false)
def tyX1 : Nat → FieldType := fun k => match k with
  | 0 => .array (.object "SharedStates$World")
  | 1 => .int
  | _ => .int
abbrev wsX10 : List Cond := u_ws RX1 TX1 3
theorem nmX1 : ∀ a, a < 3 → ∀ b, b < 3 → a ≠ b → (TX1 a).2.1 ≠ (TX1 b).2.1 := by decide +kernel
theorem tyX1_ok : ∀ k, k < 3 → parseFieldDescriptor (TX1 k).2.2.1 = some (tyX1 k) := by decide +kernel
abbrev cX1_init : ByteArray := prog_3_method_1_code
def yX1_init : MethodName := ⟨RX1, "<init>", "()V"⟩
abbrev cX1_add : ByteArray := prog_3_method_2_code
def yX1_add : MethodName := ⟨RX1, "add", "(LSharedStates$World;)LSharedStates$World;"⟩
def RX2 : String := "SharedStates$Orders"
def TX2 : u_T := fun k => match k with
  | 0 => ("SharedStates$Orders", "signs", "[I", true)
  | 1 => ("SharedStates$Orders", "numbers", "[I", true)
  | 2 => ("SharedStates$Orders", "length", "I", false)
  | 3 => ("SharedStates$Orders", "position", "I", false)
  | 4 => ("SharedStates$Orders", "done", "I", false)
  | 5 => ("SharedStates$Orders", "faultPosition", "I", false)
  | 6 => ("SharedStates$Orders", "faultReason", "I", false)
  | _ => ("SharedStates$Orders", "faultCause", "I", false)
def tyX2 : Nat → FieldType := fun k => match k with
  | 0 => .array .int
  | 1 => .array .int
  | 2 => .int
  | 3 => .int
  | 4 => .int
  | 5 => .int
  | 6 => .int
  | _ => .int
abbrev wsX20 : List Cond := u_ws RX2 TX2 8
theorem nmX2 : ∀ a, a < 8 → ∀ b, b < 8 → a ≠ b → (TX2 a).2.1 ≠ (TX2 b).2.1 := by decide +kernel
theorem tyX2_ok : ∀ k, k < 8 → parseFieldDescriptor (TX2 k).2.2.1 = some (tyX2 k) := by decide +kernel
abbrev cX2_init : ByteArray := prog_4_method_1_code
def yX2_init : MethodName := ⟨RX2, "<init>", "()V"⟩
def RX3 : String := "SharedStates$States"
def TX3 : u_T := fun k => match k with
  | 0 => ("SharedStates$States", "numbers", "[I", true)
  | 1 => ("SharedStates$States", "parents", "[I", true)
  | 2 => ("SharedStates$States", "places", "[I", true)
  | 3 => ("SharedStates$States", "size", "I", false)
  | _ => ("SharedStates$States", "made", "I", false)
def tyX3 : Nat → FieldType := fun k => match k with
  | 0 => .array .int
  | 1 => .array .int
  | 2 => .array .int
  | 3 => .int
  | _ => .int
abbrev wsX30 : List Cond := u_ws RX3 TX3 5
theorem nmX3 : ∀ a, a < 5 → ∀ b, b < 5 → a ≠ b → (TX3 a).2.1 ≠ (TX3 b).2.1 := by decide +kernel
theorem tyX3_ok : ∀ k, k < 5 → parseFieldDescriptor (TX3 k).2.2.1 = some (tyX3 k) := by decide +kernel
abbrev cX3_init : ByteArray := prog_5_method_1_code
def yX3_init : MethodName := ⟨RX3, "<init>", "()V"⟩
abbrev cX3_becomeLike : ByteArray := prog_5_method_2_code
def yX3_becomeLike : MethodName := ⟨RX3, "becomeLike", "(LSharedStates$States;)V"⟩
abbrev cX3_slotOf : ByteArray := prog_5_method_3_code
def yX3_slotOf : MethodName := ⟨RX3, "slotOf", "(I)I"⟩
abbrev cX3_numberOf : ByteArray := prog_5_method_4_code
def yX3_numberOf : MethodName := ⟨RX3, "numberOf", "(I)I"⟩
abbrev cX3_parentOf : ByteArray := prog_5_method_5_code
def yX3_parentOf : MethodName := ⟨RX3, "parentOf", "(I)I"⟩
abbrev cX3_parentSlot : ByteArray := prog_5_method_6_code
def yX3_parentSlot : MethodName := ⟨RX3, "parentSlot", "(I)I"⟩
abbrev cX3_block : ByteArray := prog_5_method_7_code
def yX3_block : MethodName := ⟨RX3, "block", "(II)I"⟩
abbrev cX3_add : ByteArray := prog_5_method_8_code
def yX3_add : MethodName := ⟨RX3, "add", "(I)I"⟩
abbrev cX3_remove : ByteArray := prog_5_method_9_code
def yX3_remove : MethodName := ⟨RX3, "remove", "(I)V"⟩
abbrev cX3_childrenOf : ByteArray := prog_5_method_10_code
def yX3_childrenOf : MethodName := ⟨RX3, "childrenOf", "(I)I"⟩
abbrev cX3_stepsFrom : ByteArray := prog_5_method_11_code
def yX3_stepsFrom : MethodName := ⟨RX3, "stepsFrom", "(I)I"⟩
abbrev cX3_commonSlot : ByteArray := prog_5_method_12_code
def yX3_commonSlot : MethodName := ⟨RX3, "commonSlot", "(II)I"⟩
abbrev cX3_unlikePlaces : ByteArray := prog_5_method_13_code
def yX3_unlikePlaces : MethodName := ⟨RX3, "unlikePlaces", "(II)I"⟩
abbrev cX3_placesWith : ByteArray := prog_5_method_14_code
def yX3_placesWith : MethodName := ⟨RX3, "placesWith", "(II)I"⟩
abbrev cX3_statesWith : ByteArray := prog_5_method_15_code
def yX3_statesWith : MethodName := ⟨RX3, "statesWith", "(I)I"⟩
abbrev cX3_isFirstPlace : ByteArray := prog_5_method_16_code
def yX3_isFirstPlace : MethodName := ⟨RX3, "isFirstPlace", "(II)Z"⟩
abbrev cX3_blocksIn : ByteArray := prog_5_method_17_code
def yX3_blocksIn : MethodName := ⟨RX3, "blocksIn", "(I)I"⟩
def RX4 : String := "SharedStates$World"
def TX4 : u_T := fun k => match k with
  | 0 => ("SharedStates$World", "blocks", "LSharedStates$Blocks;", true)
  | 1 => ("SharedStates$World", "states", "LSharedStates$States;", true)
  | 2 => ("SharedStates$World", "heads", "[I", true)
  | 3 => ("SharedStates$World", "draft", "[I", true)
  | 4 => ("SharedStates$World", "sharing", "I", false)
  | _ => ("SharedStates$World", "conflictsSoFar", "I", false)
def tyX4 : Nat → FieldType := fun k => match k with
  | 0 => .object "SharedStates$Blocks"
  | 1 => .object "SharedStates$States"
  | 2 => .array .int
  | 3 => .array .int
  | 4 => .int
  | _ => .int
abbrev wsX40 : List Cond := u_ws RX4 TX4 6
theorem nmX4 : ∀ a, a < 6 → ∀ b, b < 6 → a ≠ b → (TX4 a).2.1 ≠ (TX4 b).2.1 := by decide +kernel
theorem tyX4_ok : ∀ k, k < 6 → parseFieldDescriptor (TX4 k).2.2.1 = some (tyX4 k) := by decide +kernel
abbrev cX4_init : ByteArray := prog_6_method_1_code
def yX4_init : MethodName := ⟨RX4, "<init>", "()V"⟩
abbrev cX4_becomeLike : ByteArray := prog_6_method_2_code
def yX4_becomeLike : MethodName := ⟨RX4, "becomeLike", "(LSharedStates$World;)V"⟩
abbrev cX4_isBranch : ByteArray := prog_6_method_3_code
def yX4_isBranch : MethodName := ⟨RX4, "isBranch", "(I)Z"⟩
abbrev cX4_headSlot : ByteArray := prog_6_method_4_code
def yX4_headSlot : MethodName := ⟨RX4, "headSlot", "(I)I"⟩
abbrev cX4_branchesThere : ByteArray := prog_6_method_5_code
def yX4_branchesThere : MethodName := ⟨RX4, "branchesThere", "()I"⟩
abbrev cX4_branchesAt : ByteArray := prog_6_method_6_code
def yX4_branchesAt : MethodName := ⟨RX4, "branchesAt", "(I)I"⟩
abbrev cX4_cellAt : ByteArray := prog_6_method_7_code
def yX4_cellAt : MethodName := ⟨RX4, "cellAt", "(II)I"⟩
abbrev cX4_sumOfState : ByteArray := prog_6_method_8_code
def yX4_sumOfState : MethodName := ⟨RX4, "sumOfState", "(I)I"⟩
abbrev cX4_isItsOwn : ByteArray := prog_6_method_11_code
def yX4_isItsOwn : MethodName := ⟨RX4, "isItsOwn", "(II)Z"⟩
abbrev cX4_placesOfItsOwn : ByteArray := prog_6_method_12_code
def yX4_placesOfItsOwn : MethodName := ⟨RX4, "placesOfItsOwn", "(I)I"⟩
abbrev cX4_canForget : ByteArray := prog_6_method_14_code
def yX4_canForget : MethodName := ⟨RX4, "canForget", "(I)Z"⟩
abbrev cX4_draftState : ByteArray := prog_6_method_15_code
def yX4_draftState : MethodName := ⟨RX4, "draftState", "(I)V"⟩
abbrev cX4_fillCells : ByteArray := prog_6_method_16_code
def yX4_fillCells : MethodName := ⟨RX4, "fillCells", "(IIII)I"⟩
abbrev cX4_copyCells : ByteArray := prog_6_method_17_code
def yX4_copyCells : MethodName := ⟨RX4, "copyCells", "(IIIII)I"⟩
abbrev cX4_mergeState : ByteArray := prog_6_method_18_code
def yX4_mergeState : MethodName := ⟨RX4, "mergeState", "(II)I"⟩
abbrev cX4_draftMerge : ByteArray := prog_6_method_19_code
def yX4_draftMerge : MethodName := ⟨RX4, "draftMerge", "(III)I"⟩
abbrev cX4_addDraft : ByteArray := prog_6_method_20_code
def yX4_addDraft : MethodName := ⟨RX4, "addDraft", "(II)I"⟩
abbrev cX4_addBranch : ByteArray := prog_6_method_21_code
def yX4_addBranch : MethodName := ⟨RX4, "addBranch", "(I)I"⟩
abbrev cX4_dropBranch : ByteArray := prog_6_method_22_code
def yX4_dropBranch : MethodName := ⟨RX4, "dropBranch", "(I)I"⟩
abbrev cX4_stepBack : ByteArray := prog_6_method_23_code
def yX4_stepBack : MethodName := ⟨RX4, "stepBack", "(I)I"⟩
abbrev cX4_forgetState : ByteArray := prog_6_method_24_code
def yX4_forgetState : MethodName := ⟨RX4, "forgetState", "(I)I"⟩
abbrev cX4_shareBlocks : ByteArray := prog_6_method_25_code
def yX4_shareBlocks : MethodName := ⟨RX4, "shareBlocks", "()I"⟩
abbrev cX4_changeSetting : ByteArray := prog_6_method_26_code
def yX4_changeSetting : MethodName := ⟨RX4, "changeSetting", "(II)I"⟩
def RX5 : String := "SharedStates"
def TX5 : u_T := fun k => match k with
  | 0 => ("SharedStates", "world", "LSharedStates$World;", false)
  | 1 => ("SharedStates", "trial", "LSharedStates$World;", false)
  | 2 => ("SharedStates", "history", "LSharedStates$History;", true)
  | _ => ("SharedStates", "orders", "LSharedStates$Orders;", true)
def tyX5 : Nat → FieldType := fun k => match k with
  | 0 => .object "SharedStates$World"
  | 1 => .object "SharedStates$World"
  | 2 => .object "SharedStates$History"
  | _ => .object "SharedStates$Orders"
abbrev wsX50 : List Cond := u_ws RX5 TX5 4
theorem nmX5 : ∀ a, a < 4 → ∀ b, b < 4 → a ≠ b → (TX5 a).2.1 ≠ (TX5 b).2.1 := by decide +kernel
theorem tyX5_ok : ∀ k, k < 4 → parseFieldDescriptor (TX5 k).2.2.1 = some (tyX5 k) := by decide +kernel
abbrev cX5_init : ByteArray := prog_1_method_1_code
def yX5_init : MethodName := ⟨RX5, "<init>", "()V"⟩
abbrev cX5_write : ByteArray := prog_1_method_2_code
def yX5_write : MethodName := ⟨RX5, "write", "(III)I"⟩
abbrev cX5_fill : ByteArray := prog_1_method_3_code
def yX5_fill : MethodName := ⟨RX5, "fill", "(IIII)I"⟩
abbrev cX5_copy : ByteArray := prog_1_method_4_code
def yX5_copy : MethodName := ⟨RX5, "copy", "(IIIII)I"⟩
abbrev cX5_merge : ByteArray := prog_1_method_5_code
def yX5_merge : MethodName := ⟨RX5, "merge", "(II)I"⟩
abbrev cX5_branch : ByteArray := prog_1_method_6_code
def yX5_branch : MethodName := ⟨RX5, "branch", "(I)I"⟩
abbrev cX5_leave : ByteArray := prog_1_method_7_code
def yX5_leave : MethodName := ⟨RX5, "leave", "(I)I"⟩
abbrev cX5_back : ByteArray := prog_1_method_8_code
def yX5_back : MethodName := ⟨RX5, "back", "(I)I"⟩
abbrev cX5_forget : ByteArray := prog_1_method_9_code
def yX5_forget : MethodName := ⟨RX5, "forget", "(I)I"⟩
abbrev cX5_share : ByteArray := prog_1_method_10_code
def yX5_share : MethodName := ⟨RX5, "share", "()I"⟩
abbrev cX5_set : ByteArray := prog_1_method_11_code
def yX5_set : MethodName := ⟨RX5, "set", "(II)I"⟩
abbrev cX5_read : ByteArray := prog_1_method_12_code
def yX5_read : MethodName := ⟨RX5, "read", "(II)I"⟩
abbrev cX5_stateOf : ByteArray := prog_1_method_13_code
def yX5_stateOf : MethodName := ⟨RX5, "stateOf", "(II)I"⟩
abbrev cX5_number : ByteArray := prog_1_method_14_code
def yX5_number : MethodName := ⟨RX5, "number", "(I)I"⟩
abbrev cX5_blockAt : ByteArray := prog_1_method_15_code
def yX5_blockAt : MethodName := ⟨RX5, "blockAt", "(II)I"⟩
abbrev cX5_blockOf : ByteArray := prog_1_method_16_code
def yX5_blockOf : MethodName := ⟨RX5, "blockOf", "(II)I"⟩
abbrev cX5_head : ByteArray := prog_1_method_17_code
def yX5_head : MethodName := ⟨RX5, "head", "(I)I"⟩
abbrev cX5_count : ByteArray := prog_1_method_24_code
def yX5_count : MethodName := ⟨RX5, "count", "(I)I"⟩
abbrev cX5_startTrial : ByteArray := prog_1_method_30_code
def yX5_startTrial : MethodName := ⟨RX5, "startTrial", "()LSharedStates$World;"⟩
abbrev cX5_keepTrial : ByteArray := prog_1_method_31_code
def yX5_keepTrial : MethodName := ⟨RX5, "keepTrial", "(I)I"⟩
abbrev cX5_isIndex : ByteArray := prog_1_method_32_code
def yX5_isIndex : MethodName := ⟨RX5, "isIndex", "(II)Z"⟩
abbrev cX5_isRange : ByteArray := prog_1_method_33_code
def yX5_isRange : MethodName := ⟨RX5, "isRange", "(II)Z"⟩
abbrev cX5_foundOr : ByteArray := prog_1_method_34_code
def yX5_foundOr : MethodName := ⟨RX5, "foundOr", "(I)I"⟩
def RX6 : String := "SharedStatesModel"
def TX6 : u_T := fun k => match k with
  | _ => ("", "", "", false)
def tyX6 : Nat → FieldType := fun k => match k with
  | _ => .int
abbrev wsX60 : List Cond := u_ws RX6 TX6 0
theorem nmX6 : ∀ a, a < 0 → ∀ b, b < 0 → a ≠ b → (TX6 a).2.1 ≠ (TX6 b).2.1 := by decide +kernel
theorem tyX6_ok : ∀ k, k < 0 → parseFieldDescriptor (TX6 k).2.2.1 = some (tyX6 k) := by decide +kernel
def RJ10 : String := "java/lang/System"
def TJ10 : u_T := fun k => match k with
  | _ => ("", "", "", false)
def tyJ10 : Nat → FieldType := fun k => match k with
  | _ => .int
abbrev wsJ100 : List Cond := u_ws RJ10 TJ10 0
theorem nmJ10 : ∀ a, a < 0 → ∀ b, b < 0 → a ≠ b → (TJ10 a).2.1 ≠ (TJ10 b).2.1 := by decide +kernel
theorem tyJ10_ok : ∀ k, k < 0 → parseFieldDescriptor (TJ10 k).2.2.1 = some (tyJ10 k) := by decide +kernel
def RL : String := "SharedStatesLaw"
abbrev cL_cell : ByteArray := method_2_code
def yL_cell : MethodName := ⟨RL, "cell", "([II)I"⟩
abbrev cL_low : ByteArray := method_3_code
def yL_low : MethodName := ⟨RL, "low", "(II)I"⟩
abbrev cL_find : ByteArray := method_4_code
def yL_find : MethodName := ⟨RL, "find", "([I[II)I"⟩
abbrev cL_block : ByteArray := method_5_code
def yL_block : MethodName := ⟨RL, "block", "([JII)I"⟩
abbrev cL_inBlock : ByteArray := method_6_code
def yL_inBlock : MethodName := ⟨RL, "inBlock", "([J[JII)I"⟩
abbrev cL_read : ByteArray := method_7_code
def yL_read : MethodName := ⟨RL, "read", "([J[J[JII)I"⟩
abbrev cL_blocks : ByteArray := method_8_code
def yL_blocks : MethodName := ⟨RL, "blocks", "([J)I"⟩
abbrev cL_uses : ByteArray := method_9_code
def yL_uses : MethodName := ⟨RL, "uses", "([I[JIZ)I"⟩
abbrev cL_sweep : ByteArray := method_10_code
def yL_sweep : MethodName := ⟨RL, "sweep", "([I[J[J)I"⟩
abbrev cL_like : ByteArray := method_11_code
def yL_like : MethodName := ⟨RL, "like", "([J[JJJI)I"⟩
abbrev cL_store : ByteArray := method_12_code
def yL_store : MethodName := ⟨RL, "store", "([I[I[I[I[J[J[JI[I)I"⟩
abbrev cL_common : ByteArray := method_13_code
def yL_common : MethodName := ⟨RL, "common", "([I[I[III)I"⟩
abbrev cL_merge : ByteArray := method_14_code
def yL_merge : MethodName := ⟨RL, "merge", "([I[I[I[I[J[J[JII[I)I"⟩
abbrev cL_writes : ByteArray := method_15_code
def yL_writes : MethodName := ⟨RL, "writes", "(LSharedStates;[I[I[I[I[J[J[JII)Z"⟩
abbrev cL_branches : ByteArray := method_16_code
def yL_branches : MethodName := ⟨RL, "branches", "(LSharedStates;[I[I[I[III)Z"⟩
abbrev cL_stands : ByteArray := method_17_code
def yL_stands : MethodName := ⟨RL, "stands", "([II)Z"⟩
abbrev cL_forget : ByteArray := method_18_code
def yL_forget : MethodName := ⟨RL, "forget", "([I[I[I[J[JI)I"⟩
abbrev cL_share : ByteArray := method_19_code
def yL_share : MethodName := ⟨RL, "share", "([I[J[J[J)I"⟩
abbrev cL_acts : ByteArray := method_20_code
def yL_acts : MethodName := ⟨RL, "acts", "(LSharedStates;[I[I[I[I[J[J[JI)Z"⟩
abbrev cL_areBlocks : ByteArray := method_21_code
def yL_areBlocks : MethodName := ⟨RL, "areBlocks", "(LSharedStates;[I[J[J[J)Z"⟩
abbrev cL_areStates : ByteArray := method_22_code
def yL_areStates : MethodName := ⟨RL, "areStates", "(LSharedStates;[I[I[I[I[J[J[J)Z"⟩
abbrev cL_isSo : ByteArray := method_23_code
def yL_isSo : MethodName := ⟨RL, "isSo", "(LSharedStates;[I[I[I[I[J[J[J)Z"⟩
abbrev cL_law : ByteArray := code
def yL_law : MethodName := ⟨RL, "law", "([I)Z"⟩
abbrev vwCl : List vw_C := [(RX0, TX0, 4), (RX1, TX1, 3), (RX2, TX2, 8), (RX3, TX3, 5), (RX4, TX4, 6), (RX5, TX5, 4)]
