/-! ===== BEGIN words of one list among another's, by their places ===== -/
theorem goodIn_r {big : List Cond} (ws : List Cond) (ps : List Nat) (hp : ws = ps.filterMap (fun i => big[i]?)) (h : ws.all goodWord = true) : GoodIn big ws := by
  intro w hw
  have h1 := List.all_eq_true.mp h w hw
  rw [hp] at hw
  obtain ⟨i, -, hi⟩ := List.mem_filterMap.mp hw
  have hm : w ∈ big := by first | exact List.mem_of_getElem? hi | exact List.getElem?_mem hi
  exact ⟨hm, good_of_word h1⟩
theorem goodIn_app {big a b : List Cond} (ha : GoodIn big a) (hb : GoodIn big b) : GoodIn big (a ++ b) := fun w h => (List.mem_append.mp h).elim (ha w) (hb w)
theorem goodIn_ca {big a b : List Cond} {c : Cond} (ha : GoodIn big (c :: a)) (hb : GoodIn big b) : GoodIn big (c :: (a ++ b)) := fun w h => (List.mem_cons.mp h).elim (fun e => ha w (List.mem_cons.mpr (Or.inl e))) (fun h => (List.mem_append.mp h).elim (fun h => ha w (List.mem_cons.mpr (Or.inr h))) (hb w))
theorem goodIn_sub {big ws : List Cond} (hm : ∀ w ∈ ws, w ∈ big) (h : ws.all goodWord = true) : GoodIn big ws := fun w hw => ⟨hm w hw, good_of_word (List.all_eq_true.mp h w hw)⟩
/-! ===== END ===== -/
/-! ===== BEGIN printed: names, fields, word lists, decode rows ===== -/
def RX0 : String := "PairThreads$Matching"
def TX0 : u_T := fun k => match k with
  | 0 => ("PairThreads$Matching", "head", "[[I", true)
  | 1 => ("PairThreads$Matching", "chosen", "[[I", true)
  | 2 => ("PairThreads$Matching", "waiting", "[I", true)
  | 3 => ("PairThreads$Matching", "found", "I", false)
  | 4 => ("PairThreads$Matching", "cause", "[I", true)
  | _ => ("PairThreads$Matching", "seen", "[I", true)
def tyX0 : Nat → FieldType := fun k => match k with
  | 0 => .array (.array .int)
  | 1 => .array (.array .int)
  | 2 => .array .int
  | 3 => .int
  | 4 => .array .int
  | _ => .array .int
abbrev wsX00 : List Cond := u_ws RX0 TX0 6
theorem nmX0 : ∀ a, a < 6 → ∀ b, b < 6 → a ≠ b → (TX0 a).2.1 ≠ (TX0 b).2.1 := by decide +kernel
theorem tyX0_ok : ∀ k, k < 6 → parseFieldDescriptor (TX0 k).2.2.1 = some (tyX0 k) := by decide +kernel
abbrev cX0_init : ByteArray := prog_2_method_1_code
def yX0_init : MethodName := ⟨RX0, "<init>", "()V"⟩
abbrev cX0_largest : ByteArray := prog_2_method_2_code
def yX0_largest : MethodName := ⟨RX0, "largest", "(LPairThreads$Threads;)I"⟩
abbrev cX0_findHeads : ByteArray := prog_2_method_3_code
def yX0_findHeads : MethodName := ⟨RX0, "findHeads", "(LPairThreads$Threads;I)V"⟩
abbrev cX0_takeFree : ByteArray := prog_2_method_4_code
def yX0_takeFree : MethodName := ⟨RX0, "takeFree", "(LPairThreads$Threads;)I"⟩
abbrev cX0_chosenOf : ByteArray := prog_2_method_5_code
def yX0_chosenOf : MethodName := ⟨RX0, "chosenOf", "(II)I"⟩
abbrev cX0_choose : ByteArray := prog_2_method_6_code
def yX0_choose : MethodName := ⟨RX0, "choose", "(I)V"⟩
abbrev cX0_grow : ByteArray := prog_2_method_7_code
def yX0_grow : MethodName := ⟨RX0, "grow", "(LPairThreads$Threads;)Z"⟩
abbrev cX0_awaitFree : ByteArray := prog_2_method_8_code
def yX0_awaitFree : MethodName := ⟨RX0, "awaitFree", "(LPairThreads$Threads;)V"⟩
abbrev cX0_awaitInstead : ByteArray := prog_2_method_9_code
def yX0_awaitInstead : MethodName := ⟨RX0, "awaitInstead", "(LPairThreads$Threads;II)V"⟩
abbrev cX0_await : ByteArray := prog_2_method_10_code
def yX0_await : MethodName := ⟨RX0, "await", "(II)V"⟩
abbrev cX0_turn : ByteArray := prog_2_method_11_code
def yX0_turn : MethodName := ⟨RX0, "turn", "(II)V"⟩
def RX1 : String := "PairThreads$Spread"
def TX1 : u_T := fun k => match k with
  | 0 => ("PairThreads$Spread", "reached", "[I", true)
  | 1 => ("PairThreads$Spread", "found", "I", false)
  | 2 => ("PairThreads$Spread", "rowTo", "[I", true)
  | _ => ("PairThreads$Spread", "walked", "[[I", true)
def tyX1 : Nat → FieldType := fun k => match k with
  | 0 => .array .int
  | 1 => .int
  | 2 => .array .int
  | _ => .array (.array .int)
abbrev wsX10 : List Cond := u_ws RX1 TX1 4
theorem nmX1 : ∀ a, a < 4 → ∀ b, b < 4 → a ≠ b → (TX1 a).2.1 ≠ (TX1 b).2.1 := by decide +kernel
theorem tyX1_ok : ∀ k, k < 4 → parseFieldDescriptor (TX1 k).2.2.1 = some (tyX1 k) := by decide +kernel
abbrev cX1_init : ByteArray := prog_3_method_1_code
def yX1_init : MethodName := ⟨RX1, "<init>", "()V"⟩
abbrev cX1_partOf : ByteArray := prog_3_method_2_code
def yX1_partOf : MethodName := ⟨RX1, "partOf", "(LPairThreads$Threads;II)I"⟩
abbrev cX1_leastRow : ByteArray := prog_3_method_3_code
def yX1_leastRow : MethodName := ⟨RX1, "leastRow", "(LPairThreads$Threads;IIII)I"⟩
abbrev cX1_allParts : ByteArray := prog_3_method_4_code
def yX1_allParts : MethodName := ⟨RX1, "allParts", "(LPairThreads$Threads;)I"⟩
abbrev cX1_start : ByteArray := prog_3_method_5_code
def yX1_start : MethodName := ⟨RX1, "start", "(LPairThreads$Threads;II)V"⟩
abbrev cX1_forget : ByteArray := prog_3_method_6_code
def yX1_forget : MethodName := ⟨RX1, "forget", "()V"⟩
abbrev cX1_spreadFrom : ByteArray := prog_3_method_7_code
def yX1_spreadFrom : MethodName := ⟨RX1, "spreadFrom", "(LPairThreads$Threads;II)V"⟩
abbrev cX1_walk : ByteArray := prog_3_method_8_code
def yX1_walk : MethodName := ⟨RX1, "walk", "(LPairThreads$Threads;III)V"⟩
abbrev cX1_reach : ByteArray := prog_3_method_9_code
def yX1_reach : MethodName := ⟨RX1, "reach", "(II)V"⟩
def RX2 : String := "PairThreads$Threads"
def TX2 : u_T := fun k => match k with
  | 0 => ("PairThreads$Threads", "order", "[I", true)
  | 1 => ("PairThreads$Threads", "number", "[[I", true)
  | 2 => ("PairThreads$Threads", "before", "[[I", true)
  | 3 => ("PairThreads$Threads", "after", "[[I", true)
  | _ => ("PairThreads$Threads", "size", "I", false)
def tyX2 : Nat → FieldType := fun k => match k with
  | 0 => .array .int
  | 1 => .array (.array .int)
  | 2 => .array (.array .int)
  | 3 => .array (.array .int)
  | _ => .int
abbrev wsX20 : List Cond := u_ws RX2 TX2 5
theorem nmX2 : ∀ a, a < 5 → ∀ b, b < 5 → a ≠ b → (TX2 a).2.1 ≠ (TX2 b).2.1 := by decide +kernel
theorem tyX2_ok : ∀ k, k < 5 → parseFieldDescriptor (TX2 k).2.2.1 = some (tyX2 k) := by decide +kernel
abbrev cX2_init : ByteArray := prog_4_method_1_code
def yX2_init : MethodName := ⟨RX2, "<init>", "()V"⟩
abbrev cX2_placeOf : ByteArray := prog_4_method_2_code
def yX2_placeOf : MethodName := ⟨RX2, "placeOf", "(II)I"⟩
abbrev cX2_firstOf : ByteArray := prog_4_method_3_code
def yX2_firstOf : MethodName := ⟨RX2, "firstOf", "(II)I"⟩
abbrev cX2_lastOf : ByteArray := prog_4_method_4_code
def yX2_lastOf : MethodName := ⟨RX2, "lastOf", "(II)I"⟩
abbrev cX2_headOf : ByteArray := prog_4_method_5_code
def yX2_headOf : MethodName := ⟨RX2, "headOf", "(II)I"⟩
abbrev cX2_lengthOf : ByteArray := prog_4_method_6_code
def yX2_lengthOf : MethodName := ⟨RX2, "lengthOf", "(II)I"⟩
abbrev cX2_inThread : ByteArray := prog_4_method_7_code
def yX2_inThread : MethodName := ⟨RX2, "inThread", "(III)I"⟩
abbrev cX2_threadsOn : ByteArray := prog_4_method_8_code
def yX2_threadsOn : MethodName := ⟨RX2, "threadsOn", "(I)I"⟩
abbrev cX2_append : ByteArray := prog_4_method_9_code
def yX2_append : MethodName := ⟨RX2, "append", "(II)V"⟩
abbrev cX2_tieOn : ByteArray := prog_4_method_10_code
def yX2_tieOn : MethodName := ⟨RX2, "tieOn", "(III)V"⟩
abbrev cX2_takeOut : ByteArray := prog_4_method_11_code
def yX2_takeOut : MethodName := ⟨RX2, "takeOut", "(I)V"⟩
abbrev cX2_untie : ByteArray := prog_4_method_12_code
def yX2_untie : MethodName := ⟨RX2, "untie", "(II)V"⟩
abbrev cX2_takeOutAll : ByteArray := prog_4_method_13_code
def yX2_takeOutAll : MethodName := ⟨RX2, "takeOutAll", "(II)I"⟩
abbrev cX2_moveAll : ByteArray := prog_4_method_14_code
def yX2_moveAll : MethodName := ⟨RX2, "moveAll", "(III)I"⟩
abbrev cX2_areSound : ByteArray := prog_4_method_15_code
def yX2_areSound : MethodName := ⟨RX2, "areSound", "(I)Z"⟩
abbrev cX2_isSoundFrom : ByteArray := prog_4_method_16_code
def yX2_isSoundFrom : MethodName := ⟨RX2, "isSoundFrom", "(II)Z"⟩
def RX3 : String := "PairThreads"
def TX3 : u_T := fun k => match k with
  | 0 => ("PairThreads", "pairs", "LPairThreads$Threads;", true)
  | 1 => ("PairThreads", "spread", "LPairThreads$Spread;", true)
  | _ => ("PairThreads", "matching", "LPairThreads$Matching;", true)
def tyX3 : Nat → FieldType := fun k => match k with
  | 0 => .object "PairThreads$Threads"
  | 1 => .object "PairThreads$Spread"
  | _ => .object "PairThreads$Matching"
abbrev wsX30 : List Cond := u_ws RX3 TX3 3
theorem nmX3 : ∀ a, a < 3 → ∀ b, b < 3 → a ≠ b → (TX3 a).2.1 ≠ (TX3 b).2.1 := by decide +kernel
theorem tyX3_ok : ∀ k, k < 3 → parseFieldDescriptor (TX3 k).2.2.1 = some (tyX3 k) := by decide +kernel
abbrev cX3_init : ByteArray := prog_1_method_1_code
def yX3_init : MethodName := ⟨RX3, "<init>", "()V"⟩
abbrev cX3_link : ByteArray := prog_1_method_2_code
def yX3_link : MethodName := ⟨RX3, "link", "(II)I"⟩
abbrev cX3_unlink : ByteArray := prog_1_method_3_code
def yX3_unlink : MethodName := ⟨RX3, "unlink", "(II)I"⟩
abbrev cX3_place : ByteArray := prog_1_method_4_code
def yX3_place : MethodName := ⟨RX3, "place", "(II)I"⟩
abbrev cX3_degree : ByteArray := prog_1_method_5_code
def yX3_degree : MethodName := ⟨RX3, "degree", "(II)I"⟩
abbrev cX3_other : ByteArray := prog_1_method_6_code
def yX3_other : MethodName := ⟨RX3, "other", "(III)I"⟩
abbrev cX3_drop : ByteArray := prog_1_method_7_code
def yX3_drop : MethodName := ⟨RX3, "drop", "(II)I"⟩
abbrev cX3_rename : ByteArray := prog_1_method_8_code
def yX3_rename : MethodName := ⟨RX3, "rename", "(III)I"⟩
abbrev cX3_at : ByteArray := prog_1_method_9_code
def yX3_at : MethodName := ⟨RX3, "at", "(II)I"⟩
abbrev cX3_count : ByteArray := prog_1_method_10_code
def yX3_count : MethodName := ⟨RX3, "count", "(I)I"⟩
abbrev cX3_part : ByteArray := prog_1_method_11_code
def yX3_part : MethodName := ⟨RX3, "part", "(II)I"⟩
abbrev cX3_way : ByteArray := prog_1_method_12_code
def yX3_way : MethodName := ⟨RX3, "way", "(IIII)I"⟩
abbrev cX3_clear : ByteArray := prog_1_method_13_code
def yX3_clear : MethodName := ⟨RX3, "clear", "()I"⟩
abbrev cX3_check : ByteArray := prog_1_method_14_code
def yX3_check : MethodName := ⟨RX3, "check", "()I"⟩
abbrev cX3_isSide : ByteArray := prog_1_method_15_code
def yX3_isSide : MethodName := ⟨RX3, "isSide", "(I)Z"⟩
def RX4 : String := "PairThreadsModel"
def TX4 : u_T := fun k => match k with
  | 0 => ("PairThreadsModel", "many", "I", false)
  | 1 => ("PairThreadsModel", "lefts", "[I", true)
  | 2 => ("PairThreadsModel", "rights", "[I", true)
  | 3 => ("PairThreadsModel", "leftOf", "[I", true)
  | 4 => ("PairThreadsModel", "rightOf", "[I", true)
  | 5 => ("PairThreadsModel", "firstOf", "[I", true)
  | 6 => ("PairThreadsModel", "nextOf", "[I", true)
  | 7 => ("PairThreadsModel", "leftMany", "I", false)
  | 8 => ("PairThreadsModel", "rightMany", "I", false)
  | 9 => ("PairThreadsModel", "partner", "[I", true)
  | 10 => ("PairThreadsModel", "matched", "[Z", true)
  | 11 => ("PairThreadsModel", "queue", "[I", true)
  | 12 => ("PairThreadsModel", "comesFrom", "[I", true)
  | 13 => ("PairThreadsModel", "far", "[I", true)
  | _ => ("PairThreadsModel", "kept", "[I", true)
def tyX4 : Nat → FieldType := fun k => match k with
  | 0 => .int
  | 1 => .array .int
  | 2 => .array .int
  | 3 => .array .int
  | 4 => .array .int
  | 5 => .array .int
  | 6 => .array .int
  | 7 => .int
  | 8 => .int
  | 9 => .array .int
  | 10 => .array .boolean
  | 11 => .array .int
  | 12 => .array .int
  | 13 => .array .int
  | _ => .array .int
abbrev wsX40 : List Cond := u_ws RX4 TX4 15
theorem nmX4 : ∀ a, a < 15 → ∀ b, b < 15 → a ≠ b → (TX4 a).2.1 ≠ (TX4 b).2.1 := by decide +kernel
theorem tyX4_ok : ∀ k, k < 15 → parseFieldDescriptor (TX4 k).2.2.1 = some (tyX4 k) := by decide +kernel
abbrev cX4_init : ByteArray := prog_6_method_1_code
def yX4_init : MethodName := ⟨RX4, "<init>", "()V"⟩
abbrev cX4_find : ByteArray := prog_6_method_2_code
def yX4_find : MethodName := ⟨RX4, "find", "(II)I"⟩
abbrev cX4_isSide : ByteArray := prog_6_method_3_code
def yX4_isSide : MethodName := ⟨RX4, "isSide", "(I)Z"⟩
abbrev cX4_own : ByteArray := prog_6_method_4_code
def yX4_own : MethodName := ⟨RX4, "own", "(II)I"⟩
abbrev cX4_add : ByteArray := prog_6_method_5_code
def yX4_add : MethodName := ⟨RX4, "add", "(II)V"⟩
abbrev cX4_remove : ByteArray := prog_6_method_6_code
def yX4_remove : MethodName := ⟨RX4, "remove", "(I)V"⟩
abbrev cX4_link : ByteArray := prog_6_method_7_code
def yX4_link : MethodName := ⟨RX4, "link", "(II)I"⟩
abbrev cX4_unlink : ByteArray := prog_6_method_8_code
def yX4_unlink : MethodName := ⟨RX4, "unlink", "(II)I"⟩
abbrev cX4_place : ByteArray := prog_6_method_9_code
def yX4_place : MethodName := ⟨RX4, "place", "(II)I"⟩
abbrev cX4_degree : ByteArray := prog_6_method_10_code
def yX4_degree : MethodName := ⟨RX4, "degree", "(II)I"⟩
abbrev cX4_other : ByteArray := prog_6_method_11_code
def yX4_other : MethodName := ⟨RX4, "other", "(III)I"⟩
abbrev cX4_drop : ByteArray := prog_6_method_12_code
def yX4_drop : MethodName := ⟨RX4, "drop", "(II)I"⟩
abbrev cX4_rename : ByteArray := prog_6_method_13_code
def yX4_rename : MethodName := ⟨RX4, "rename", "(III)I"⟩
abbrev cX4_at : ByteArray := prog_6_method_14_code
def yX4_at : MethodName := ⟨RX4, "at", "(II)I"⟩
abbrev cX4_number : ByteArray := prog_6_method_15_code
def yX4_number : MethodName := ⟨RX4, "number", "()V"⟩
abbrev cX4_grows : ByteArray := prog_6_method_16_code
def yX4_grows : MethodName := ⟨RX4, "grows", "(I)Z"⟩
abbrev cX4_turn : ByteArray := prog_6_method_17_code
def yX4_turn : MethodName := ⟨RX4, "turn", "(II)V"⟩
abbrev cX4_matching : ByteArray := prog_6_method_18_code
def yX4_matching : MethodName := ⟨RX4, "matching", "()I"⟩
abbrev cX4_touch : ByteArray := prog_6_method_19_code
def yX4_touch : MethodName := ⟨RX4, "touch", "(II)Z"⟩
abbrev cX4_reach : ByteArray := prog_6_method_20_code
def yX4_reach : MethodName := ⟨RX4, "reach", "(I)I"⟩
abbrev cX4_clearFar : ByteArray := prog_6_method_21_code
def yX4_clearFar : MethodName := ⟨RX4, "clearFar", "()V"⟩
abbrev cX4_parts : ByteArray := prog_6_method_22_code
def yX4_parts : MethodName := ⟨RX4, "parts", "()I"⟩
abbrev cX4_begin : ByteArray := prog_6_method_23_code
def yX4_begin : MethodName := ⟨RX4, "begin", "(II)I"⟩
abbrev cX4_part : ByteArray := prog_6_method_24_code
def yX4_part : MethodName := ⟨RX4, "part", "(II)I"⟩
abbrev cX4_way : ByteArray := prog_6_method_25_code
def yX4_way : MethodName := ⟨RX4, "way", "(IIII)I"⟩
abbrev cX4_count : ByteArray := prog_6_method_26_code
def yX4_count : MethodName := ⟨RX4, "count", "(I)I"⟩
abbrev cX4_clear : ByteArray := prog_6_method_27_code
def yX4_clear : MethodName := ⟨RX4, "clear", "()I"⟩
abbrev cX4_check : ByteArray := prog_6_method_28_code
def yX4_check : MethodName := ⟨RX4, "check", "()I"⟩
def RJ10 : String := "java/lang/System"
def TJ10 : u_T := fun k => match k with
  | _ => ("", "", "", false)
def tyJ10 : Nat → FieldType := fun k => match k with
  | _ => .int
abbrev wsJ100 : List Cond := u_ws RJ10 TJ10 0
theorem nmJ10 : ∀ a, a < 0 → ∀ b, b < 0 → a ≠ b → (TJ10 a).2.1 ≠ (TJ10 b).2.1 := by decide +kernel
theorem tyJ10_ok : ∀ k, k < 0 → parseFieldDescriptor (TJ10 k).2.2.1 = some (tyJ10 k) := by decide +kernel
def RJ7 : String := "java/util/Arrays"
def TJ7 : u_T := fun k => match k with
  | _ => ("", "", "", false)
def tyJ7 : Nat → FieldType := fun k => match k with
  | _ => .int
abbrev wsJ70 : List Cond := u_ws RJ7 TJ7 0
theorem nmJ7 : ∀ a, a < 0 → ∀ b, b < 0 → a ≠ b → (TJ7 a).2.1 ≠ (TJ7 b).2.1 := by decide +kernel
theorem tyJ7_ok : ∀ k, k < 0 → parseFieldDescriptor (TJ7 k).2.2.1 = some (tyJ7 k) := by decide +kernel
abbrev cJ7_fill_53178 : ByteArray := prog_8_method_103_code
def yJ7_fill_53178 : MethodName := ⟨RJ7, "fill", "([II)V"⟩
def RL : String := "PairThreadsLaw"
abbrev cL_law : ByteArray := code
def yL_law : MethodName := ⟨RL, "law", "([I)Z"⟩
def wsX0_init : List Cond := .code yX0_init cX0_init 1 none :: ([.methodLink RX0 3 objectInit, .instanceMethod objectInit, .code objectInit ⟨#[0xb1]⟩ 1 none, .classLink RX0 9 "[[I", .arrayClass .int, .fieldLink RX0 11 "PairThreads$Matching" "head" "[[I", .fieldLink RX0 16 "PairThreads$Matching" "chosen" "[[I", .fieldLink RX0 19 "PairThreads$Matching" "waiting" "[I", .fieldLink RX0 23 "PairThreads$Matching" "cause" "[I", .fieldLink RX0 26 "PairThreads$Matching" "seen" "[I"] ++ wsX00)
def wsX0_findHeads : List Cond := .code yX0_findHeads cX0_findHeads 6 none :: ([.fieldLink RX0 11 "PairThreads$Matching" "head" "[[I"] ++ wsX20 ++ wsX00)
def wsJ7_fill_53178 : List Cond := .code yJ7_fill_53178 cJ7_fill_53178 4 none :: ([])
def wsX0_chosenOf : List Cond := .code yX0_chosenOf cX0_chosenOf 3 (some .int) :: ([.fieldLink RX0 16 "PairThreads$Matching" "chosen" "[[I", .fieldLink RX0 11 "PairThreads$Matching" "head" "[[I"] ++ wsX00)
def wsX0_choose : List Cond := .code yX0_choose cX0_choose 2 none :: ([.fieldLink RX0 16 "PairThreads$Matching" "chosen" "[[I", .fieldLink RX0 11 "PairThreads$Matching" "head" "[[I"] ++ wsX00)
def wsX0_takeFree : List Cond := .code yX0_takeFree cX0_takeFree 5 (some .int) :: ([.fieldLink RX0 16 "PairThreads$Matching" "chosen" "[[I", .methodLink RX0 53 yJ7_fill_53178, .static yJ7_fill_53178, .initialized RJ7, .code yJ7_fill_53178 cJ7_fill_53178 4 none, .methodLink RX0 59 yX0_chosenOf, .instanceMethod yX0_chosenOf, .selects RX0 yX0_chosenOf yX0_chosenOf, .initialized RX0, .code yX0_chosenOf cX0_chosenOf 3 (some .int), .fieldLink RX0 11 "PairThreads$Matching" "head" "[[I", .methodLink RX0 63 yX0_choose, .instanceMethod yX0_choose, .selects RX0 yX0_choose yX0_choose, .code yX0_choose cX0_choose 2 none] ++ wsX00 ++ wsX20)
def wsX0_await : List Cond := .code yX0_await cX0_await 3 none :: ([.fieldLink RX0 23 "PairThreads$Matching" "cause" "[I", .fieldLink RX0 19 "PairThreads$Matching" "waiting" "[I", .fieldLink RX0 71 "PairThreads$Matching" "found" "I"] ++ wsX00)
def wsX0_awaitFree : List Cond := .code yX0_awaitFree cX0_awaitFree 4 none :: ([.fieldLink RX0 71 "PairThreads$Matching" "found" "I", .methodLink RX0 59 yX0_chosenOf, .instanceMethod yX0_chosenOf, .selects RX0 yX0_chosenOf yX0_chosenOf, .initialized RX0, .code yX0_chosenOf cX0_chosenOf 3 (some .int), .fieldLink RX0 16 "PairThreads$Matching" "chosen" "[[I", .fieldLink RX0 11 "PairThreads$Matching" "head" "[[I", .methodLink RX0 82 yX0_await, .instanceMethod yX0_await, .selects RX0 yX0_await yX0_await, .code yX0_await cX0_await 3 none, .fieldLink RX0 23 "PairThreads$Matching" "cause" "[I", .fieldLink RX0 19 "PairThreads$Matching" "waiting" "[I"] ++ wsX00 ++ wsX20)
def wsX0_turn : List Cond := .code yX0_turn cX0_turn 5 none :: ([.fieldLink RX0 23 "PairThreads$Matching" "cause" "[I", .methodLink RX0 63 yX0_choose, .instanceMethod yX0_choose, .selects RX0 yX0_choose yX0_choose, .initialized RX0, .code yX0_choose cX0_choose 2 none, .fieldLink RX0 16 "PairThreads$Matching" "chosen" "[[I", .fieldLink RX0 11 "PairThreads$Matching" "head" "[[I"] ++ wsX00)
def wsX0_awaitInstead : List Cond := .code yX0_awaitInstead cX0_awaitInstead 6 none :: ([.fieldLink RX0 11 "PairThreads$Matching" "head" "[[I", .methodLink RX0 82 yX0_await, .instanceMethod yX0_await, .selects RX0 yX0_await yX0_await, .initialized RX0, .code yX0_await cX0_await 3 none, .fieldLink RX0 23 "PairThreads$Matching" "cause" "[I", .fieldLink RX0 19 "PairThreads$Matching" "waiting" "[I", .fieldLink RX0 71 "PairThreads$Matching" "found" "I"] ++ wsX00 ++ wsX20)
def wsX0_grow_r1 : List Cond := [Cond.fieldLink RX0 26 "PairThreads$Matching" "seen" "[I", Cond.fieldLink RX0 71 "PairThreads$Matching" "found" "I", Cond.fieldLink RX0 19 "PairThreads$Matching" "waiting" "[I", Cond.fieldLink RX0 11 "PairThreads$Matching" "head" "[[I", Cond.fieldLink RX0 16 "PairThreads$Matching" "chosen" "[[I", Cond.methodLink RX0 53 yJ7_fill_53178, Cond.static yJ7_fill_53178, Cond.initialized RJ7, Cond.code yJ7_fill_53178 cJ7_fill_53178 4 none, Cond.methodLink RX0 67 yX0_awaitFree, Cond.instanceMethod yX0_awaitFree, Cond.selects RX0 yX0_awaitFree yX0_awaitFree, Cond.initialized RX0, Cond.code yX0_awaitFree cX0_awaitFree 4 none, Cond.methodLink RX0 59 yX0_chosenOf, Cond.instanceMethod yX0_chosenOf, Cond.selects RX0 yX0_chosenOf yX0_chosenOf, Cond.code yX0_chosenOf cX0_chosenOf 3 (some .int), Cond.methodLink RX0 82 yX0_await, Cond.instanceMethod yX0_await, Cond.selects RX0 yX0_await yX0_await, Cond.code yX0_await cX0_await 3 none, Cond.fieldLink RX0 23 "PairThreads$Matching" "cause" "[I", Cond.methodLink RX0 74 yX0_turn]
def wsX0_grow_r2 : List Cond := [Cond.instanceMethod yX0_turn, Cond.selects RX0 yX0_turn yX0_turn, Cond.code yX0_turn cX0_turn 5 none, Cond.methodLink RX0 63 yX0_choose, Cond.instanceMethod yX0_choose, Cond.selects RX0 yX0_choose yX0_choose, Cond.code yX0_choose cX0_choose 2 none, Cond.methodLink RX0 78 yX0_awaitInstead, Cond.instanceMethod yX0_awaitInstead, Cond.selects RX0 yX0_awaitInstead yX0_awaitInstead, Cond.code yX0_awaitInstead cX0_awaitInstead 6 none]
def wsX0_grow : List Cond := .code yX0_grow cX0_grow 5 (some .boolean) :: ((wsX0_grow_r1 ++ wsX0_grow_r2) ++ wsX00 ++ wsX20)
def wsX0_largest_r1 : List Cond := [Cond.methodLink RX0 29 yX0_findHeads, Cond.instanceMethod yX0_findHeads, Cond.selects RX0 yX0_findHeads yX0_findHeads, Cond.initialized RX0, Cond.code yX0_findHeads cX0_findHeads 6 none, Cond.fieldLink RX0 11 "PairThreads$Matching" "head" "[[I", Cond.methodLink RX0 33 yX0_takeFree, Cond.instanceMethod yX0_takeFree, Cond.selects RX0 yX0_takeFree yX0_takeFree, Cond.code yX0_takeFree cX0_takeFree 5 (some .int), Cond.fieldLink RX0 16 "PairThreads$Matching" "chosen" "[[I", Cond.methodLink RX0 53 yJ7_fill_53178, Cond.static yJ7_fill_53178, Cond.initialized RJ7, Cond.code yJ7_fill_53178 cJ7_fill_53178 4 none, Cond.methodLink RX0 59 yX0_chosenOf, Cond.instanceMethod yX0_chosenOf, Cond.selects RX0 yX0_chosenOf yX0_chosenOf, Cond.code yX0_chosenOf cX0_chosenOf 3 (some .int), Cond.methodLink RX0 63 yX0_choose, Cond.instanceMethod yX0_choose, Cond.selects RX0 yX0_choose yX0_choose, Cond.code yX0_choose cX0_choose 2 none, Cond.methodLink RX0 43 yX0_grow]
def wsX0_largest_r2 : List Cond := [Cond.instanceMethod yX0_grow, Cond.selects RX0 yX0_grow yX0_grow, Cond.code yX0_grow cX0_grow 5 (some .boolean), Cond.fieldLink RX0 26 "PairThreads$Matching" "seen" "[I", Cond.fieldLink RX0 71 "PairThreads$Matching" "found" "I", Cond.fieldLink RX0 19 "PairThreads$Matching" "waiting" "[I", Cond.methodLink RX0 67 yX0_awaitFree, Cond.instanceMethod yX0_awaitFree, Cond.selects RX0 yX0_awaitFree yX0_awaitFree, Cond.code yX0_awaitFree cX0_awaitFree 4 none, Cond.methodLink RX0 82 yX0_await, Cond.instanceMethod yX0_await, Cond.selects RX0 yX0_await yX0_await, Cond.code yX0_await cX0_await 3 none, Cond.fieldLink RX0 23 "PairThreads$Matching" "cause" "[I", Cond.methodLink RX0 74 yX0_turn, Cond.instanceMethod yX0_turn, Cond.selects RX0 yX0_turn yX0_turn, Cond.code yX0_turn cX0_turn 5 none, Cond.methodLink RX0 78 yX0_awaitInstead, Cond.instanceMethod yX0_awaitInstead, Cond.selects RX0 yX0_awaitInstead yX0_awaitInstead, Cond.code yX0_awaitInstead cX0_awaitInstead 6 none]
def wsX0_largest : List Cond := .code yX0_largest cX0_largest 4 (some .int) :: ((wsX0_largest_r1 ++ wsX0_largest_r2) ++ wsX20 ++ wsX00)
def wsX1_init : List Cond := .code yX1_init cX1_init 1 none :: ([.methodLink RX1 3 objectInit, .instanceMethod objectInit, .code objectInit ⟨#[0xb1]⟩ 1 none, .arrayClass .int, .fieldLink RX1 9 "PairThreads$Spread" "reached" "[I", .fieldLink RX1 15 "PairThreads$Spread" "rowTo" "[I", .classLink RX1 18 "[[I", .fieldLink RX1 20 "PairThreads$Spread" "walked" "[[I"] ++ wsX10)
def wsX1_forget : List Cond := .code yX1_forget cX1_forget 1 none :: ([.fieldLink RX1 27 "PairThreads$Spread" "found" "I", .fieldLink RX1 15 "PairThreads$Spread" "rowTo" "[I", .fieldLink RX1 20 "PairThreads$Spread" "walked" "[[I", .methodLink RX1 52 yJ7_fill_53178, .static yJ7_fill_53178, .initialized RJ7, .code yJ7_fill_53178 cJ7_fill_53178 4 none] ++ wsX10)
def wsX2_firstOf : List Cond := .code yX2_firstOf cX2_firstOf 4 (some .int) :: ([.fieldLink RX2 26 "PairThreads$Threads" "size" "I", .fieldLink RX2 17 "PairThreads$Threads" "number" "[[I", .fieldLink RX2 9 "PairThreads$Threads" "order" "[I"] ++ wsX20)
def wsX2_headOf : List Cond := .code yX2_headOf cX2_headOf 5 (some .int) :: ([.fieldLink RX2 26 "PairThreads$Threads" "size" "I", .fieldLink RX2 20 "PairThreads$Threads" "before" "[[I"] ++ wsX20)
def wsX1_reach : List Cond := .code yX1_reach cX1_reach 3 none :: ([.fieldLink RX1 15 "PairThreads$Spread" "rowTo" "[I", .fieldLink RX1 9 "PairThreads$Spread" "reached" "[I", .fieldLink RX1 27 "PairThreads$Spread" "found" "I"] ++ wsX10)
def wsX1_walk : List Cond := .code yX1_walk cX1_walk 7 none :: ([.fieldLink RX1 20 "PairThreads$Spread" "walked" "[[I", .methodLink RX1 62 yX2_headOf, .instanceMethod yX2_headOf, .selects RX2 yX2_headOf yX2_headOf, .initialized RX2, .code yX2_headOf cX2_headOf 5 (some .int), .fieldLink RX2 26 "PairThreads$Threads" "size" "I", .fieldLink RX2 20 "PairThreads$Threads" "before" "[[I", .methodLink RX1 65 yX1_reach, .instanceMethod yX1_reach, .selects RX1 yX1_reach yX1_reach, .initialized RX1, .code yX1_reach cX1_reach 3 none, .fieldLink RX1 15 "PairThreads$Spread" "rowTo" "[I", .fieldLink RX1 9 "PairThreads$Spread" "reached" "[I", .fieldLink RX1 27 "PairThreads$Spread" "found" "I"] ++ wsX10 ++ wsX20)
def wsX1_spreadFrom : List Cond := .code yX1_spreadFrom cX1_spreadFrom 7 none :: ([.fieldLink RX1 27 "PairThreads$Spread" "found" "I", .fieldLink RX1 9 "PairThreads$Spread" "reached" "[I", .fieldLink RX1 15 "PairThreads$Spread" "rowTo" "[I", .methodLink RX1 58 yX1_walk, .instanceMethod yX1_walk, .selects RX1 yX1_walk yX1_walk, .initialized RX1, .code yX1_walk cX1_walk 7 none, .fieldLink RX1 20 "PairThreads$Spread" "walked" "[[I", .methodLink RX1 62 yX2_headOf, .instanceMethod yX2_headOf, .selects RX2 yX2_headOf yX2_headOf, .initialized RX2, .code yX2_headOf cX2_headOf 5 (some .int), .fieldLink RX2 26 "PairThreads$Threads" "size" "I", .fieldLink RX2 20 "PairThreads$Threads" "before" "[[I", .methodLink RX1 65 yX1_reach, .instanceMethod yX1_reach, .selects RX1 yX1_reach yX1_reach, .code yX1_reach cX1_reach 3 none] ++ wsX10 ++ wsX20)
def wsX1_start_r1 : List Cond := [Cond.methodLink RX1 36 yX1_forget, Cond.instanceMethod yX1_forget, Cond.selects RX1 yX1_forget yX1_forget, Cond.initialized RX1, Cond.code yX1_forget cX1_forget 1 none, Cond.fieldLink RX1 27 "PairThreads$Spread" "found" "I", Cond.fieldLink RX1 15 "PairThreads$Spread" "rowTo" "[I", Cond.fieldLink RX1 20 "PairThreads$Spread" "walked" "[[I", Cond.methodLink RX1 52 yJ7_fill_53178, Cond.static yJ7_fill_53178, Cond.initialized RJ7, Cond.code yJ7_fill_53178 cJ7_fill_53178 4 none, Cond.methodLink RX1 48 yX2_firstOf, Cond.instanceMethod yX2_firstOf, Cond.selects RX2 yX2_firstOf yX2_firstOf, Cond.initialized RX2, Cond.code yX2_firstOf cX2_firstOf 4 (some .int), Cond.fieldLink RX2 26 "PairThreads$Threads" "size" "I", Cond.fieldLink RX2 17 "PairThreads$Threads" "number" "[[I", Cond.fieldLink RX2 9 "PairThreads$Threads" "order" "[I", Cond.methodLink RX1 45 yX1_spreadFrom, Cond.instanceMethod yX1_spreadFrom, Cond.selects RX1 yX1_spreadFrom yX1_spreadFrom, Cond.code yX1_spreadFrom cX1_spreadFrom 7 none]
def wsX1_start_r2 : List Cond := [Cond.fieldLink RX1 9 "PairThreads$Spread" "reached" "[I", Cond.methodLink RX1 58 yX1_walk, Cond.instanceMethod yX1_walk, Cond.selects RX1 yX1_walk yX1_walk, Cond.code yX1_walk cX1_walk 7 none, Cond.methodLink RX1 62 yX2_headOf, Cond.instanceMethod yX2_headOf, Cond.selects RX2 yX2_headOf yX2_headOf, Cond.code yX2_headOf cX2_headOf 5 (some .int), Cond.fieldLink RX2 20 "PairThreads$Threads" "before" "[[I", Cond.methodLink RX1 65 yX1_reach, Cond.instanceMethod yX1_reach, Cond.selects RX1 yX1_reach yX1_reach, Cond.code yX1_reach cX1_reach 3 none]
def wsX1_start : List Cond := .code yX1_start cX1_start 5 none :: ((wsX1_start_r1 ++ wsX1_start_r2) ++ wsX10 ++ wsX20)
def wsX1_partOf_r1 : List Cond := [Cond.fieldLink RX1 27 "PairThreads$Spread" "found" "I", Cond.methodLink RX1 23 yX1_start, Cond.instanceMethod yX1_start, Cond.selects RX1 yX1_start yX1_start, Cond.initialized RX1, Cond.code yX1_start cX1_start 5 none, Cond.methodLink RX1 36 yX1_forget, Cond.instanceMethod yX1_forget, Cond.selects RX1 yX1_forget yX1_forget, Cond.code yX1_forget cX1_forget 1 none, Cond.fieldLink RX1 15 "PairThreads$Spread" "rowTo" "[I", Cond.fieldLink RX1 20 "PairThreads$Spread" "walked" "[[I", Cond.methodLink RX1 52 yJ7_fill_53178, Cond.static yJ7_fill_53178, Cond.initialized RJ7, Cond.code yJ7_fill_53178 cJ7_fill_53178 4 none, Cond.methodLink RX1 48 yX2_firstOf, Cond.instanceMethod yX2_firstOf, Cond.selects RX2 yX2_firstOf yX2_firstOf, Cond.initialized RX2, Cond.code yX2_firstOf cX2_firstOf 4 (some .int), Cond.fieldLink RX2 26 "PairThreads$Threads" "size" "I", Cond.fieldLink RX2 17 "PairThreads$Threads" "number" "[[I", Cond.fieldLink RX2 9 "PairThreads$Threads" "order" "[I"]
def wsX1_partOf_r2 : List Cond := [Cond.methodLink RX1 45 yX1_spreadFrom, Cond.instanceMethod yX1_spreadFrom, Cond.selects RX1 yX1_spreadFrom yX1_spreadFrom, Cond.code yX1_spreadFrom cX1_spreadFrom 7 none, Cond.fieldLink RX1 9 "PairThreads$Spread" "reached" "[I", Cond.methodLink RX1 58 yX1_walk, Cond.instanceMethod yX1_walk, Cond.selects RX1 yX1_walk yX1_walk, Cond.code yX1_walk cX1_walk 7 none, Cond.methodLink RX1 62 yX2_headOf, Cond.instanceMethod yX2_headOf, Cond.selects RX2 yX2_headOf yX2_headOf, Cond.code yX2_headOf cX2_headOf 5 (some .int), Cond.fieldLink RX2 20 "PairThreads$Threads" "before" "[[I", Cond.methodLink RX1 65 yX1_reach, Cond.instanceMethod yX1_reach, Cond.selects RX1 yX1_reach yX1_reach, Cond.code yX1_reach cX1_reach 3 none]
def wsX1_partOf : List Cond := .code yX1_partOf cX1_partOf 4 (some .int) :: ((wsX1_partOf_r1 ++ wsX1_partOf_r2) ++ wsX10 ++ wsX20)
def wsX1_leastRow_r1 : List Cond := [Cond.fieldLink RX1 27 "PairThreads$Spread" "found" "I", Cond.fieldLink RX1 9 "PairThreads$Spread" "reached" "[I", Cond.fieldLink RX1 15 "PairThreads$Spread" "rowTo" "[I", Cond.methodLink RX1 23 yX1_start, Cond.instanceMethod yX1_start, Cond.selects RX1 yX1_start yX1_start, Cond.initialized RX1, Cond.code yX1_start cX1_start 5 none, Cond.methodLink RX1 36 yX1_forget, Cond.instanceMethod yX1_forget, Cond.selects RX1 yX1_forget yX1_forget, Cond.code yX1_forget cX1_forget 1 none, Cond.fieldLink RX1 20 "PairThreads$Spread" "walked" "[[I", Cond.methodLink RX1 52 yJ7_fill_53178, Cond.static yJ7_fill_53178, Cond.initialized RJ7, Cond.code yJ7_fill_53178 cJ7_fill_53178 4 none, Cond.methodLink RX1 48 yX2_firstOf, Cond.instanceMethod yX2_firstOf, Cond.selects RX2 yX2_firstOf yX2_firstOf, Cond.initialized RX2, Cond.code yX2_firstOf cX2_firstOf 4 (some .int), Cond.fieldLink RX2 26 "PairThreads$Threads" "size" "I", Cond.fieldLink RX2 17 "PairThreads$Threads" "number" "[[I"]
def wsX1_leastRow_r2 : List Cond := [Cond.fieldLink RX2 9 "PairThreads$Threads" "order" "[I", Cond.methodLink RX1 45 yX1_spreadFrom, Cond.instanceMethod yX1_spreadFrom, Cond.selects RX1 yX1_spreadFrom yX1_spreadFrom, Cond.code yX1_spreadFrom cX1_spreadFrom 7 none, Cond.methodLink RX1 58 yX1_walk, Cond.instanceMethod yX1_walk, Cond.selects RX1 yX1_walk yX1_walk, Cond.code yX1_walk cX1_walk 7 none, Cond.methodLink RX1 62 yX2_headOf, Cond.instanceMethod yX2_headOf, Cond.selects RX2 yX2_headOf yX2_headOf, Cond.code yX2_headOf cX2_headOf 5 (some .int), Cond.fieldLink RX2 20 "PairThreads$Threads" "before" "[[I", Cond.methodLink RX1 65 yX1_reach, Cond.instanceMethod yX1_reach, Cond.selects RX1 yX1_reach yX1_reach, Cond.code yX1_reach cX1_reach 3 none]
def wsX1_leastRow : List Cond := .code yX1_leastRow cX1_leastRow 7 (some .int) :: ((wsX1_leastRow_r1 ++ wsX1_leastRow_r2) ++ wsX10 ++ wsX20)
def wsX1_allParts_r1 : List Cond := [Cond.fieldLink RX1 15 "PairThreads$Spread" "rowTo" "[I", Cond.methodLink RX1 36 yX1_forget, Cond.instanceMethod yX1_forget, Cond.selects RX1 yX1_forget yX1_forget, Cond.initialized RX1, Cond.code yX1_forget cX1_forget 1 none, Cond.fieldLink RX1 27 "PairThreads$Spread" "found" "I", Cond.fieldLink RX1 20 "PairThreads$Spread" "walked" "[[I", Cond.methodLink RX1 52 yJ7_fill_53178, Cond.static yJ7_fill_53178, Cond.initialized RJ7, Cond.code yJ7_fill_53178 cJ7_fill_53178 4 none, Cond.methodLink RX1 45 yX1_spreadFrom, Cond.instanceMethod yX1_spreadFrom, Cond.selects RX1 yX1_spreadFrom yX1_spreadFrom, Cond.code yX1_spreadFrom cX1_spreadFrom 7 none, Cond.fieldLink RX1 9 "PairThreads$Spread" "reached" "[I", Cond.methodLink RX1 58 yX1_walk, Cond.instanceMethod yX1_walk, Cond.selects RX1 yX1_walk yX1_walk, Cond.code yX1_walk cX1_walk 7 none, Cond.methodLink RX1 62 yX2_headOf, Cond.instanceMethod yX2_headOf, Cond.selects RX2 yX2_headOf yX2_headOf]
def wsX1_allParts_r2 : List Cond := [Cond.initialized RX2, Cond.code yX2_headOf cX2_headOf 5 (some .int), Cond.fieldLink RX2 26 "PairThreads$Threads" "size" "I", Cond.fieldLink RX2 20 "PairThreads$Threads" "before" "[[I", Cond.methodLink RX1 65 yX1_reach, Cond.instanceMethod yX1_reach, Cond.selects RX1 yX1_reach yX1_reach, Cond.code yX1_reach cX1_reach 3 none]
def wsX1_allParts : List Cond := .code yX1_allParts cX1_allParts 5 (some .int) :: ((wsX1_allParts_r1 ++ wsX1_allParts_r2) ++ wsX20 ++ wsX10)
def wsX2_init : List Cond := .code yX2_init cX2_init 2 none :: ([.methodLink RX2 3 objectInit, .instanceMethod objectInit, .code objectInit ⟨#[0xb1]⟩ 1 none, .arrayClass .int, .fieldLink RX2 9 "PairThreads$Threads" "order" "[I", .classLink RX2 15 "[[I", .fieldLink RX2 17 "PairThreads$Threads" "number" "[[I", .fieldLink RX2 20 "PairThreads$Threads" "before" "[[I", .fieldLink RX2 23 "PairThreads$Threads" "after" "[[I"] ++ wsX20)
def wsX2_placeOf : List Cond := .code yX2_placeOf cX2_placeOf 5 (some .int) :: ([.fieldLink RX2 26 "PairThreads$Threads" "size" "I", .fieldLink RX2 9 "PairThreads$Threads" "order" "[I", .fieldLink RX2 17 "PairThreads$Threads" "number" "[[I"] ++ wsX20)
def wsX2_lastOf : List Cond := .code yX2_lastOf cX2_lastOf 4 (some .int) :: ([.fieldLink RX2 26 "PairThreads$Threads" "size" "I", .fieldLink RX2 17 "PairThreads$Threads" "number" "[[I", .fieldLink RX2 9 "PairThreads$Threads" "order" "[I"] ++ wsX20)
def wsX2_lengthOf : List Cond := .code yX2_lengthOf cX2_lengthOf 6 (some .int) :: ([.fieldLink RX2 26 "PairThreads$Threads" "size" "I", .fieldLink RX2 23 "PairThreads$Threads" "after" "[[I", .methodLink RX2 30 yX2_firstOf, .instanceMethod yX2_firstOf, .selects RX2 yX2_firstOf yX2_firstOf, .initialized RX2, .code yX2_firstOf cX2_firstOf 4 (some .int), .fieldLink RX2 17 "PairThreads$Threads" "number" "[[I", .fieldLink RX2 9 "PairThreads$Threads" "order" "[I"] ++ wsX20)
def wsX2_inThread : List Cond := .code yX2_inThread cX2_inThread 6 (some .int) :: ([.fieldLink RX2 26 "PairThreads$Threads" "size" "I", .fieldLink RX2 23 "PairThreads$Threads" "after" "[[I", .methodLink RX2 30 yX2_firstOf, .instanceMethod yX2_firstOf, .selects RX2 yX2_firstOf yX2_firstOf, .initialized RX2, .code yX2_firstOf cX2_firstOf 4 (some .int), .fieldLink RX2 17 "PairThreads$Threads" "number" "[[I", .fieldLink RX2 9 "PairThreads$Threads" "order" "[I"] ++ wsX20)
def wsX2_threadsOn : List Cond := .code yX2_threadsOn cX2_threadsOn 4 (some .int) :: ([.fieldLink RX2 26 "PairThreads$Threads" "size" "I", .fieldLink RX2 20 "PairThreads$Threads" "before" "[[I", .fieldLink RX2 9 "PairThreads$Threads" "order" "[I"] ++ wsX20)
def wsX2_tieOn : List Cond := .code yX2_tieOn cX2_tieOn 5 none :: ([.fieldLink RX2 17 "PairThreads$Threads" "number" "[[I", .fieldLink RX2 20 "PairThreads$Threads" "before" "[[I", .fieldLink RX2 23 "PairThreads$Threads" "after" "[[I", .methodLink RX2 38 yX2_lastOf, .instanceMethod yX2_lastOf, .selects RX2 yX2_lastOf yX2_lastOf, .initialized RX2, .code yX2_lastOf cX2_lastOf 4 (some .int), .fieldLink RX2 26 "PairThreads$Threads" "size" "I", .fieldLink RX2 9 "PairThreads$Threads" "order" "[I"] ++ wsX20)
def wsX2_append : List Cond := .code yX2_append cX2_append 4 none :: ([.fieldLink RX2 9 "PairThreads$Threads" "order" "[I", .fieldLink RX2 26 "PairThreads$Threads" "size" "I", .methodLink RX2 34 yX2_tieOn, .instanceMethod yX2_tieOn, .selects RX2 yX2_tieOn yX2_tieOn, .initialized RX2, .code yX2_tieOn cX2_tieOn 5 none, .fieldLink RX2 17 "PairThreads$Threads" "number" "[[I", .fieldLink RX2 20 "PairThreads$Threads" "before" "[[I", .fieldLink RX2 23 "PairThreads$Threads" "after" "[[I", .methodLink RX2 38 yX2_lastOf, .instanceMethod yX2_lastOf, .selects RX2 yX2_lastOf yX2_lastOf, .code yX2_lastOf cX2_lastOf 4 (some .int)] ++ wsX20)
def wsX2_untie : List Cond := .code yX2_untie cX2_untie 5 none :: ([.fieldLink RX2 20 "PairThreads$Threads" "before" "[[I", .fieldLink RX2 23 "PairThreads$Threads" "after" "[[I"] ++ wsX20)
def wsX2_takeOut : List Cond := .code yX2_takeOut cX2_takeOut 3 none :: ([.fieldLink RX2 9 "PairThreads$Threads" "order" "[I", .fieldLink RX2 26 "PairThreads$Threads" "size" "I", .methodLink RX2 45 arraycopyName, .native arraycopyName, .static arraycopyName, .initialized "java/lang/System", .methodLink RX2 41 yX2_untie, .instanceMethod yX2_untie, .selects RX2 yX2_untie yX2_untie, .initialized RX2, .code yX2_untie cX2_untie 5 none, .fieldLink RX2 20 "PairThreads$Threads" "before" "[[I", .fieldLink RX2 23 "PairThreads$Threads" "after" "[[I"] ++ wsX20)
def wsX2_takeOutAll : List Cond := .code yX2_takeOutAll cX2_takeOutAll 5 (some .int) :: ([.fieldLink RX2 26 "PairThreads$Threads" "size" "I", .fieldLink RX2 17 "PairThreads$Threads" "number" "[[I", .fieldLink RX2 9 "PairThreads$Threads" "order" "[I", .methodLink RX2 51 yX2_takeOut, .instanceMethod yX2_takeOut, .selects RX2 yX2_takeOut yX2_takeOut, .initialized RX2, .code yX2_takeOut cX2_takeOut 3 none, .methodLink RX2 45 arraycopyName, .native arraycopyName, .static arraycopyName, .initialized "java/lang/System", .methodLink RX2 41 yX2_untie, .instanceMethod yX2_untie, .selects RX2 yX2_untie yX2_untie, .code yX2_untie cX2_untie 5 none, .fieldLink RX2 20 "PairThreads$Threads" "before" "[[I", .fieldLink RX2 23 "PairThreads$Threads" "after" "[[I"] ++ wsX20)
def wsX2_moveAll_r1 : List Cond := [Cond.fieldLink RX2 26 "PairThreads$Threads" "size" "I", Cond.fieldLink RX2 9 "PairThreads$Threads" "order" "[I", Cond.fieldLink RX2 17 "PairThreads$Threads" "number" "[[I", Cond.methodLink RX2 51 yX2_takeOut, Cond.instanceMethod yX2_takeOut, Cond.selects RX2 yX2_takeOut yX2_takeOut, Cond.initialized RX2, Cond.code yX2_takeOut cX2_takeOut 3 none, Cond.methodLink RX2 45 arraycopyName, Cond.native arraycopyName, Cond.static arraycopyName, Cond.initialized "java/lang/System", Cond.methodLink RX2 41 yX2_untie, Cond.instanceMethod yX2_untie, Cond.selects RX2 yX2_untie yX2_untie, Cond.code yX2_untie cX2_untie 5 none, Cond.fieldLink RX2 20 "PairThreads$Threads" "before" "[[I", Cond.fieldLink RX2 23 "PairThreads$Threads" "after" "[[I", Cond.methodLink RX2 55 yX2_placeOf, Cond.instanceMethod yX2_placeOf, Cond.selects RX2 yX2_placeOf yX2_placeOf, Cond.code yX2_placeOf cX2_placeOf 5 (some .int), Cond.methodLink RX2 58 yX2_append, Cond.instanceMethod yX2_append]
def wsX2_moveAll_r2 : List Cond := [Cond.selects RX2 yX2_append yX2_append, Cond.code yX2_append cX2_append 4 none, Cond.methodLink RX2 34 yX2_tieOn, Cond.instanceMethod yX2_tieOn, Cond.selects RX2 yX2_tieOn yX2_tieOn, Cond.code yX2_tieOn cX2_tieOn 5 none, Cond.methodLink RX2 38 yX2_lastOf, Cond.instanceMethod yX2_lastOf, Cond.selects RX2 yX2_lastOf yX2_lastOf, Cond.code yX2_lastOf cX2_lastOf 4 (some .int)]
def wsX2_moveAll : List Cond := .code yX2_moveAll cX2_moveAll 11 (some .int) :: ((wsX2_moveAll_r1 ++ wsX2_moveAll_r2) ++ wsX20)
def wsX2_isSoundFrom : List Cond := .code yX2_isSoundFrom cX2_isSoundFrom 8 (some .boolean) :: ([.fieldLink RX2 9 "PairThreads$Threads" "order" "[I", .fieldLink RX2 17 "PairThreads$Threads" "number" "[[I", .fieldLink RX2 26 "PairThreads$Threads" "size" "I", .fieldLink RX2 20 "PairThreads$Threads" "before" "[[I", .fieldLink RX2 23 "PairThreads$Threads" "after" "[[I"] ++ wsX20)
def wsX2_areSound : List Cond := .code yX2_areSound cX2_areSound 4 (some .boolean) :: ([.fieldLink RX2 26 "PairThreads$Threads" "size" "I", .fieldLink RX2 9 "PairThreads$Threads" "order" "[I", .fieldLink RX2 17 "PairThreads$Threads" "number" "[[I", .methodLink RX2 30 yX2_firstOf, .instanceMethod yX2_firstOf, .selects RX2 yX2_firstOf yX2_firstOf, .initialized RX2, .code yX2_firstOf cX2_firstOf 4 (some .int), .methodLink RX2 61 yX2_isSoundFrom, .instanceMethod yX2_isSoundFrom, .selects RX2 yX2_isSoundFrom yX2_isSoundFrom, .code yX2_isSoundFrom cX2_isSoundFrom 8 (some .boolean), .fieldLink RX2 20 "PairThreads$Threads" "before" "[[I", .fieldLink RX2 23 "PairThreads$Threads" "after" "[[I"] ++ wsX20)
def wsX3_init_r1 : List Cond := [Cond.methodLink RX3 1 objectInit, Cond.instanceMethod objectInit, Cond.code objectInit ⟨#[0xb1]⟩ 1 none, Cond.classLink RX3 7 RX2, Cond.instantiable RX2 5, Cond.initialized RX2, Cond.fieldLink RX3 10 "PairThreads" "pairs" "LPairThreads$Threads;", Cond.classLink RX3 16 RX1, Cond.instantiable RX1 4, Cond.initialized RX1, Cond.fieldLink RX3 19 "PairThreads" "spread" "LPairThreads$Spread;", Cond.classLink RX3 23 RX0, Cond.instantiable RX0 6, Cond.initialized RX0, Cond.fieldLink RX3 26 "PairThreads" "matching" "LPairThreads$Matching;", Cond.methodLink RX3 9 yX2_init, Cond.instanceMethod yX2_init, Cond.code yX2_init cX2_init 2 none, Cond.methodLink RX2 3 objectInit, Cond.arrayClass .int, Cond.fieldLink RX2 9 "PairThreads$Threads" "order" "[I", Cond.classLink RX2 15 "[[I", Cond.fieldLink RX2 17 "PairThreads$Threads" "number" "[[I", Cond.fieldLink RX2 20 "PairThreads$Threads" "before" "[[I"]
def wsX3_init_r2 : List Cond := [Cond.fieldLink RX2 23 "PairThreads$Threads" "after" "[[I", Cond.instanceMethod yX1_init, Cond.code yX1_init cX1_init 1 none, Cond.methodLink RX1 3 objectInit, Cond.fieldLink RX1 9 "PairThreads$Spread" "reached" "[I", Cond.fieldLink RX1 15 "PairThreads$Spread" "rowTo" "[I", Cond.classLink RX1 18 "[[I", Cond.fieldLink RX1 20 "PairThreads$Spread" "walked" "[[I", Cond.instanceMethod yX0_init, Cond.code yX0_init cX0_init 1 none, Cond.methodLink RX0 3 objectInit, Cond.classLink RX0 9 "[[I", Cond.fieldLink RX0 11 "PairThreads$Matching" "head" "[[I", Cond.fieldLink RX0 16 "PairThreads$Matching" "chosen" "[[I", Cond.fieldLink RX0 19 "PairThreads$Matching" "waiting" "[I", Cond.fieldLink RX0 23 "PairThreads$Matching" "cause" "[I", Cond.fieldLink RX0 26 "PairThreads$Matching" "seen" "[I"]
def wsX3_init : List Cond := .code yX3_init cX3_init 1 none :: ((wsX3_init_r1 ++ wsX3_init_r2) ++ wsX20 ++ wsX30 ++ wsX10 ++ wsX00)
def wsX3_link : List Cond := .code yX3_link cX3_link 3 (some .int) :: ([.fieldLink RX3 10 "PairThreads" "pairs" "LPairThreads$Threads;", .methodLink RX3 30 yX2_placeOf, .instanceMethod yX2_placeOf, .selects RX2 yX2_placeOf yX2_placeOf, .initialized RX2, .code yX2_placeOf cX2_placeOf 5 (some .int), .fieldLink RX2 26 "PairThreads$Threads" "size" "I", .fieldLink RX2 9 "PairThreads$Threads" "order" "[I", .fieldLink RX2 17 "PairThreads$Threads" "number" "[[I", .methodLink RX3 38 yX2_append, .instanceMethod yX2_append, .selects RX2 yX2_append yX2_append, .code yX2_append cX2_append 4 none, .methodLink RX2 34 yX2_tieOn, .instanceMethod yX2_tieOn, .selects RX2 yX2_tieOn yX2_tieOn, .code yX2_tieOn cX2_tieOn 5 none, .fieldLink RX2 20 "PairThreads$Threads" "before" "[[I", .fieldLink RX2 23 "PairThreads$Threads" "after" "[[I", .methodLink RX2 38 yX2_lastOf, .instanceMethod yX2_lastOf, .selects RX2 yX2_lastOf yX2_lastOf, .code yX2_lastOf cX2_lastOf 4 (some .int)] ++ wsX30 ++ wsX20)
def wsX3_unlink : List Cond := .code yX3_unlink cX3_unlink 4 (some .int) :: ([.fieldLink RX3 10 "PairThreads" "pairs" "LPairThreads$Threads;", .methodLink RX3 30 yX2_placeOf, .instanceMethod yX2_placeOf, .selects RX2 yX2_placeOf yX2_placeOf, .initialized RX2, .code yX2_placeOf cX2_placeOf 5 (some .int), .fieldLink RX2 26 "PairThreads$Threads" "size" "I", .fieldLink RX2 9 "PairThreads$Threads" "order" "[I", .fieldLink RX2 17 "PairThreads$Threads" "number" "[[I", .methodLink RX3 42 yX2_takeOut, .instanceMethod yX2_takeOut, .selects RX2 yX2_takeOut yX2_takeOut, .code yX2_takeOut cX2_takeOut 3 none, .methodLink RX2 45 arraycopyName, .native arraycopyName, .static arraycopyName, .initialized "java/lang/System", .methodLink RX2 41 yX2_untie, .instanceMethod yX2_untie, .selects RX2 yX2_untie yX2_untie, .code yX2_untie cX2_untie 5 none, .fieldLink RX2 20 "PairThreads$Threads" "before" "[[I", .fieldLink RX2 23 "PairThreads$Threads" "after" "[[I"] ++ wsX30 ++ wsX20)
def wsX3_place : List Cond := .code yX3_place cX3_place 3 (some .int) :: ([.fieldLink RX3 10 "PairThreads" "pairs" "LPairThreads$Threads;", .methodLink RX3 30 yX2_placeOf, .instanceMethod yX2_placeOf, .selects RX2 yX2_placeOf yX2_placeOf, .initialized RX2, .code yX2_placeOf cX2_placeOf 5 (some .int), .fieldLink RX2 26 "PairThreads$Threads" "size" "I", .fieldLink RX2 9 "PairThreads$Threads" "order" "[I", .fieldLink RX2 17 "PairThreads$Threads" "number" "[[I"] ++ wsX30 ++ wsX20)
def wsX3_isSide : List Cond := .code yX3_isSide cX3_isSide 1 (some .boolean) :: ([])
def wsX3_degree : List Cond := .code yX3_degree cX3_degree 3 (some .int) :: ([.fieldLink RX3 10 "PairThreads" "pairs" "LPairThreads$Threads;", .methodLink RX3 46 yX3_isSide, .static yX3_isSide, .initialized RX3, .code yX3_isSide cX3_isSide 1 (some .boolean), .methodLink RX3 50 yX2_lengthOf, .instanceMethod yX2_lengthOf, .selects RX2 yX2_lengthOf yX2_lengthOf, .initialized RX2, .code yX2_lengthOf cX2_lengthOf 6 (some .int), .fieldLink RX2 26 "PairThreads$Threads" "size" "I", .fieldLink RX2 23 "PairThreads$Threads" "after" "[[I", .methodLink RX2 30 yX2_firstOf, .instanceMethod yX2_firstOf, .selects RX2 yX2_firstOf yX2_firstOf, .code yX2_firstOf cX2_firstOf 4 (some .int), .fieldLink RX2 17 "PairThreads$Threads" "number" "[[I", .fieldLink RX2 9 "PairThreads$Threads" "order" "[I"] ++ wsX30 ++ wsX20)
def wsX3_other : List Cond := .code yX3_other cX3_other 5 (some .int) :: ([.fieldLink RX3 10 "PairThreads" "pairs" "LPairThreads$Threads;", .methodLink RX3 46 yX3_isSide, .static yX3_isSide, .initialized RX3, .code yX3_isSide cX3_isSide 1 (some .boolean), .methodLink RX3 53 yX2_inThread, .instanceMethod yX2_inThread, .selects RX2 yX2_inThread yX2_inThread, .initialized RX2, .code yX2_inThread cX2_inThread 6 (some .int), .fieldLink RX2 26 "PairThreads$Threads" "size" "I", .fieldLink RX2 23 "PairThreads$Threads" "after" "[[I", .methodLink RX2 30 yX2_firstOf, .instanceMethod yX2_firstOf, .selects RX2 yX2_firstOf yX2_firstOf, .code yX2_firstOf cX2_firstOf 4 (some .int), .fieldLink RX2 17 "PairThreads$Threads" "number" "[[I", .fieldLink RX2 9 "PairThreads$Threads" "order" "[I"] ++ wsX30 ++ wsX20)
def wsX3_drop_r1 : List Cond := [Cond.fieldLink RX3 10 "PairThreads" "pairs" "LPairThreads$Threads;", Cond.methodLink RX3 46 yX3_isSide, Cond.static yX3_isSide, Cond.initialized RX3, Cond.code yX3_isSide cX3_isSide 1 (some .boolean), Cond.methodLink RX3 61 yX2_takeOutAll, Cond.instanceMethod yX2_takeOutAll, Cond.selects RX2 yX2_takeOutAll yX2_takeOutAll, Cond.initialized RX2, Cond.code yX2_takeOutAll cX2_takeOutAll 5 (some .int), Cond.fieldLink RX2 26 "PairThreads$Threads" "size" "I", Cond.fieldLink RX2 17 "PairThreads$Threads" "number" "[[I", Cond.fieldLink RX2 9 "PairThreads$Threads" "order" "[I", Cond.methodLink RX2 51 yX2_takeOut, Cond.instanceMethod yX2_takeOut, Cond.selects RX2 yX2_takeOut yX2_takeOut, Cond.code yX2_takeOut cX2_takeOut 3 none, Cond.methodLink RX2 45 arraycopyName, Cond.native arraycopyName, Cond.static arraycopyName, Cond.initialized "java/lang/System", Cond.methodLink RX2 41 yX2_untie, Cond.instanceMethod yX2_untie, Cond.selects RX2 yX2_untie yX2_untie]
def wsX3_drop_r2 : List Cond := [Cond.code yX2_untie cX2_untie 5 none, Cond.fieldLink RX2 20 "PairThreads$Threads" "before" "[[I", Cond.fieldLink RX2 23 "PairThreads$Threads" "after" "[[I"]
def wsX3_drop : List Cond := .code yX3_drop cX3_drop 3 (some .int) :: ((wsX3_drop_r1 ++ wsX3_drop_r2) ++ wsX30 ++ wsX20)
def wsX3_rename_r1 : List Cond := [Cond.fieldLink RX3 10 "PairThreads" "pairs" "LPairThreads$Threads;", Cond.methodLink RX3 46 yX3_isSide, Cond.static yX3_isSide, Cond.initialized RX3, Cond.code yX3_isSide cX3_isSide 1 (some .boolean), Cond.methodLink RX3 64 yX2_moveAll, Cond.instanceMethod yX2_moveAll, Cond.selects RX2 yX2_moveAll yX2_moveAll, Cond.initialized RX2, Cond.code yX2_moveAll cX2_moveAll 11 (some .int), Cond.fieldLink RX2 26 "PairThreads$Threads" "size" "I", Cond.fieldLink RX2 9 "PairThreads$Threads" "order" "[I", Cond.fieldLink RX2 17 "PairThreads$Threads" "number" "[[I", Cond.methodLink RX2 51 yX2_takeOut, Cond.instanceMethod yX2_takeOut, Cond.selects RX2 yX2_takeOut yX2_takeOut, Cond.code yX2_takeOut cX2_takeOut 3 none, Cond.methodLink RX2 45 arraycopyName, Cond.native arraycopyName, Cond.static arraycopyName, Cond.initialized "java/lang/System", Cond.methodLink RX2 41 yX2_untie, Cond.instanceMethod yX2_untie, Cond.selects RX2 yX2_untie yX2_untie]
def wsX3_rename_r2 : List Cond := [Cond.code yX2_untie cX2_untie 5 none, Cond.fieldLink RX2 20 "PairThreads$Threads" "before" "[[I", Cond.fieldLink RX2 23 "PairThreads$Threads" "after" "[[I", Cond.methodLink RX2 55 yX2_placeOf, Cond.instanceMethod yX2_placeOf, Cond.selects RX2 yX2_placeOf yX2_placeOf, Cond.code yX2_placeOf cX2_placeOf 5 (some .int), Cond.methodLink RX2 58 yX2_append, Cond.instanceMethod yX2_append, Cond.selects RX2 yX2_append yX2_append, Cond.code yX2_append cX2_append 4 none, Cond.methodLink RX2 34 yX2_tieOn, Cond.instanceMethod yX2_tieOn, Cond.selects RX2 yX2_tieOn yX2_tieOn, Cond.code yX2_tieOn cX2_tieOn 5 none, Cond.methodLink RX2 38 yX2_lastOf, Cond.instanceMethod yX2_lastOf, Cond.selects RX2 yX2_lastOf yX2_lastOf, Cond.code yX2_lastOf cX2_lastOf 4 (some .int)]
def wsX3_rename : List Cond := .code yX3_rename cX3_rename 4 (some .int) :: ((wsX3_rename_r1 ++ wsX3_rename_r2) ++ wsX30 ++ wsX20)
def wsX3_at : List Cond := .code yX3_at cX3_at 3 (some .int) :: ([.fieldLink RX3 10 "PairThreads" "pairs" "LPairThreads$Threads;", .methodLink RX3 46 yX3_isSide, .static yX3_isSide, .initialized RX3, .code yX3_isSide cX3_isSide 1 (some .boolean)] ++ wsX30 ++ wsX20)
def wsX3_count_r1 : List Cond := [Cond.fieldLink RX3 10 "PairThreads" "pairs" "LPairThreads$Threads;", Cond.fieldLink RX3 26 "PairThreads" "matching" "LPairThreads$Matching;", Cond.fieldLink RX3 19 "PairThreads" "spread" "LPairThreads$Spread;", Cond.methodLink RX3 71 yX2_threadsOn, Cond.instanceMethod yX2_threadsOn, Cond.selects RX2 yX2_threadsOn yX2_threadsOn, Cond.initialized RX2, Cond.code yX2_threadsOn cX2_threadsOn 4 (some .int), Cond.fieldLink RX2 26 "PairThreads$Threads" "size" "I", Cond.fieldLink RX2 20 "PairThreads$Threads" "before" "[[I", Cond.fieldLink RX2 9 "PairThreads$Threads" "order" "[I", Cond.methodLink RX3 75 yX0_largest, Cond.instanceMethod yX0_largest, Cond.selects RX0 yX0_largest yX0_largest, Cond.initialized RX0, Cond.code yX0_largest cX0_largest 4 (some .int), Cond.methodLink RX0 29 yX0_findHeads, Cond.instanceMethod yX0_findHeads, Cond.selects RX0 yX0_findHeads yX0_findHeads, Cond.code yX0_findHeads cX0_findHeads 6 none, Cond.fieldLink RX0 11 "PairThreads$Matching" "head" "[[I", Cond.methodLink RX0 33 yX0_takeFree, Cond.instanceMethod yX0_takeFree, Cond.selects RX0 yX0_takeFree yX0_takeFree]
def wsX3_count_r2 : List Cond := [Cond.code yX0_takeFree cX0_takeFree 5 (some .int), Cond.fieldLink RX0 16 "PairThreads$Matching" "chosen" "[[I", Cond.methodLink RX0 53 yJ7_fill_53178, Cond.static yJ7_fill_53178, Cond.initialized RJ7, Cond.code yJ7_fill_53178 cJ7_fill_53178 4 none, Cond.methodLink RX0 59 yX0_chosenOf, Cond.instanceMethod yX0_chosenOf, Cond.selects RX0 yX0_chosenOf yX0_chosenOf, Cond.code yX0_chosenOf cX0_chosenOf 3 (some .int), Cond.methodLink RX0 63 yX0_choose, Cond.instanceMethod yX0_choose, Cond.selects RX0 yX0_choose yX0_choose, Cond.code yX0_choose cX0_choose 2 none, Cond.methodLink RX0 43 yX0_grow, Cond.instanceMethod yX0_grow, Cond.selects RX0 yX0_grow yX0_grow, Cond.code yX0_grow cX0_grow 5 (some .boolean), Cond.fieldLink RX0 26 "PairThreads$Matching" "seen" "[I", Cond.fieldLink RX0 71 "PairThreads$Matching" "found" "I", Cond.fieldLink RX0 19 "PairThreads$Matching" "waiting" "[I", Cond.methodLink RX0 67 yX0_awaitFree, Cond.instanceMethod yX0_awaitFree, Cond.selects RX0 yX0_awaitFree yX0_awaitFree]
def wsX3_count_r3 : List Cond := [Cond.code yX0_awaitFree cX0_awaitFree 4 none, Cond.methodLink RX0 82 yX0_await, Cond.instanceMethod yX0_await, Cond.selects RX0 yX0_await yX0_await, Cond.code yX0_await cX0_await 3 none, Cond.fieldLink RX0 23 "PairThreads$Matching" "cause" "[I", Cond.methodLink RX0 74 yX0_turn, Cond.instanceMethod yX0_turn, Cond.selects RX0 yX0_turn yX0_turn, Cond.code yX0_turn cX0_turn 5 none, Cond.methodLink RX0 78 yX0_awaitInstead, Cond.instanceMethod yX0_awaitInstead, Cond.selects RX0 yX0_awaitInstead yX0_awaitInstead, Cond.code yX0_awaitInstead cX0_awaitInstead 6 none, Cond.methodLink RX3 79 yX1_allParts, Cond.instanceMethod yX1_allParts, Cond.selects RX1 yX1_allParts yX1_allParts, Cond.initialized RX1, Cond.code yX1_allParts cX1_allParts 5 (some .int), Cond.fieldLink RX1 15 "PairThreads$Spread" "rowTo" "[I", Cond.methodLink RX1 36 yX1_forget, Cond.instanceMethod yX1_forget, Cond.selects RX1 yX1_forget yX1_forget, Cond.code yX1_forget cX1_forget 1 none]
def wsX3_count_r4 : List Cond := [Cond.fieldLink RX1 27 "PairThreads$Spread" "found" "I", Cond.fieldLink RX1 20 "PairThreads$Spread" "walked" "[[I", Cond.methodLink RX1 52 yJ7_fill_53178, Cond.methodLink RX1 45 yX1_spreadFrom, Cond.instanceMethod yX1_spreadFrom, Cond.selects RX1 yX1_spreadFrom yX1_spreadFrom, Cond.code yX1_spreadFrom cX1_spreadFrom 7 none, Cond.fieldLink RX1 9 "PairThreads$Spread" "reached" "[I", Cond.methodLink RX1 58 yX1_walk, Cond.instanceMethod yX1_walk, Cond.selects RX1 yX1_walk yX1_walk, Cond.code yX1_walk cX1_walk 7 none, Cond.methodLink RX1 62 yX2_headOf, Cond.instanceMethod yX2_headOf, Cond.selects RX2 yX2_headOf yX2_headOf, Cond.code yX2_headOf cX2_headOf 5 (some .int), Cond.methodLink RX1 65 yX1_reach, Cond.instanceMethod yX1_reach, Cond.selects RX1 yX1_reach yX1_reach, Cond.code yX1_reach cX1_reach 3 none]
def wsX3_count : List Cond := .code yX3_count cX3_count 2 (some .int) :: ((wsX3_count_r1 ++ (wsX3_count_r2 ++ (wsX3_count_r3 ++ wsX3_count_r4))) ++ wsX30 ++ wsX20 ++ wsX00 ++ wsX10)
def wsX3_part_r1 : List Cond := [Cond.fieldLink RX3 19 "PairThreads" "spread" "LPairThreads$Spread;", Cond.fieldLink RX3 10 "PairThreads" "pairs" "LPairThreads$Threads;", Cond.methodLink RX3 46 yX3_isSide, Cond.static yX3_isSide, Cond.initialized RX3, Cond.code yX3_isSide cX3_isSide 1 (some .boolean), Cond.methodLink RX3 82 yX1_partOf, Cond.instanceMethod yX1_partOf, Cond.selects RX1 yX1_partOf yX1_partOf, Cond.initialized RX1, Cond.code yX1_partOf cX1_partOf 4 (some .int), Cond.fieldLink RX1 27 "PairThreads$Spread" "found" "I", Cond.methodLink RX1 23 yX1_start, Cond.instanceMethod yX1_start, Cond.selects RX1 yX1_start yX1_start, Cond.code yX1_start cX1_start 5 none, Cond.methodLink RX1 36 yX1_forget, Cond.instanceMethod yX1_forget, Cond.selects RX1 yX1_forget yX1_forget, Cond.code yX1_forget cX1_forget 1 none, Cond.fieldLink RX1 15 "PairThreads$Spread" "rowTo" "[I", Cond.fieldLink RX1 20 "PairThreads$Spread" "walked" "[[I", Cond.methodLink RX1 52 yJ7_fill_53178, Cond.static yJ7_fill_53178]
def wsX3_part_r2 : List Cond := [Cond.initialized RJ7, Cond.code yJ7_fill_53178 cJ7_fill_53178 4 none, Cond.methodLink RX1 48 yX2_firstOf, Cond.instanceMethod yX2_firstOf, Cond.selects RX2 yX2_firstOf yX2_firstOf, Cond.initialized RX2, Cond.code yX2_firstOf cX2_firstOf 4 (some .int), Cond.fieldLink RX2 26 "PairThreads$Threads" "size" "I", Cond.fieldLink RX2 17 "PairThreads$Threads" "number" "[[I", Cond.fieldLink RX2 9 "PairThreads$Threads" "order" "[I", Cond.methodLink RX1 45 yX1_spreadFrom, Cond.instanceMethod yX1_spreadFrom, Cond.selects RX1 yX1_spreadFrom yX1_spreadFrom, Cond.code yX1_spreadFrom cX1_spreadFrom 7 none, Cond.fieldLink RX1 9 "PairThreads$Spread" "reached" "[I", Cond.methodLink RX1 58 yX1_walk, Cond.instanceMethod yX1_walk, Cond.selects RX1 yX1_walk yX1_walk, Cond.code yX1_walk cX1_walk 7 none, Cond.methodLink RX1 62 yX2_headOf, Cond.instanceMethod yX2_headOf, Cond.selects RX2 yX2_headOf yX2_headOf, Cond.code yX2_headOf cX2_headOf 5 (some .int), Cond.fieldLink RX2 20 "PairThreads$Threads" "before" "[[I"]
def wsX3_part_r3 : List Cond := [Cond.methodLink RX1 65 yX1_reach, Cond.instanceMethod yX1_reach, Cond.selects RX1 yX1_reach yX1_reach, Cond.code yX1_reach cX1_reach 3 none]
def wsX3_part : List Cond := .code yX3_part cX3_part 3 (some .int) :: ((wsX3_part_r1 ++ (wsX3_part_r2 ++ wsX3_part_r3)) ++ wsX30 ++ wsX10 ++ wsX20)
def wsX3_way_r1 : List Cond := [Cond.fieldLink RX3 19 "PairThreads" "spread" "LPairThreads$Spread;", Cond.fieldLink RX3 10 "PairThreads" "pairs" "LPairThreads$Threads;", Cond.methodLink RX3 46 yX3_isSide, Cond.static yX3_isSide, Cond.initialized RX3, Cond.code yX3_isSide cX3_isSide 1 (some .boolean), Cond.methodLink RX3 86 yX1_leastRow, Cond.instanceMethod yX1_leastRow, Cond.selects RX1 yX1_leastRow yX1_leastRow, Cond.initialized RX1, Cond.code yX1_leastRow cX1_leastRow 7 (some .int), Cond.fieldLink RX1 27 "PairThreads$Spread" "found" "I", Cond.fieldLink RX1 9 "PairThreads$Spread" "reached" "[I", Cond.fieldLink RX1 15 "PairThreads$Spread" "rowTo" "[I", Cond.methodLink RX1 23 yX1_start, Cond.instanceMethod yX1_start, Cond.selects RX1 yX1_start yX1_start, Cond.code yX1_start cX1_start 5 none, Cond.methodLink RX1 36 yX1_forget, Cond.instanceMethod yX1_forget, Cond.selects RX1 yX1_forget yX1_forget, Cond.code yX1_forget cX1_forget 1 none, Cond.fieldLink RX1 20 "PairThreads$Spread" "walked" "[[I", Cond.methodLink RX1 52 yJ7_fill_53178]
def wsX3_way_r2 : List Cond := [Cond.static yJ7_fill_53178, Cond.initialized RJ7, Cond.code yJ7_fill_53178 cJ7_fill_53178 4 none, Cond.methodLink RX1 48 yX2_firstOf, Cond.instanceMethod yX2_firstOf, Cond.selects RX2 yX2_firstOf yX2_firstOf, Cond.initialized RX2, Cond.code yX2_firstOf cX2_firstOf 4 (some .int), Cond.fieldLink RX2 26 "PairThreads$Threads" "size" "I", Cond.fieldLink RX2 17 "PairThreads$Threads" "number" "[[I", Cond.fieldLink RX2 9 "PairThreads$Threads" "order" "[I", Cond.methodLink RX1 45 yX1_spreadFrom, Cond.instanceMethod yX1_spreadFrom, Cond.selects RX1 yX1_spreadFrom yX1_spreadFrom, Cond.code yX1_spreadFrom cX1_spreadFrom 7 none, Cond.methodLink RX1 58 yX1_walk, Cond.instanceMethod yX1_walk, Cond.selects RX1 yX1_walk yX1_walk, Cond.code yX1_walk cX1_walk 7 none, Cond.methodLink RX1 62 yX2_headOf, Cond.instanceMethod yX2_headOf, Cond.selects RX2 yX2_headOf yX2_headOf, Cond.code yX2_headOf cX2_headOf 5 (some .int), Cond.fieldLink RX2 20 "PairThreads$Threads" "before" "[[I"]
def wsX3_way_r3 : List Cond := [Cond.methodLink RX1 65 yX1_reach, Cond.instanceMethod yX1_reach, Cond.selects RX1 yX1_reach yX1_reach, Cond.code yX1_reach cX1_reach 3 none]
def wsX3_way : List Cond := .code yX3_way cX3_way 5 (some .int) :: ((wsX3_way_r1 ++ (wsX3_way_r2 ++ wsX3_way_r3)) ++ wsX30 ++ wsX10 ++ wsX20)
def wsX3_clear : List Cond := .code yX3_clear cX3_clear 2 (some .int) :: ([.fieldLink RX3 10 "PairThreads" "pairs" "LPairThreads$Threads;"] ++ wsX30 ++ wsX20)
def wsX3_check : List Cond := .code yX3_check cX3_check 1 (some .int) :: ([.fieldLink RX3 10 "PairThreads" "pairs" "LPairThreads$Threads;", .methodLink RX3 90 yX2_areSound, .instanceMethod yX2_areSound, .selects RX2 yX2_areSound yX2_areSound, .initialized RX2, .code yX2_areSound cX2_areSound 4 (some .boolean), .fieldLink RX2 26 "PairThreads$Threads" "size" "I", .fieldLink RX2 9 "PairThreads$Threads" "order" "[I", .fieldLink RX2 17 "PairThreads$Threads" "number" "[[I", .methodLink RX2 30 yX2_firstOf, .instanceMethod yX2_firstOf, .selects RX2 yX2_firstOf yX2_firstOf, .code yX2_firstOf cX2_firstOf 4 (some .int), .methodLink RX2 61 yX2_isSoundFrom, .instanceMethod yX2_isSoundFrom, .selects RX2 yX2_isSoundFrom yX2_isSoundFrom, .code yX2_isSoundFrom cX2_isSoundFrom 8 (some .boolean), .fieldLink RX2 20 "PairThreads$Threads" "before" "[[I", .fieldLink RX2 23 "PairThreads$Threads" "after" "[[I"] ++ wsX30 ++ wsX20)
def wsX4_init : List Cond := .code yX4_init cX4_init 1 none :: ([.methodLink RX4 1 objectInit, .instanceMethod objectInit, .code objectInit ⟨#[0xb1]⟩ 1 none, .arrayClass .int, .fieldLink RX4 7 "PairThreadsModel" "lefts" "[I", .fieldLink RX4 13 "PairThreadsModel" "rights" "[I", .fieldLink RX4 16 "PairThreadsModel" "leftOf" "[I", .fieldLink RX4 19 "PairThreadsModel" "rightOf" "[I", .fieldLink RX4 22 "PairThreadsModel" "firstOf" "[I", .fieldLink RX4 25 "PairThreadsModel" "nextOf" "[I", .fieldLink RX4 28 "PairThreadsModel" "partner" "[I", .arrayClass .boolean, .fieldLink RX4 31 "PairThreadsModel" "matched" "[Z", .fieldLink RX4 35 "PairThreadsModel" "queue" "[I", .fieldLink RX4 38 "PairThreadsModel" "comesFrom" "[I", .fieldLink RX4 41 "PairThreadsModel" "far" "[I", .fieldLink RX4 44 "PairThreadsModel" "kept" "[I", .fieldLink RX4 47 "PairThreadsModel" "many" "I"] ++ wsX40)
def wsX4_find : List Cond := .code yX4_find cX4_find 5 (some .int) :: ([.fieldLink RX4 47 "PairThreadsModel" "many" "I", .fieldLink RX4 7 "PairThreadsModel" "lefts" "[I", .fieldLink RX4 13 "PairThreadsModel" "rights" "[I"] ++ wsX40)
def wsX4_isSide : List Cond := .code yX4_isSide cX4_isSide 1 (some .boolean) :: ([])
def wsX4_own : List Cond := .code yX4_own cX4_own 3 (some .int) :: ([.fieldLink RX4 7 "PairThreadsModel" "lefts" "[I", .fieldLink RX4 13 "PairThreadsModel" "rights" "[I"] ++ wsX40)
def wsX4_add : List Cond := .code yX4_add cX4_add 3 none :: ([.fieldLink RX4 7 "PairThreadsModel" "lefts" "[I", .fieldLink RX4 47 "PairThreadsModel" "many" "I", .fieldLink RX4 13 "PairThreadsModel" "rights" "[I"] ++ wsX40)
def wsX4_remove : List Cond := .code yX4_remove cX4_remove 3 none :: ([.fieldLink RX4 47 "PairThreadsModel" "many" "I", .fieldLink RX4 7 "PairThreadsModel" "lefts" "[I", .fieldLink RX4 13 "PairThreadsModel" "rights" "[I"] ++ wsX40)
def wsX4_link : List Cond := .code yX4_link cX4_link 3 (some .int) :: ([.fieldLink RX4 47 "PairThreadsModel" "many" "I", .methodLink RX4 51 yX4_find, .instanceMethod yX4_find, .selects RX4 yX4_find yX4_find, .initialized RX4, .code yX4_find cX4_find 5 (some .int), .fieldLink RX4 7 "PairThreadsModel" "lefts" "[I", .fieldLink RX4 13 "PairThreadsModel" "rights" "[I", .methodLink RX4 55 yX4_add, .instanceMethod yX4_add, .selects RX4 yX4_add yX4_add, .code yX4_add cX4_add 3 none] ++ wsX40)
def wsX4_unlink : List Cond := .code yX4_unlink cX4_unlink 4 (some .int) :: ([.fieldLink RX4 47 "PairThreadsModel" "many" "I", .methodLink RX4 51 yX4_find, .instanceMethod yX4_find, .selects RX4 yX4_find yX4_find, .initialized RX4, .code yX4_find cX4_find 5 (some .int), .fieldLink RX4 7 "PairThreadsModel" "lefts" "[I", .fieldLink RX4 13 "PairThreadsModel" "rights" "[I", .methodLink RX4 59 yX4_remove, .instanceMethod yX4_remove, .selects RX4 yX4_remove yX4_remove, .code yX4_remove cX4_remove 3 none] ++ wsX40)
def wsX4_place : List Cond := .code yX4_place cX4_place 3 (some .int) :: ([.methodLink RX4 51 yX4_find, .instanceMethod yX4_find, .selects RX4 yX4_find yX4_find, .initialized RX4, .code yX4_find cX4_find 5 (some .int), .fieldLink RX4 47 "PairThreadsModel" "many" "I", .fieldLink RX4 7 "PairThreadsModel" "lefts" "[I", .fieldLink RX4 13 "PairThreadsModel" "rights" "[I"] ++ wsX40)
def wsX4_degree : List Cond := .code yX4_degree cX4_degree 5 (some .int) :: ([.fieldLink RX4 47 "PairThreadsModel" "many" "I", .methodLink RX4 63 yX4_isSide, .static yX4_isSide, .initialized RX4, .code yX4_isSide cX4_isSide 1 (some .boolean), .methodLink RX4 67 yX4_own, .instanceMethod yX4_own, .selects RX4 yX4_own yX4_own, .code yX4_own cX4_own 3 (some .int), .fieldLink RX4 7 "PairThreadsModel" "lefts" "[I", .fieldLink RX4 13 "PairThreadsModel" "rights" "[I"] ++ wsX40)
def wsX4_other : List Cond := .code yX4_other cX4_other 6 (some .int) :: ([.fieldLink RX4 47 "PairThreadsModel" "many" "I", .methodLink RX4 63 yX4_isSide, .static yX4_isSide, .initialized RX4, .code yX4_isSide cX4_isSide 1 (some .boolean), .methodLink RX4 67 yX4_own, .instanceMethod yX4_own, .selects RX4 yX4_own yX4_own, .code yX4_own cX4_own 3 (some .int), .fieldLink RX4 7 "PairThreadsModel" "lefts" "[I", .fieldLink RX4 13 "PairThreadsModel" "rights" "[I"] ++ wsX40)
def wsX4_drop : List Cond := .code yX4_drop cX4_drop 5 (some .int) :: ([.fieldLink RX4 47 "PairThreadsModel" "many" "I", .methodLink RX4 63 yX4_isSide, .static yX4_isSide, .initialized RX4, .code yX4_isSide cX4_isSide 1 (some .boolean), .methodLink RX4 67 yX4_own, .instanceMethod yX4_own, .selects RX4 yX4_own yX4_own, .code yX4_own cX4_own 3 (some .int), .fieldLink RX4 7 "PairThreadsModel" "lefts" "[I", .fieldLink RX4 13 "PairThreadsModel" "rights" "[I", .methodLink RX4 59 yX4_remove, .instanceMethod yX4_remove, .selects RX4 yX4_remove yX4_remove, .code yX4_remove cX4_remove 3 none] ++ wsX40)
def wsX4_rename_r1 : List Cond := [Cond.fieldLink RX4 47 "PairThreadsModel" "many" "I", Cond.fieldLink RX4 44 "PairThreadsModel" "kept" "[I", Cond.methodLink RX4 63 yX4_isSide, Cond.static yX4_isSide, Cond.initialized RX4, Cond.code yX4_isSide cX4_isSide 1 (some .boolean), Cond.methodLink RX4 67 yX4_own, Cond.instanceMethod yX4_own, Cond.selects RX4 yX4_own yX4_own, Cond.code yX4_own cX4_own 3 (some .int), Cond.fieldLink RX4 7 "PairThreadsModel" "lefts" "[I", Cond.fieldLink RX4 13 "PairThreadsModel" "rights" "[I", Cond.methodLink RX4 70 yX4_drop, Cond.instanceMethod yX4_drop, Cond.selects RX4 yX4_drop yX4_drop, Cond.code yX4_drop cX4_drop 5 (some .int), Cond.methodLink RX4 59 yX4_remove, Cond.instanceMethod yX4_remove, Cond.selects RX4 yX4_remove yX4_remove, Cond.code yX4_remove cX4_remove 3 none, Cond.methodLink RX4 51 yX4_find, Cond.instanceMethod yX4_find, Cond.selects RX4 yX4_find yX4_find, Cond.code yX4_find cX4_find 5 (some .int)]
def wsX4_rename_r2 : List Cond := [Cond.methodLink RX4 55 yX4_add, Cond.instanceMethod yX4_add, Cond.selects RX4 yX4_add yX4_add, Cond.code yX4_add cX4_add 3 none]
def wsX4_rename : List Cond := .code yX4_rename cX4_rename 9 (some .int) :: ((wsX4_rename_r1 ++ wsX4_rename_r2) ++ wsX40)
def wsX4_at : List Cond := .code yX4_at cX4_at 3 (some .int) :: ([.fieldLink RX4 47 "PairThreadsModel" "many" "I", .methodLink RX4 63 yX4_isSide, .static yX4_isSide, .initialized RX4, .code yX4_isSide cX4_isSide 1 (some .boolean), .methodLink RX4 67 yX4_own, .instanceMethod yX4_own, .selects RX4 yX4_own yX4_own, .code yX4_own cX4_own 3 (some .int), .fieldLink RX4 7 "PairThreadsModel" "lefts" "[I", .fieldLink RX4 13 "PairThreadsModel" "rights" "[I"] ++ wsX40)
def wsX4_number : List Cond := .code yX4_number cX4_number 5 none :: ([.fieldLink RX4 73 "PairThreadsModel" "leftMany" "I", .fieldLink RX4 76 "PairThreadsModel" "rightMany" "I", .fieldLink RX4 47 "PairThreadsModel" "many" "I", .fieldLink RX4 7 "PairThreadsModel" "lefts" "[I", .fieldLink RX4 16 "PairThreadsModel" "leftOf" "[I", .fieldLink RX4 13 "PairThreadsModel" "rights" "[I", .fieldLink RX4 19 "PairThreadsModel" "rightOf" "[I", .fieldLink RX4 22 "PairThreadsModel" "firstOf" "[I", .fieldLink RX4 25 "PairThreadsModel" "nextOf" "[I"] ++ wsX40)
def wsX4_turn : List Cond := .code yX4_turn cX4_turn 8 none :: ([.fieldLink RX4 38 "PairThreadsModel" "comesFrom" "[I", .fieldLink RX4 76 "PairThreadsModel" "rightMany" "I", .fieldLink RX4 28 "PairThreadsModel" "partner" "[I"] ++ wsX40)
def wsX4_grows : List Cond := .code yX4_grows cX4_grows 7 (some .boolean) :: ([.fieldLink RX4 76 "PairThreadsModel" "rightMany" "I", .fieldLink RX4 38 "PairThreadsModel" "comesFrom" "[I", .fieldLink RX4 35 "PairThreadsModel" "queue" "[I", .fieldLink RX4 22 "PairThreadsModel" "firstOf" "[I", .fieldLink RX4 19 "PairThreadsModel" "rightOf" "[I", .fieldLink RX4 28 "PairThreadsModel" "partner" "[I", .fieldLink RX4 25 "PairThreadsModel" "nextOf" "[I", .methodLink RX4 79 yX4_turn, .instanceMethod yX4_turn, .selects RX4 yX4_turn yX4_turn, .initialized RX4, .code yX4_turn cX4_turn 8 none] ++ wsX40)
def wsX4_matching_r1 : List Cond := [Cond.fieldLink RX4 76 "PairThreadsModel" "rightMany" "I", Cond.fieldLink RX4 28 "PairThreadsModel" "partner" "[I", Cond.fieldLink RX4 73 "PairThreadsModel" "leftMany" "I", Cond.methodLink RX4 82 yX4_number, Cond.instanceMethod yX4_number, Cond.selects RX4 yX4_number yX4_number, Cond.initialized RX4, Cond.code yX4_number cX4_number 5 none, Cond.fieldLink RX4 47 "PairThreadsModel" "many" "I", Cond.fieldLink RX4 7 "PairThreadsModel" "lefts" "[I", Cond.fieldLink RX4 16 "PairThreadsModel" "leftOf" "[I", Cond.fieldLink RX4 13 "PairThreadsModel" "rights" "[I", Cond.fieldLink RX4 19 "PairThreadsModel" "rightOf" "[I", Cond.fieldLink RX4 22 "PairThreadsModel" "firstOf" "[I", Cond.fieldLink RX4 25 "PairThreadsModel" "nextOf" "[I", Cond.methodLink RX4 85 yX4_grows, Cond.instanceMethod yX4_grows, Cond.selects RX4 yX4_grows yX4_grows, Cond.code yX4_grows cX4_grows 7 (some .boolean), Cond.fieldLink RX4 38 "PairThreadsModel" "comesFrom" "[I", Cond.fieldLink RX4 35 "PairThreadsModel" "queue" "[I", Cond.methodLink RX4 79 yX4_turn, Cond.instanceMethod yX4_turn, Cond.selects RX4 yX4_turn yX4_turn]
def wsX4_matching_r2 : List Cond := [Cond.code yX4_turn cX4_turn 8 none]
def wsX4_matching : List Cond := .code yX4_matching cX4_matching 3 (some .int) :: ((wsX4_matching_r1 ++ wsX4_matching_r2) ++ wsX40)
def wsX4_touch : List Cond := .code yX4_touch cX4_touch 3 (some .boolean) :: ([.fieldLink RX4 7 "PairThreadsModel" "lefts" "[I", .fieldLink RX4 13 "PairThreadsModel" "rights" "[I"] ++ wsX40)
def wsX4_reach : List Cond := .code yX4_reach cX4_reach 5 (some .int) :: ([.fieldLink RX4 47 "PairThreadsModel" "many" "I", .fieldLink RX4 41 "PairThreadsModel" "far" "[I", .fieldLink RX4 35 "PairThreadsModel" "queue" "[I", .methodLink RX4 88 yX4_touch, .instanceMethod yX4_touch, .selects RX4 yX4_touch yX4_touch, .initialized RX4, .code yX4_touch cX4_touch 3 (some .boolean), .fieldLink RX4 7 "PairThreadsModel" "lefts" "[I", .fieldLink RX4 13 "PairThreadsModel" "rights" "[I"] ++ wsX40)
def wsX4_clearFar : List Cond := .code yX4_clearFar cX4_clearFar 2 none :: ([.fieldLink RX4 47 "PairThreadsModel" "many" "I", .fieldLink RX4 41 "PairThreadsModel" "far" "[I"] ++ wsX40)
def wsX4_parts : List Cond := .code yX4_parts cX4_parts 3 (some .int) :: ([.fieldLink RX4 47 "PairThreadsModel" "many" "I", .fieldLink RX4 41 "PairThreadsModel" "far" "[I", .fieldLink RX4 35 "PairThreadsModel" "queue" "[I", .methodLink RX4 92 yX4_clearFar, .instanceMethod yX4_clearFar, .selects RX4 yX4_clearFar yX4_clearFar, .initialized RX4, .code yX4_clearFar cX4_clearFar 2 none, .methodLink RX4 95 yX4_reach, .instanceMethod yX4_reach, .selects RX4 yX4_reach yX4_reach, .code yX4_reach cX4_reach 5 (some .int), .methodLink RX4 88 yX4_touch, .instanceMethod yX4_touch, .selects RX4 yX4_touch yX4_touch, .code yX4_touch cX4_touch 3 (some .boolean), .fieldLink RX4 7 "PairThreadsModel" "lefts" "[I", .fieldLink RX4 13 "PairThreadsModel" "rights" "[I"] ++ wsX40)
def wsX4_begin : List Cond := .code yX4_begin cX4_begin 5 (some .int) :: ([.fieldLink RX4 47 "PairThreadsModel" "many" "I", .fieldLink RX4 41 "PairThreadsModel" "far" "[I", .fieldLink RX4 35 "PairThreadsModel" "queue" "[I", .methodLink RX4 92 yX4_clearFar, .instanceMethod yX4_clearFar, .selects RX4 yX4_clearFar yX4_clearFar, .initialized RX4, .code yX4_clearFar cX4_clearFar 2 none, .methodLink RX4 67 yX4_own, .instanceMethod yX4_own, .selects RX4 yX4_own yX4_own, .code yX4_own cX4_own 3 (some .int), .fieldLink RX4 7 "PairThreadsModel" "lefts" "[I", .fieldLink RX4 13 "PairThreadsModel" "rights" "[I"] ++ wsX40)
def wsX4_part_r1 : List Cond := [Cond.methodLink RX4 63 yX4_isSide, Cond.static yX4_isSide, Cond.initialized RX4, Cond.code yX4_isSide cX4_isSide 1 (some .boolean), Cond.methodLink RX4 99 yX4_begin, Cond.instanceMethod yX4_begin, Cond.selects RX4 yX4_begin yX4_begin, Cond.code yX4_begin cX4_begin 5 (some .int), Cond.fieldLink RX4 47 "PairThreadsModel" "many" "I", Cond.fieldLink RX4 41 "PairThreadsModel" "far" "[I", Cond.fieldLink RX4 35 "PairThreadsModel" "queue" "[I", Cond.methodLink RX4 92 yX4_clearFar, Cond.instanceMethod yX4_clearFar, Cond.selects RX4 yX4_clearFar yX4_clearFar, Cond.code yX4_clearFar cX4_clearFar 2 none, Cond.methodLink RX4 67 yX4_own, Cond.instanceMethod yX4_own, Cond.selects RX4 yX4_own yX4_own, Cond.code yX4_own cX4_own 3 (some .int), Cond.fieldLink RX4 7 "PairThreadsModel" "lefts" "[I", Cond.fieldLink RX4 13 "PairThreadsModel" "rights" "[I", Cond.methodLink RX4 95 yX4_reach, Cond.instanceMethod yX4_reach, Cond.selects RX4 yX4_reach yX4_reach]
def wsX4_part_r2 : List Cond := [Cond.code yX4_reach cX4_reach 5 (some .int), Cond.methodLink RX4 88 yX4_touch, Cond.instanceMethod yX4_touch, Cond.selects RX4 yX4_touch yX4_touch, Cond.code yX4_touch cX4_touch 3 (some .boolean)]
def wsX4_part : List Cond := .code yX4_part cX4_part 3 (some .int) :: ((wsX4_part_r1 ++ wsX4_part_r2) ++ wsX40)
def wsX4_way_r1 : List Cond := [Cond.fieldLink RX4 47 "PairThreadsModel" "many" "I", Cond.fieldLink RX4 41 "PairThreadsModel" "far" "[I", Cond.methodLink RX4 63 yX4_isSide, Cond.static yX4_isSide, Cond.initialized RX4, Cond.code yX4_isSide cX4_isSide 1 (some .boolean), Cond.methodLink RX4 99 yX4_begin, Cond.instanceMethod yX4_begin, Cond.selects RX4 yX4_begin yX4_begin, Cond.code yX4_begin cX4_begin 5 (some .int), Cond.fieldLink RX4 35 "PairThreadsModel" "queue" "[I", Cond.methodLink RX4 92 yX4_clearFar, Cond.instanceMethod yX4_clearFar, Cond.selects RX4 yX4_clearFar yX4_clearFar, Cond.code yX4_clearFar cX4_clearFar 2 none, Cond.methodLink RX4 67 yX4_own, Cond.instanceMethod yX4_own, Cond.selects RX4 yX4_own yX4_own, Cond.code yX4_own cX4_own 3 (some .int), Cond.fieldLink RX4 7 "PairThreadsModel" "lefts" "[I", Cond.fieldLink RX4 13 "PairThreadsModel" "rights" "[I", Cond.methodLink RX4 95 yX4_reach, Cond.instanceMethod yX4_reach, Cond.selects RX4 yX4_reach yX4_reach]
def wsX4_way_r2 : List Cond := [Cond.code yX4_reach cX4_reach 5 (some .int), Cond.methodLink RX4 88 yX4_touch, Cond.instanceMethod yX4_touch, Cond.selects RX4 yX4_touch yX4_touch, Cond.code yX4_touch cX4_touch 3 (some .boolean)]
def wsX4_way : List Cond := .code yX4_way cX4_way 7 (some .int) :: ((wsX4_way_r1 ++ wsX4_way_r2) ++ wsX40)
def wsX4_count_r1 : List Cond := [Cond.fieldLink RX4 47 "PairThreadsModel" "many" "I", Cond.fieldLink RX4 73 "PairThreadsModel" "leftMany" "I", Cond.fieldLink RX4 76 "PairThreadsModel" "rightMany" "I", Cond.methodLink RX4 82 yX4_number, Cond.instanceMethod yX4_number, Cond.selects RX4 yX4_number yX4_number, Cond.initialized RX4, Cond.code yX4_number cX4_number 5 none, Cond.fieldLink RX4 7 "PairThreadsModel" "lefts" "[I", Cond.fieldLink RX4 16 "PairThreadsModel" "leftOf" "[I", Cond.fieldLink RX4 13 "PairThreadsModel" "rights" "[I", Cond.fieldLink RX4 19 "PairThreadsModel" "rightOf" "[I", Cond.fieldLink RX4 22 "PairThreadsModel" "firstOf" "[I", Cond.fieldLink RX4 25 "PairThreadsModel" "nextOf" "[I", Cond.methodLink RX4 102 yX4_matching, Cond.instanceMethod yX4_matching, Cond.selects RX4 yX4_matching yX4_matching, Cond.code yX4_matching cX4_matching 3 (some .int), Cond.fieldLink RX4 28 "PairThreadsModel" "partner" "[I", Cond.methodLink RX4 85 yX4_grows, Cond.instanceMethod yX4_grows, Cond.selects RX4 yX4_grows yX4_grows, Cond.code yX4_grows cX4_grows 7 (some .boolean), Cond.fieldLink RX4 38 "PairThreadsModel" "comesFrom" "[I"]
def wsX4_count_r2 : List Cond := [Cond.fieldLink RX4 35 "PairThreadsModel" "queue" "[I", Cond.methodLink RX4 79 yX4_turn, Cond.instanceMethod yX4_turn, Cond.selects RX4 yX4_turn yX4_turn, Cond.code yX4_turn cX4_turn 8 none, Cond.methodLink RX4 106 yX4_parts, Cond.instanceMethod yX4_parts, Cond.selects RX4 yX4_parts yX4_parts, Cond.code yX4_parts cX4_parts 3 (some .int), Cond.fieldLink RX4 41 "PairThreadsModel" "far" "[I", Cond.methodLink RX4 92 yX4_clearFar, Cond.instanceMethod yX4_clearFar, Cond.selects RX4 yX4_clearFar yX4_clearFar, Cond.code yX4_clearFar cX4_clearFar 2 none, Cond.methodLink RX4 95 yX4_reach, Cond.instanceMethod yX4_reach, Cond.selects RX4 yX4_reach yX4_reach, Cond.code yX4_reach cX4_reach 5 (some .int), Cond.methodLink RX4 88 yX4_touch, Cond.instanceMethod yX4_touch, Cond.selects RX4 yX4_touch yX4_touch, Cond.code yX4_touch cX4_touch 3 (some .boolean)]
def wsX4_count : List Cond := .code yX4_count cX4_count 2 (some .int) :: ((wsX4_count_r1 ++ wsX4_count_r2) ++ wsX40)
def wsX4_clear : List Cond := .code yX4_clear cX4_clear 2 (some .int) :: ([.fieldLink RX4 47 "PairThreadsModel" "many" "I"] ++ wsX40)
def wsX4_check : List Cond := .code yX4_check cX4_check 1 (some .int) :: ([])
def wsL_law_r1 : List Cond := [Cond.classLink RL 7 RX3, Cond.instantiable RX3 3, Cond.initialized RX3, Cond.classLink RL 10 RX4, Cond.instantiable RX4 15, Cond.initialized RX4, Cond.methodLink RL 9 yX3_init, Cond.instanceMethod yX3_init, Cond.code yX3_init cX3_init 1 none, Cond.methodLink RX3 1 objectInit, Cond.instanceMethod objectInit, Cond.code objectInit ⟨#[0xb1]⟩ 1 none, Cond.classLink RX3 7 RX2, Cond.instantiable RX2 5, Cond.initialized RX2, Cond.fieldLink RX3 10 "PairThreads" "pairs" "LPairThreads$Threads;", Cond.classLink RX3 16 RX1, Cond.instantiable RX1 4, Cond.initialized RX1, Cond.fieldLink RX3 19 "PairThreads" "spread" "LPairThreads$Spread;", Cond.classLink RX3 23 RX0, Cond.instantiable RX0 6, Cond.initialized RX0, Cond.fieldLink RX3 26 "PairThreads" "matching" "LPairThreads$Matching;"]
def wsL_law_r2 : List Cond := [Cond.methodLink RX3 9 yX2_init, Cond.instanceMethod yX2_init, Cond.code yX2_init cX2_init 2 none, Cond.methodLink RX2 3 objectInit, Cond.arrayClass .int, Cond.fieldLink RX2 9 "PairThreads$Threads" "order" "[I", Cond.classLink RX2 15 "[[I", Cond.fieldLink RX2 17 "PairThreads$Threads" "number" "[[I", Cond.fieldLink RX2 20 "PairThreads$Threads" "before" "[[I", Cond.fieldLink RX2 23 "PairThreads$Threads" "after" "[[I", Cond.instanceMethod yX1_init, Cond.code yX1_init cX1_init 1 none, Cond.methodLink RX1 3 objectInit, Cond.fieldLink RX1 9 "PairThreads$Spread" "reached" "[I", Cond.fieldLink RX1 15 "PairThreads$Spread" "rowTo" "[I", Cond.classLink RX1 18 "[[I", Cond.fieldLink RX1 20 "PairThreads$Spread" "walked" "[[I", Cond.instanceMethod yX0_init, Cond.code yX0_init cX0_init 1 none, Cond.methodLink RX0 3 objectInit, Cond.classLink RX0 9 "[[I", Cond.fieldLink RX0 11 "PairThreads$Matching" "head" "[[I", Cond.fieldLink RX0 16 "PairThreads$Matching" "chosen" "[[I", Cond.fieldLink RX0 19 "PairThreads$Matching" "waiting" "[I"]
def wsL_law_r3 : List Cond := [Cond.fieldLink RX0 23 "PairThreads$Matching" "cause" "[I", Cond.fieldLink RX0 26 "PairThreads$Matching" "seen" "[I", Cond.methodLink RL 12 yX4_init, Cond.instanceMethod yX4_init, Cond.code yX4_init cX4_init 1 none, Cond.methodLink RX4 1 objectInit, Cond.fieldLink RX4 7 "PairThreadsModel" "lefts" "[I", Cond.fieldLink RX4 13 "PairThreadsModel" "rights" "[I", Cond.fieldLink RX4 16 "PairThreadsModel" "leftOf" "[I", Cond.fieldLink RX4 19 "PairThreadsModel" "rightOf" "[I", Cond.fieldLink RX4 22 "PairThreadsModel" "firstOf" "[I", Cond.fieldLink RX4 25 "PairThreadsModel" "nextOf" "[I", Cond.fieldLink RX4 28 "PairThreadsModel" "partner" "[I", Cond.arrayClass .boolean, Cond.fieldLink RX4 31 "PairThreadsModel" "matched" "[Z", Cond.fieldLink RX4 35 "PairThreadsModel" "queue" "[I", Cond.fieldLink RX4 38 "PairThreadsModel" "comesFrom" "[I", Cond.fieldLink RX4 41 "PairThreadsModel" "far" "[I", Cond.fieldLink RX4 44 "PairThreadsModel" "kept" "[I", Cond.fieldLink RX4 47 "PairThreadsModel" "many" "I", Cond.methodLink RL 13 yX3_link, Cond.instanceMethod yX3_link, Cond.selects RX3 yX3_link yX3_link, Cond.code yX3_link cX3_link 3 (some .int)]
def wsL_law_r4 : List Cond := [Cond.methodLink RX3 30 yX2_placeOf, Cond.instanceMethod yX2_placeOf, Cond.selects RX2 yX2_placeOf yX2_placeOf, Cond.code yX2_placeOf cX2_placeOf 5 (some .int), Cond.fieldLink RX2 26 "PairThreads$Threads" "size" "I", Cond.methodLink RX3 38 yX2_append, Cond.instanceMethod yX2_append, Cond.selects RX2 yX2_append yX2_append, Cond.code yX2_append cX2_append 4 none, Cond.methodLink RX2 34 yX2_tieOn, Cond.instanceMethod yX2_tieOn, Cond.selects RX2 yX2_tieOn yX2_tieOn, Cond.code yX2_tieOn cX2_tieOn 5 none, Cond.methodLink RX2 38 yX2_lastOf, Cond.instanceMethod yX2_lastOf, Cond.selects RX2 yX2_lastOf yX2_lastOf, Cond.code yX2_lastOf cX2_lastOf 4 (some .int), Cond.methodLink RL 17 yX4_link, Cond.instanceMethod yX4_link, Cond.selects RX4 yX4_link yX4_link, Cond.code yX4_link cX4_link 3 (some .int), Cond.methodLink RX4 51 yX4_find, Cond.instanceMethod yX4_find, Cond.selects RX4 yX4_find yX4_find]
def wsL_law_r5 : List Cond := [Cond.code yX4_find cX4_find 5 (some .int), Cond.methodLink RX4 55 yX4_add, Cond.instanceMethod yX4_add, Cond.selects RX4 yX4_add yX4_add, Cond.code yX4_add cX4_add 3 none, Cond.methodLink RL 18 yX3_unlink, Cond.instanceMethod yX3_unlink, Cond.selects RX3 yX3_unlink yX3_unlink, Cond.code yX3_unlink cX3_unlink 4 (some .int), Cond.methodLink RX3 42 yX2_takeOut, Cond.instanceMethod yX2_takeOut, Cond.selects RX2 yX2_takeOut yX2_takeOut, Cond.code yX2_takeOut cX2_takeOut 3 none, Cond.methodLink RX2 45 arraycopyName, Cond.native arraycopyName, Cond.static arraycopyName, Cond.initialized "java/lang/System", Cond.methodLink RX2 41 yX2_untie, Cond.instanceMethod yX2_untie, Cond.selects RX2 yX2_untie yX2_untie, Cond.code yX2_untie cX2_untie 5 none, Cond.methodLink RL 21 yX4_unlink, Cond.instanceMethod yX4_unlink, Cond.selects RX4 yX4_unlink yX4_unlink]
def wsL_law_r6 : List Cond := [Cond.code yX4_unlink cX4_unlink 4 (some .int), Cond.methodLink RX4 59 yX4_remove, Cond.instanceMethod yX4_remove, Cond.selects RX4 yX4_remove yX4_remove, Cond.code yX4_remove cX4_remove 3 none, Cond.methodLink RL 22 yX3_place, Cond.instanceMethod yX3_place, Cond.selects RX3 yX3_place yX3_place, Cond.code yX3_place cX3_place 3 (some .int), Cond.methodLink RL 25 yX4_place, Cond.instanceMethod yX4_place, Cond.selects RX4 yX4_place yX4_place, Cond.code yX4_place cX4_place 3 (some .int), Cond.methodLink RL 26 yX3_degree, Cond.instanceMethod yX3_degree, Cond.selects RX3 yX3_degree yX3_degree, Cond.code yX3_degree cX3_degree 3 (some .int), Cond.methodLink RX3 46 yX3_isSide, Cond.static yX3_isSide, Cond.code yX3_isSide cX3_isSide 1 (some .boolean), Cond.methodLink RX3 50 yX2_lengthOf, Cond.instanceMethod yX2_lengthOf, Cond.selects RX2 yX2_lengthOf yX2_lengthOf, Cond.code yX2_lengthOf cX2_lengthOf 6 (some .int)]
def wsL_law_r7 : List Cond := [Cond.methodLink RX2 30 yX2_firstOf, Cond.instanceMethod yX2_firstOf, Cond.selects RX2 yX2_firstOf yX2_firstOf, Cond.code yX2_firstOf cX2_firstOf 4 (some .int), Cond.methodLink RL 29 yX4_degree, Cond.instanceMethod yX4_degree, Cond.selects RX4 yX4_degree yX4_degree, Cond.code yX4_degree cX4_degree 5 (some .int), Cond.methodLink RX4 63 yX4_isSide, Cond.static yX4_isSide, Cond.code yX4_isSide cX4_isSide 1 (some .boolean), Cond.methodLink RX4 67 yX4_own, Cond.instanceMethod yX4_own, Cond.selects RX4 yX4_own yX4_own, Cond.code yX4_own cX4_own 3 (some .int), Cond.methodLink RL 30 yX3_other, Cond.instanceMethod yX3_other, Cond.selects RX3 yX3_other yX3_other, Cond.code yX3_other cX3_other 5 (some .int), Cond.methodLink RX3 53 yX2_inThread, Cond.instanceMethod yX2_inThread, Cond.selects RX2 yX2_inThread yX2_inThread, Cond.code yX2_inThread cX2_inThread 6 (some .int), Cond.methodLink RL 34 yX4_other]
def wsL_law_r8 : List Cond := [Cond.instanceMethod yX4_other, Cond.selects RX4 yX4_other yX4_other, Cond.code yX4_other cX4_other 6 (some .int), Cond.methodLink RL 35 yX3_drop, Cond.instanceMethod yX3_drop, Cond.selects RX3 yX3_drop yX3_drop, Cond.code yX3_drop cX3_drop 3 (some .int), Cond.methodLink RX3 61 yX2_takeOutAll, Cond.instanceMethod yX2_takeOutAll, Cond.selects RX2 yX2_takeOutAll yX2_takeOutAll, Cond.code yX2_takeOutAll cX2_takeOutAll 5 (some .int), Cond.methodLink RX2 51 yX2_takeOut, Cond.methodLink RL 38 yX4_drop, Cond.instanceMethod yX4_drop, Cond.selects RX4 yX4_drop yX4_drop, Cond.code yX4_drop cX4_drop 5 (some .int), Cond.methodLink RL 39 yX3_rename, Cond.instanceMethod yX3_rename, Cond.selects RX3 yX3_rename yX3_rename, Cond.code yX3_rename cX3_rename 4 (some .int), Cond.methodLink RX3 64 yX2_moveAll, Cond.instanceMethod yX2_moveAll, Cond.selects RX2 yX2_moveAll yX2_moveAll, Cond.code yX2_moveAll cX2_moveAll 11 (some .int)]
def wsL_law_r9 : List Cond := [Cond.methodLink RX2 55 yX2_placeOf, Cond.methodLink RX2 58 yX2_append, Cond.methodLink RL 42 yX4_rename, Cond.instanceMethod yX4_rename, Cond.selects RX4 yX4_rename yX4_rename, Cond.code yX4_rename cX4_rename 9 (some .int), Cond.methodLink RX4 70 yX4_drop, Cond.methodLink RL 43 yX3_at, Cond.instanceMethod yX3_at, Cond.selects RX3 yX3_at yX3_at, Cond.code yX3_at cX3_at 3 (some .int), Cond.methodLink RL 46 yX4_at, Cond.instanceMethod yX4_at, Cond.selects RX4 yX4_at yX4_at, Cond.code yX4_at cX4_at 3 (some .int), Cond.methodLink RL 47 yX3_count, Cond.instanceMethod yX3_count, Cond.selects RX3 yX3_count yX3_count, Cond.code yX3_count cX3_count 2 (some .int), Cond.methodLink RX3 71 yX2_threadsOn, Cond.instanceMethod yX2_threadsOn, Cond.selects RX2 yX2_threadsOn yX2_threadsOn, Cond.code yX2_threadsOn cX2_threadsOn 4 (some .int), Cond.methodLink RX3 75 yX0_largest]
def wsL_law_r10 : List Cond := [Cond.instanceMethod yX0_largest, Cond.selects RX0 yX0_largest yX0_largest, Cond.code yX0_largest cX0_largest 4 (some .int), Cond.methodLink RX0 29 yX0_findHeads, Cond.instanceMethod yX0_findHeads, Cond.selects RX0 yX0_findHeads yX0_findHeads, Cond.code yX0_findHeads cX0_findHeads 6 none, Cond.methodLink RX0 33 yX0_takeFree, Cond.instanceMethod yX0_takeFree, Cond.selects RX0 yX0_takeFree yX0_takeFree, Cond.code yX0_takeFree cX0_takeFree 5 (some .int), Cond.methodLink RX0 53 yJ7_fill_53178, Cond.static yJ7_fill_53178, Cond.initialized RJ7, Cond.code yJ7_fill_53178 cJ7_fill_53178 4 none, Cond.methodLink RX0 59 yX0_chosenOf, Cond.instanceMethod yX0_chosenOf, Cond.selects RX0 yX0_chosenOf yX0_chosenOf, Cond.code yX0_chosenOf cX0_chosenOf 3 (some .int), Cond.methodLink RX0 63 yX0_choose, Cond.instanceMethod yX0_choose, Cond.selects RX0 yX0_choose yX0_choose, Cond.code yX0_choose cX0_choose 2 none, Cond.methodLink RX0 43 yX0_grow]
def wsL_law_r11 : List Cond := [Cond.instanceMethod yX0_grow, Cond.selects RX0 yX0_grow yX0_grow, Cond.code yX0_grow cX0_grow 5 (some .boolean), Cond.fieldLink RX0 71 "PairThreads$Matching" "found" "I", Cond.methodLink RX0 67 yX0_awaitFree, Cond.instanceMethod yX0_awaitFree, Cond.selects RX0 yX0_awaitFree yX0_awaitFree, Cond.code yX0_awaitFree cX0_awaitFree 4 none, Cond.methodLink RX0 82 yX0_await, Cond.instanceMethod yX0_await, Cond.selects RX0 yX0_await yX0_await, Cond.code yX0_await cX0_await 3 none, Cond.methodLink RX0 74 yX0_turn, Cond.instanceMethod yX0_turn, Cond.selects RX0 yX0_turn yX0_turn, Cond.code yX0_turn cX0_turn 5 none, Cond.methodLink RX0 78 yX0_awaitInstead, Cond.instanceMethod yX0_awaitInstead, Cond.selects RX0 yX0_awaitInstead yX0_awaitInstead, Cond.code yX0_awaitInstead cX0_awaitInstead 6 none, Cond.methodLink RX3 79 yX1_allParts, Cond.instanceMethod yX1_allParts, Cond.selects RX1 yX1_allParts yX1_allParts, Cond.code yX1_allParts cX1_allParts 5 (some .int)]
def wsL_law_r12 : List Cond := [Cond.methodLink RX1 36 yX1_forget, Cond.instanceMethod yX1_forget, Cond.selects RX1 yX1_forget yX1_forget, Cond.code yX1_forget cX1_forget 1 none, Cond.fieldLink RX1 27 "PairThreads$Spread" "found" "I", Cond.methodLink RX1 52 yJ7_fill_53178, Cond.methodLink RX1 45 yX1_spreadFrom, Cond.instanceMethod yX1_spreadFrom, Cond.selects RX1 yX1_spreadFrom yX1_spreadFrom, Cond.code yX1_spreadFrom cX1_spreadFrom 7 none, Cond.methodLink RX1 58 yX1_walk, Cond.instanceMethod yX1_walk, Cond.selects RX1 yX1_walk yX1_walk, Cond.code yX1_walk cX1_walk 7 none, Cond.methodLink RX1 62 yX2_headOf, Cond.instanceMethod yX2_headOf, Cond.selects RX2 yX2_headOf yX2_headOf, Cond.code yX2_headOf cX2_headOf 5 (some .int), Cond.methodLink RX1 65 yX1_reach, Cond.instanceMethod yX1_reach, Cond.selects RX1 yX1_reach yX1_reach, Cond.code yX1_reach cX1_reach 3 none, Cond.methodLink RL 51 yX4_count, Cond.instanceMethod yX4_count]
def wsL_law_r13 : List Cond := [Cond.selects RX4 yX4_count yX4_count, Cond.code yX4_count cX4_count 2 (some .int), Cond.fieldLink RX4 73 "PairThreadsModel" "leftMany" "I", Cond.fieldLink RX4 76 "PairThreadsModel" "rightMany" "I", Cond.methodLink RX4 82 yX4_number, Cond.instanceMethod yX4_number, Cond.selects RX4 yX4_number yX4_number, Cond.code yX4_number cX4_number 5 none, Cond.methodLink RX4 102 yX4_matching, Cond.instanceMethod yX4_matching, Cond.selects RX4 yX4_matching yX4_matching, Cond.code yX4_matching cX4_matching 3 (some .int), Cond.methodLink RX4 85 yX4_grows, Cond.instanceMethod yX4_grows, Cond.selects RX4 yX4_grows yX4_grows, Cond.code yX4_grows cX4_grows 7 (some .boolean), Cond.methodLink RX4 79 yX4_turn, Cond.instanceMethod yX4_turn, Cond.selects RX4 yX4_turn yX4_turn, Cond.code yX4_turn cX4_turn 8 none, Cond.methodLink RX4 106 yX4_parts, Cond.instanceMethod yX4_parts, Cond.selects RX4 yX4_parts yX4_parts, Cond.code yX4_parts cX4_parts 3 (some .int)]
def wsL_law_r14 : List Cond := [Cond.methodLink RX4 92 yX4_clearFar, Cond.instanceMethod yX4_clearFar, Cond.selects RX4 yX4_clearFar yX4_clearFar, Cond.code yX4_clearFar cX4_clearFar 2 none, Cond.methodLink RX4 95 yX4_reach, Cond.instanceMethod yX4_reach, Cond.selects RX4 yX4_reach yX4_reach, Cond.code yX4_reach cX4_reach 5 (some .int), Cond.methodLink RX4 88 yX4_touch, Cond.instanceMethod yX4_touch, Cond.selects RX4 yX4_touch yX4_touch, Cond.code yX4_touch cX4_touch 3 (some .boolean), Cond.methodLink RL 52 yX3_part, Cond.instanceMethod yX3_part, Cond.selects RX3 yX3_part yX3_part, Cond.code yX3_part cX3_part 3 (some .int), Cond.methodLink RX3 82 yX1_partOf, Cond.instanceMethod yX1_partOf, Cond.selects RX1 yX1_partOf yX1_partOf, Cond.code yX1_partOf cX1_partOf 4 (some .int), Cond.methodLink RX1 23 yX1_start, Cond.instanceMethod yX1_start, Cond.selects RX1 yX1_start yX1_start, Cond.code yX1_start cX1_start 5 none]
def wsL_law_r15 : List Cond := [Cond.methodLink RX1 48 yX2_firstOf, Cond.methodLink RL 55 yX4_part, Cond.instanceMethod yX4_part, Cond.selects RX4 yX4_part yX4_part, Cond.code yX4_part cX4_part 3 (some .int), Cond.methodLink RX4 99 yX4_begin, Cond.instanceMethod yX4_begin, Cond.selects RX4 yX4_begin yX4_begin, Cond.code yX4_begin cX4_begin 5 (some .int), Cond.methodLink RL 56 yX3_way, Cond.instanceMethod yX3_way, Cond.selects RX3 yX3_way yX3_way, Cond.code yX3_way cX3_way 5 (some .int), Cond.methodLink RX3 86 yX1_leastRow, Cond.instanceMethod yX1_leastRow, Cond.selects RX1 yX1_leastRow yX1_leastRow, Cond.code yX1_leastRow cX1_leastRow 7 (some .int), Cond.methodLink RL 60 yX4_way, Cond.instanceMethod yX4_way, Cond.selects RX4 yX4_way yX4_way, Cond.code yX4_way cX4_way 7 (some .int), Cond.methodLink RL 61 yX3_clear, Cond.instanceMethod yX3_clear, Cond.selects RX3 yX3_clear yX3_clear]
def wsL_law_r16 : List Cond := [Cond.code yX3_clear cX3_clear 2 (some .int), Cond.methodLink RL 65 yX4_clear, Cond.instanceMethod yX4_clear, Cond.selects RX4 yX4_clear yX4_clear, Cond.code yX4_clear cX4_clear 2 (some .int), Cond.methodLink RL 66 yX3_check, Cond.instanceMethod yX3_check, Cond.selects RX3 yX3_check yX3_check, Cond.code yX3_check cX3_check 1 (some .int), Cond.methodLink RX3 90 yX2_areSound, Cond.instanceMethod yX2_areSound, Cond.selects RX2 yX2_areSound yX2_areSound, Cond.code yX2_areSound cX2_areSound 4 (some .boolean), Cond.methodLink RX2 61 yX2_isSoundFrom, Cond.instanceMethod yX2_isSoundFrom, Cond.selects RX2 yX2_isSoundFrom yX2_isSoundFrom, Cond.code yX2_isSoundFrom cX2_isSoundFrom 8 (some .boolean), Cond.methodLink RL 69 yX4_check, Cond.instanceMethod yX4_check, Cond.selects RX4 yX4_check yX4_check, Cond.code yX4_check cX4_check 1 (some .int)]
def wsL_law : List Cond := (wsL_law_r1 ++ (wsL_law_r2 ++ (wsL_law_r3 ++ (wsL_law_r4 ++ (wsL_law_r5 ++ (wsL_law_r6 ++ (wsL_law_r7 ++ (wsL_law_r8 ++ (wsL_law_r9 ++ (wsL_law_r10 ++ (wsL_law_r11 ++ (wsL_law_r12 ++ (wsL_law_r13 ++ (wsL_law_r14 ++ (wsL_law_r15 ++ wsL_law_r16))))))))))))))) ++ wsX30 ++ wsX40 ++ wsX20 ++ wsX10 ++ wsX00 ++ ([] : List Cond)
set_option maxRecDepth 20000 in
theorem wsL_law_in : ∀ w ∈ wsL_law, w ∈ lw_tbl := fun w h => (goodIn_p wsL_law [43, 46, 51, 87, 107, 341, 142, 146, 150, 154, 158, 393, 397, 401, 162, 166, 170, 405, 409, 177, 413, 181, 184, 188, 192, 417, 420, 424, 196, 200, 428, 204, 208, 432, 213, 217, 436, 223, 441, 227, 231, 235, 239, 243, 246, 250, 254, 258, 262, 266, 270, 274, 278, 282, 287, 291, 295, 299, 469, 473, 477, 481, 485, 489, 453, 457, 461, 303, 307, 311, 445, 449, 316, 320, 465, 324, 493, 328, 332, 336, 497] (by decide +kernel) (by decide +kernel) w h).1
theorem inlX0 : ∀ w ∈ wsX00, w ∈ wsL_law := fun _ h => List.mem_append_left _ (List.mem_append_right _ h)
theorem inX0 : ∀ w ∈ wsX00, w ∈ lw_tbl := fun w h => wsL_law_in w (inlX0 w h)
theorem inlX1 : ∀ w ∈ wsX10, w ∈ wsL_law := fun _ h => List.mem_append_left _ (List.mem_append_left _ (List.mem_append_right _ h))
theorem inX1 : ∀ w ∈ wsX10, w ∈ lw_tbl := fun w h => wsL_law_in w (inlX1 w h)
theorem inlX2 : ∀ w ∈ wsX20, w ∈ wsL_law := fun _ h => List.mem_append_left _ (List.mem_append_left _ (List.mem_append_left _ (List.mem_append_right _ h)))
theorem inX2 : ∀ w ∈ wsX20, w ∈ lw_tbl := fun w h => wsL_law_in w (inlX2 w h)
theorem inlX3 : ∀ w ∈ wsX30, w ∈ wsL_law := fun _ h => List.mem_append_left _ (List.mem_append_left _ (List.mem_append_left _ (List.mem_append_left _ (List.mem_append_left _ (List.mem_append_right _ h)))))
theorem inX3 : ∀ w ∈ wsX30, w ∈ lw_tbl := fun w h => wsL_law_in w (inlX3 w h)
theorem inlX4 : ∀ w ∈ wsX40, w ∈ wsL_law := fun _ h => List.mem_append_left _ (List.mem_append_left _ (List.mem_append_left _ (List.mem_append_left _ (List.mem_append_right _ h))))
theorem inX4 : ∀ w ∈ wsX40, w ∈ lw_tbl := fun w h => wsL_law_in w (inlX4 w h)
theorem inJ10 : ∀ w ∈ wsJ100, w ∈ lw_tbl := by decide +kernel
theorem inJ7 : ∀ w ∈ wsJ70, w ∈ lw_tbl := by decide +kernel
theorem dX0_init_0 : decode cX0_init 0 = .ok (.aload_n 0, 1) := by decide +kernel
theorem dX0_init_1 : decode cX0_init 1 = .ok (.invokespecial 3, 3) := by decide +kernel
theorem dX0_init_4 : decode cX0_init 4 = .ok (.aload_n 0, 1) := by decide +kernel
theorem dX0_init_5 : decode cX0_init 5 = .ok (.iconst 2, 1) := by decide +kernel
theorem dX0_init_6 : decode cX0_init 6 = .ok (.sipush 300, 3) := by decide +kernel
theorem dX0_init_9 : decode cX0_init 9 = .ok (.multianewarray 9 2, 4) := by decide +kernel
theorem dX0_init_13 : decode cX0_init 13 = .ok (.putfield 11, 3) := by decide +kernel
theorem dX0_init_16 : decode cX0_init 16 = .ok (.aload_n 0, 1) := by decide +kernel
theorem dX0_init_17 : decode cX0_init 17 = .ok (.iconst 2, 1) := by decide +kernel
theorem dX0_init_18 : decode cX0_init 18 = .ok (.sipush 300, 3) := by decide +kernel
theorem dX0_init_21 : decode cX0_init 21 = .ok (.multianewarray 9 2, 4) := by decide +kernel
theorem dX0_init_25 : decode cX0_init 25 = .ok (.putfield 16, 3) := by decide +kernel
theorem dX0_init_28 : decode cX0_init 28 = .ok (.aload_n 0, 1) := by decide +kernel
theorem dX0_init_29 : decode cX0_init 29 = .ok (.sipush 300, 3) := by decide +kernel
theorem dX0_init_32 : decode cX0_init 32 = .ok (.newarray .int, 2) := by decide +kernel
theorem dX0_init_34 : decode cX0_init 34 = .ok (.putfield 19, 3) := by decide +kernel
theorem dX0_init_37 : decode cX0_init 37 = .ok (.aload_n 0, 1) := by decide +kernel
theorem dX0_init_38 : decode cX0_init 38 = .ok (.sipush 300, 3) := by decide +kernel
theorem dX0_init_41 : decode cX0_init 41 = .ok (.newarray .int, 2) := by decide +kernel
theorem dX0_init_43 : decode cX0_init 43 = .ok (.putfield 23, 3) := by decide +kernel
theorem dX0_init_46 : decode cX0_init 46 = .ok (.aload_n 0, 1) := by decide +kernel
theorem dX0_init_47 : decode cX0_init 47 = .ok (.sipush 300, 3) := by decide +kernel
theorem dX0_init_50 : decode cX0_init 50 = .ok (.newarray .int, 2) := by decide +kernel
theorem dX0_init_52 : decode cX0_init 52 = .ok (.putfield 26, 3) := by decide +kernel
theorem dX0_init_55 : decode cX0_init 55 = .ok (.return_, 1) := by decide +kernel
set_option maxRecDepth 20000 in
theorem ggX0_largest_X0_findHeads : GoodIn wsX0_largest wsX0_findHeads := goodIn_r _ [5, 6, 48, 49, 50, 51, 52, 53, 54, 55, 56, 57, 58] (by decide +kernel) (by decide +kernel)
set_option maxRecDepth 20000 in
theorem gX0_largest_X0_findHeads : GoodIn wsX0_largest (wsV RX0 29 RX0 yX0_findHeads wsX0_findHeads) := goodIn_app (goodIn_of _ (by decide +kernel)) ggX0_largest_X0_findHeads
set_option maxRecDepth 20000 in
theorem ggX0_largest_X0_takeFree : GoodIn wsX0_largest wsX0_takeFree := goodIn_r _ [10, 11, 12, 13, 14, 15, 16, 17, 18, 4, 19, 6, 20, 21, 22, 23, 53, 54, 55, 56, 57, 58, 48, 49, 50, 51, 52] (by decide +kernel) (by decide +kernel)
set_option maxRecDepth 20000 in
theorem gX0_largest_X0_takeFree : GoodIn wsX0_largest (wsV RX0 33 RX0 yX0_takeFree wsX0_takeFree) := goodIn_app (goodIn_of _ (by decide +kernel)) ggX0_largest_X0_takeFree
set_option maxRecDepth 20000 in
theorem ggX0_largest_X0_grow : GoodIn wsX0_largest wsX0_grow := goodIn_r _ [27, 28, 29, 30, 6, 11, 12, 13, 14, 15, 31, 32, 33, 4, 34, 16, 17, 18, 19, 35, 36, 37, 38, 39, 40, 41, 42, 43, 20, 21, 22, 23, 44, 45, 46, 47, 53, 54, 55, 56, 57, 58, 48, 49, 50, 51, 52] (by decide +kernel) (by decide +kernel)
set_option maxRecDepth 20000 in
theorem gX0_largest_X0_grow : GoodIn wsX0_largest (wsV RX0 43 RX0 yX0_grow wsX0_grow) := goodIn_app (goodIn_of _ (by decide +kernel)) ggX0_largest_X0_grow
theorem dX0_largest_0 : decode cX0_largest 0 = .ok (.aload_n 0, 1) := by decide +kernel
theorem dX0_largest_1 : decode cX0_largest 1 = .ok (.aload_n 1, 1) := by decide +kernel
theorem dX0_largest_2 : decode cX0_largest 2 = .ok (.iconst 0, 1) := by decide +kernel
theorem dX0_largest_3 : decode cX0_largest 3 = .ok (.invokevirtual 29, 3) := by decide +kernel
theorem dX0_largest_6 : decode cX0_largest 6 = .ok (.aload_n 0, 1) := by decide +kernel
theorem dX0_largest_7 : decode cX0_largest 7 = .ok (.aload_n 1, 1) := by decide +kernel
theorem dX0_largest_8 : decode cX0_largest 8 = .ok (.iconst 1, 1) := by decide +kernel
theorem dX0_largest_9 : decode cX0_largest 9 = .ok (.invokevirtual 29, 3) := by decide +kernel
theorem dX0_largest_12 : decode cX0_largest 12 = .ok (.aload_n 0, 1) := by decide +kernel
theorem dX0_largest_13 : decode cX0_largest 13 = .ok (.aload_n 1, 1) := by decide +kernel
theorem dX0_largest_14 : decode cX0_largest 14 = .ok (.invokevirtual 33, 3) := by decide +kernel
theorem dX0_largest_17 : decode cX0_largest 17 = .ok (.istore_n 2, 1) := by decide +kernel
theorem dX0_largest_18 : decode cX0_largest 18 = .ok (.iload_n 2, 1) := by decide +kernel
theorem dX0_largest_19 : decode cX0_largest 19 = .ok (.istore_n 3, 1) := by decide +kernel
theorem dX0_largest_20 : decode cX0_largest 20 = .ok (.iload_n 3, 1) := by decide +kernel
theorem dX0_largest_21 : decode cX0_largest 21 = .ok (.aload_n 1, 1) := by decide +kernel
theorem dX0_largest_22 : decode cX0_largest 22 = .ok (.getfield 37, 3) := by decide +kernel
theorem dX0_largest_25 : decode cX0_largest 25 = .ok (.if_icmp .ge 20, 3) := by decide +kernel
theorem dX0_largest_28 : decode cX0_largest 28 = .ok (.aload_n 0, 1) := by decide +kernel
theorem dX0_largest_29 : decode cX0_largest 29 = .ok (.aload_n 1, 1) := by decide +kernel
theorem dX0_largest_30 : decode cX0_largest 30 = .ok (.invokevirtual 43, 3) := by decide +kernel
theorem dX0_largest_33 : decode cX0_largest 33 = .ok (.ifCond .eq 12, 3) := by decide +kernel
theorem dX0_largest_36 : decode cX0_largest 36 = .ok (.iinc 2 1, 3) := by decide +kernel
theorem dX0_largest_39 : decode cX0_largest 39 = .ok (.iinc 3 1, 3) := by decide +kernel
theorem dX0_largest_42 : decode cX0_largest 42 = .ok (.goto (-22), 3) := by decide +kernel
theorem dX0_largest_45 : decode cX0_largest 45 = .ok (.iload_n 2, 1) := by decide +kernel
theorem dX0_largest_46 : decode cX0_largest 46 = .ok (.ireturn, 1) := by decide +kernel
theorem dX0_findHeads_0 : decode cX0_findHeads 0 = .ok (.iconst 0, 1) := by decide +kernel
theorem dX0_findHeads_1 : decode cX0_findHeads 1 = .ok (.istore_n 3, 1) := by decide +kernel
theorem dX0_findHeads_2 : decode cX0_findHeads 2 = .ok (.iload_n 3, 1) := by decide +kernel
theorem dX0_findHeads_3 : decode cX0_findHeads 3 = .ok (.aload_n 1, 1) := by decide +kernel
theorem dX0_findHeads_4 : decode cX0_findHeads 4 = .ok (.getfield 37, 3) := by decide +kernel
theorem dX0_findHeads_7 : decode cX0_findHeads 7 = .ok (.if_icmp .ge 57, 3) := by decide +kernel
theorem dX0_findHeads_10 : decode cX0_findHeads 10 = .ok (.aload_n 1, 1) := by decide +kernel
theorem dX0_findHeads_11 : decode cX0_findHeads 11 = .ok (.getfield 47, 3) := by decide +kernel
theorem dX0_findHeads_14 : decode cX0_findHeads 14 = .ok (.iload_n 3, 1) := by decide +kernel
theorem dX0_findHeads_15 : decode cX0_findHeads 15 = .ok (.iaload, 1) := by decide +kernel
theorem dX0_findHeads_16 : decode cX0_findHeads 16 = .ok (.istore 4, 2) := by decide +kernel
theorem dX0_findHeads_18 : decode cX0_findHeads 18 = .ok (.aload_n 1, 1) := by decide +kernel
theorem dX0_findHeads_19 : decode cX0_findHeads 19 = .ok (.getfield 50, 3) := by decide +kernel
theorem dX0_findHeads_22 : decode cX0_findHeads 22 = .ok (.iload_n 2, 1) := by decide +kernel
theorem dX0_findHeads_23 : decode cX0_findHeads 23 = .ok (.aaload, 1) := by decide +kernel
theorem dX0_findHeads_24 : decode cX0_findHeads 24 = .ok (.iload 4, 2) := by decide +kernel
theorem dX0_findHeads_26 : decode cX0_findHeads 26 = .ok (.iaload, 1) := by decide +kernel
theorem dX0_findHeads_27 : decode cX0_findHeads 27 = .ok (.istore 5, 2) := by decide +kernel
theorem dX0_findHeads_29 : decode cX0_findHeads 29 = .ok (.aload_n 0, 1) := by decide +kernel
theorem dX0_findHeads_30 : decode cX0_findHeads 30 = .ok (.getfield 11, 3) := by decide +kernel
theorem dX0_findHeads_33 : decode cX0_findHeads 33 = .ok (.iload_n 2, 1) := by decide +kernel
theorem dX0_findHeads_34 : decode cX0_findHeads 34 = .ok (.aaload, 1) := by decide +kernel
theorem dX0_findHeads_35 : decode cX0_findHeads 35 = .ok (.iload 4, 2) := by decide +kernel
theorem dX0_findHeads_37 : decode cX0_findHeads 37 = .ok (.iload 5, 2) := by decide +kernel
theorem dX0_findHeads_39 : decode cX0_findHeads 39 = .ok (.iconst (-1), 1) := by decide +kernel
theorem dX0_findHeads_40 : decode cX0_findHeads 40 = .ok (.if_icmp .ne 8, 3) := by decide +kernel
theorem dX0_findHeads_43 : decode cX0_findHeads 43 = .ok (.iload 4, 2) := by decide +kernel
theorem dX0_findHeads_45 : decode cX0_findHeads 45 = .ok (.goto 12, 3) := by decide +kernel
theorem dX0_findHeads_48 : decode cX0_findHeads 48 = .ok (.aload_n 0, 1) := by decide +kernel
theorem dX0_findHeads_49 : decode cX0_findHeads 49 = .ok (.getfield 11, 3) := by decide +kernel
theorem dX0_findHeads_52 : decode cX0_findHeads 52 = .ok (.iload_n 2, 1) := by decide +kernel
theorem dX0_findHeads_53 : decode cX0_findHeads 53 = .ok (.aaload, 1) := by decide +kernel
theorem dX0_findHeads_54 : decode cX0_findHeads 54 = .ok (.iload 5, 2) := by decide +kernel
theorem dX0_findHeads_56 : decode cX0_findHeads 56 = .ok (.iaload, 1) := by decide +kernel
theorem dX0_findHeads_57 : decode cX0_findHeads 57 = .ok (.iastore, 1) := by decide +kernel
theorem dX0_findHeads_58 : decode cX0_findHeads 58 = .ok (.iinc 3 1, 3) := by decide +kernel
theorem dX0_findHeads_61 : decode cX0_findHeads 61 = .ok (.goto (-59), 3) := by decide +kernel
theorem dX0_findHeads_64 : decode cX0_findHeads 64 = .ok (.return_, 1) := by decide +kernel
set_option maxRecDepth 20000 in
theorem ggX0_takeFree_J7_fill_53178 : GoodIn wsX0_takeFree wsJ7_fill_53178 := goodIn_r _ [5] (by decide +kernel) (by decide +kernel)
set_option maxRecDepth 20000 in
theorem gX0_takeFree_J7_fill_53178 : GoodIn wsX0_takeFree (va_wsS RX0 53 yJ7_fill_53178 wsJ7_fill_53178) := goodIn_app (goodIn_of _ (by decide +kernel)) ggX0_takeFree_J7_fill_53178
set_option maxRecDepth 20000 in
theorem ggX0_takeFree_X0_chosenOf : GoodIn wsX0_takeFree wsX0_chosenOf := goodIn_r _ [10, 1, 11, 16, 17, 18, 19, 20, 21] (by decide +kernel) (by decide +kernel)
set_option maxRecDepth 20000 in
theorem gX0_takeFree_X0_chosenOf : GoodIn wsX0_takeFree (wsV RX0 59 RX0 yX0_chosenOf wsX0_chosenOf) := goodIn_app (goodIn_of _ (by decide +kernel)) ggX0_takeFree_X0_chosenOf
set_option maxRecDepth 20000 in
theorem ggX0_takeFree_X0_choose : GoodIn wsX0_takeFree wsX0_choose := goodIn_r _ [15, 1, 11, 16, 17, 18, 19, 20, 21] (by decide +kernel) (by decide +kernel)
set_option maxRecDepth 20000 in
theorem gX0_takeFree_X0_choose : GoodIn wsX0_takeFree (wsV RX0 63 RX0 yX0_choose wsX0_choose) := goodIn_app (goodIn_of _ (by decide +kernel)) ggX0_takeFree_X0_choose
theorem dX0_takeFree_0 : decode cX0_takeFree 0 = .ok (.iconst 0, 1) := by decide +kernel
theorem dX0_takeFree_1 : decode cX0_takeFree 1 = .ok (.istore_n 2, 1) := by decide +kernel
theorem dX0_takeFree_2 : decode cX0_takeFree 2 = .ok (.aload_n 0, 1) := by decide +kernel
theorem dX0_takeFree_3 : decode cX0_takeFree 3 = .ok (.getfield 16, 3) := by decide +kernel
theorem dX0_takeFree_6 : decode cX0_takeFree 6 = .ok (.iconst 0, 1) := by decide +kernel
theorem dX0_takeFree_7 : decode cX0_takeFree 7 = .ok (.aaload, 1) := by decide +kernel
theorem dX0_takeFree_8 : decode cX0_takeFree 8 = .ok (.iconst (-1), 1) := by decide +kernel
theorem dX0_takeFree_9 : decode cX0_takeFree 9 = .ok (.invokestatic 53, 3) := by decide +kernel
theorem dX0_takeFree_12 : decode cX0_takeFree 12 = .ok (.aload_n 0, 1) := by decide +kernel
theorem dX0_takeFree_13 : decode cX0_takeFree 13 = .ok (.getfield 16, 3) := by decide +kernel
theorem dX0_takeFree_16 : decode cX0_takeFree 16 = .ok (.iconst 1, 1) := by decide +kernel
theorem dX0_takeFree_17 : decode cX0_takeFree 17 = .ok (.aaload, 1) := by decide +kernel
theorem dX0_takeFree_18 : decode cX0_takeFree 18 = .ok (.iconst (-1), 1) := by decide +kernel
theorem dX0_takeFree_19 : decode cX0_takeFree 19 = .ok (.invokestatic 53, 3) := by decide +kernel
theorem dX0_takeFree_22 : decode cX0_takeFree 22 = .ok (.iconst 0, 1) := by decide +kernel
theorem dX0_takeFree_23 : decode cX0_takeFree 23 = .ok (.istore_n 3, 1) := by decide +kernel
theorem dX0_takeFree_24 : decode cX0_takeFree 24 = .ok (.iload_n 3, 1) := by decide +kernel
theorem dX0_takeFree_25 : decode cX0_takeFree 25 = .ok (.aload_n 1, 1) := by decide +kernel
theorem dX0_takeFree_26 : decode cX0_takeFree 26 = .ok (.getfield 37, 3) := by decide +kernel
theorem dX0_takeFree_29 : decode cX0_takeFree 29 = .ok (.if_icmp .ge 48, 3) := by decide +kernel
theorem dX0_takeFree_32 : decode cX0_takeFree 32 = .ok (.aload_n 1, 1) := by decide +kernel
theorem dX0_takeFree_33 : decode cX0_takeFree 33 = .ok (.getfield 47, 3) := by decide +kernel
theorem dX0_takeFree_36 : decode cX0_takeFree 36 = .ok (.iload_n 3, 1) := by decide +kernel
theorem dX0_takeFree_37 : decode cX0_takeFree 37 = .ok (.iaload, 1) := by decide +kernel
theorem dX0_takeFree_38 : decode cX0_takeFree 38 = .ok (.istore 4, 2) := by decide +kernel
theorem dX0_takeFree_40 : decode cX0_takeFree 40 = .ok (.aload_n 0, 1) := by decide +kernel
theorem dX0_takeFree_41 : decode cX0_takeFree 41 = .ok (.iconst 0, 1) := by decide +kernel
theorem dX0_takeFree_42 : decode cX0_takeFree 42 = .ok (.iload 4, 2) := by decide +kernel
theorem dX0_takeFree_44 : decode cX0_takeFree 44 = .ok (.invokevirtual 59, 3) := by decide +kernel
theorem dX0_takeFree_47 : decode cX0_takeFree 47 = .ok (.iconst (-1), 1) := by decide +kernel
theorem dX0_takeFree_48 : decode cX0_takeFree 48 = .ok (.if_icmp .ne 23, 3) := by decide +kernel
theorem dX0_takeFree_51 : decode cX0_takeFree 51 = .ok (.aload_n 0, 1) := by decide +kernel
theorem dX0_takeFree_52 : decode cX0_takeFree 52 = .ok (.iconst 1, 1) := by decide +kernel
theorem dX0_takeFree_53 : decode cX0_takeFree 53 = .ok (.iload 4, 2) := by decide +kernel
theorem dX0_takeFree_55 : decode cX0_takeFree 55 = .ok (.invokevirtual 59, 3) := by decide +kernel
theorem dX0_takeFree_58 : decode cX0_takeFree 58 = .ok (.iconst (-1), 1) := by decide +kernel
theorem dX0_takeFree_59 : decode cX0_takeFree 59 = .ok (.if_icmp .ne 12, 3) := by decide +kernel
theorem dX0_takeFree_62 : decode cX0_takeFree 62 = .ok (.aload_n 0, 1) := by decide +kernel
theorem dX0_takeFree_63 : decode cX0_takeFree 63 = .ok (.iload 4, 2) := by decide +kernel
theorem dX0_takeFree_65 : decode cX0_takeFree 65 = .ok (.invokevirtual 63, 3) := by decide +kernel
theorem dX0_takeFree_68 : decode cX0_takeFree 68 = .ok (.iinc 2 1, 3) := by decide +kernel
theorem dX0_takeFree_71 : decode cX0_takeFree 71 = .ok (.iinc 3 1, 3) := by decide +kernel
theorem dX0_takeFree_74 : decode cX0_takeFree 74 = .ok (.goto (-50), 3) := by decide +kernel
theorem dX0_takeFree_77 : decode cX0_takeFree 77 = .ok (.iload_n 2, 1) := by decide +kernel
theorem dX0_takeFree_78 : decode cX0_takeFree 78 = .ok (.ireturn, 1) := by decide +kernel
theorem dX0_chosenOf_0 : decode cX0_chosenOf 0 = .ok (.aload_n 0, 1) := by decide +kernel
theorem dX0_chosenOf_1 : decode cX0_chosenOf 1 = .ok (.getfield 16, 3) := by decide +kernel
theorem dX0_chosenOf_4 : decode cX0_chosenOf 4 = .ok (.iload_n 1, 1) := by decide +kernel
theorem dX0_chosenOf_5 : decode cX0_chosenOf 5 = .ok (.aaload, 1) := by decide +kernel
theorem dX0_chosenOf_6 : decode cX0_chosenOf 6 = .ok (.aload_n 0, 1) := by decide +kernel
theorem dX0_chosenOf_7 : decode cX0_chosenOf 7 = .ok (.getfield 11, 3) := by decide +kernel
theorem dX0_chosenOf_10 : decode cX0_chosenOf 10 = .ok (.iload_n 1, 1) := by decide +kernel
theorem dX0_chosenOf_11 : decode cX0_chosenOf 11 = .ok (.aaload, 1) := by decide +kernel
theorem dX0_chosenOf_12 : decode cX0_chosenOf 12 = .ok (.iload_n 2, 1) := by decide +kernel
theorem dX0_chosenOf_13 : decode cX0_chosenOf 13 = .ok (.iaload, 1) := by decide +kernel
theorem dX0_chosenOf_14 : decode cX0_chosenOf 14 = .ok (.iaload, 1) := by decide +kernel
theorem dX0_chosenOf_15 : decode cX0_chosenOf 15 = .ok (.ireturn, 1) := by decide +kernel
theorem dX0_choose_0 : decode cX0_choose 0 = .ok (.aload_n 0, 1) := by decide +kernel
theorem dX0_choose_1 : decode cX0_choose 1 = .ok (.getfield 16, 3) := by decide +kernel
theorem dX0_choose_4 : decode cX0_choose 4 = .ok (.iconst 0, 1) := by decide +kernel
theorem dX0_choose_5 : decode cX0_choose 5 = .ok (.aaload, 1) := by decide +kernel
theorem dX0_choose_6 : decode cX0_choose 6 = .ok (.aload_n 0, 1) := by decide +kernel
theorem dX0_choose_7 : decode cX0_choose 7 = .ok (.getfield 11, 3) := by decide +kernel
theorem dX0_choose_10 : decode cX0_choose 10 = .ok (.iconst 0, 1) := by decide +kernel
theorem dX0_choose_11 : decode cX0_choose 11 = .ok (.aaload, 1) := by decide +kernel
theorem dX0_choose_12 : decode cX0_choose 12 = .ok (.iload_n 1, 1) := by decide +kernel
theorem dX0_choose_13 : decode cX0_choose 13 = .ok (.iaload, 1) := by decide +kernel
theorem dX0_choose_14 : decode cX0_choose 14 = .ok (.iload_n 1, 1) := by decide +kernel
theorem dX0_choose_15 : decode cX0_choose 15 = .ok (.iastore, 1) := by decide +kernel
theorem dX0_choose_16 : decode cX0_choose 16 = .ok (.aload_n 0, 1) := by decide +kernel
theorem dX0_choose_17 : decode cX0_choose 17 = .ok (.getfield 16, 3) := by decide +kernel
theorem dX0_choose_20 : decode cX0_choose 20 = .ok (.iconst 1, 1) := by decide +kernel
theorem dX0_choose_21 : decode cX0_choose 21 = .ok (.aaload, 1) := by decide +kernel
theorem dX0_choose_22 : decode cX0_choose 22 = .ok (.aload_n 0, 1) := by decide +kernel
theorem dX0_choose_23 : decode cX0_choose 23 = .ok (.getfield 11, 3) := by decide +kernel
theorem dX0_choose_26 : decode cX0_choose 26 = .ok (.iconst 1, 1) := by decide +kernel
theorem dX0_choose_27 : decode cX0_choose 27 = .ok (.aaload, 1) := by decide +kernel
theorem dX0_choose_28 : decode cX0_choose 28 = .ok (.iload_n 1, 1) := by decide +kernel
theorem dX0_choose_29 : decode cX0_choose 29 = .ok (.iaload, 1) := by decide +kernel
theorem dX0_choose_30 : decode cX0_choose 30 = .ok (.iload_n 1, 1) := by decide +kernel
theorem dX0_choose_31 : decode cX0_choose 31 = .ok (.iastore, 1) := by decide +kernel
theorem dX0_choose_32 : decode cX0_choose 32 = .ok (.return_, 1) := by decide +kernel
set_option maxRecDepth 20000 in
theorem ggX0_grow_J7_fill_53178 : GoodIn wsX0_grow wsJ7_fill_53178 := goodIn_r _ [9] (by decide +kernel) (by decide +kernel)
set_option maxRecDepth 20000 in
theorem gX0_grow_J7_fill_53178 : GoodIn wsX0_grow (va_wsS RX0 53 yJ7_fill_53178 wsJ7_fill_53178) := goodIn_app (goodIn_of _ (by decide +kernel)) ggX0_grow_J7_fill_53178
set_option maxRecDepth 20000 in
theorem ggX0_grow_X0_awaitFree : GoodIn wsX0_grow wsX0_awaitFree := goodIn_r _ [14, 2, 15, 16, 17, 13, 18, 5, 4, 19, 20, 21, 22, 23, 3, 36, 37, 38, 39, 40, 41, 42, 43, 44, 45, 46] (by decide +kernel) (by decide +kernel)
set_option maxRecDepth 20000 in
theorem gX0_grow_X0_awaitFree : GoodIn wsX0_grow (wsV RX0 67 RX0 yX0_awaitFree wsX0_awaitFree) := goodIn_app (goodIn_of _ (by decide +kernel)) ggX0_grow_X0_awaitFree
set_option maxRecDepth 20000 in
theorem ggX0_grow_X0_turn : GoodIn wsX0_grow wsX0_turn := goodIn_r _ [27, 23, 28, 29, 30, 13, 31, 5, 4, 36, 37, 38, 39, 40, 41] (by decide +kernel) (by decide +kernel)
set_option maxRecDepth 20000 in
theorem gX0_grow_X0_turn : GoodIn wsX0_grow (wsV RX0 74 RX0 yX0_turn wsX0_turn) := goodIn_app (goodIn_of _ (by decide +kernel)) ggX0_grow_X0_turn
set_option maxRecDepth 20000 in
theorem ggX0_grow_X0_awaitInstead : GoodIn wsX0_grow wsX0_awaitInstead := goodIn_r _ [35, 4, 19, 20, 21, 13, 22, 23, 3, 2, 36, 37, 38, 39, 40, 41, 42, 43, 44, 45, 46] (by decide +kernel) (by decide +kernel)
set_option maxRecDepth 20000 in
theorem gX0_grow_X0_awaitInstead : GoodIn wsX0_grow (wsV RX0 78 RX0 yX0_awaitInstead wsX0_awaitInstead) := goodIn_app (goodIn_of _ (by decide +kernel)) ggX0_grow_X0_awaitInstead
theorem dX0_grow_0 : decode cX0_grow 0 = .ok (.aload_n 0, 1) := by decide +kernel
theorem dX0_grow_1 : decode cX0_grow 1 = .ok (.getfield 26, 3) := by decide +kernel
theorem dX0_grow_4 : decode cX0_grow 4 = .ok (.iconst 0, 1) := by decide +kernel
theorem dX0_grow_5 : decode cX0_grow 5 = .ok (.invokestatic 53, 3) := by decide +kernel
theorem dX0_grow_8 : decode cX0_grow 8 = .ok (.aload_n 0, 1) := by decide +kernel
theorem dX0_grow_9 : decode cX0_grow 9 = .ok (.aload_n 1, 1) := by decide +kernel
theorem dX0_grow_10 : decode cX0_grow 10 = .ok (.invokevirtual 67, 3) := by decide +kernel
theorem dX0_grow_13 : decode cX0_grow 13 = .ok (.iconst 0, 1) := by decide +kernel
theorem dX0_grow_14 : decode cX0_grow 14 = .ok (.istore_n 2, 1) := by decide +kernel
theorem dX0_grow_15 : decode cX0_grow 15 = .ok (.iload_n 2, 1) := by decide +kernel
theorem dX0_grow_16 : decode cX0_grow 16 = .ok (.aload_n 0, 1) := by decide +kernel
theorem dX0_grow_17 : decode cX0_grow 17 = .ok (.getfield 71, 3) := by decide +kernel
theorem dX0_grow_20 : decode cX0_grow 20 = .ok (.if_icmp .ge 94, 3) := by decide +kernel
theorem dX0_grow_23 : decode cX0_grow 23 = .ok (.iload_n 2, 1) := by decide +kernel
theorem dX0_grow_24 : decode cX0_grow 24 = .ok (.sipush 300, 3) := by decide +kernel
theorem dX0_grow_27 : decode cX0_grow 27 = .ok (.if_icmp .ge 87, 3) := by decide +kernel
theorem dX0_grow_30 : decode cX0_grow 30 = .ok (.aload_n 0, 1) := by decide +kernel
theorem dX0_grow_31 : decode cX0_grow 31 = .ok (.getfield 19, 3) := by decide +kernel
theorem dX0_grow_34 : decode cX0_grow 34 = .ok (.iload_n 2, 1) := by decide +kernel
theorem dX0_grow_35 : decode cX0_grow 35 = .ok (.iaload, 1) := by decide +kernel
theorem dX0_grow_36 : decode cX0_grow 36 = .ok (.istore_n 3, 1) := by decide +kernel
theorem dX0_grow_37 : decode cX0_grow 37 = .ok (.aload_n 0, 1) := by decide +kernel
theorem dX0_grow_38 : decode cX0_grow 38 = .ok (.getfield 11, 3) := by decide +kernel
theorem dX0_grow_41 : decode cX0_grow 41 = .ok (.iconst 1, 1) := by decide +kernel
theorem dX0_grow_42 : decode cX0_grow 42 = .ok (.aaload, 1) := by decide +kernel
theorem dX0_grow_43 : decode cX0_grow 43 = .ok (.iload_n 3, 1) := by decide +kernel
theorem dX0_grow_44 : decode cX0_grow 44 = .ok (.iaload, 1) := by decide +kernel
theorem dX0_grow_45 : decode cX0_grow 45 = .ok (.istore 4, 2) := by decide +kernel
theorem dX0_grow_47 : decode cX0_grow 47 = .ok (.aload_n 0, 1) := by decide +kernel
theorem dX0_grow_48 : decode cX0_grow 48 = .ok (.getfield 26, 3) := by decide +kernel
theorem dX0_grow_51 : decode cX0_grow 51 = .ok (.iload 4, 2) := by decide +kernel
theorem dX0_grow_53 : decode cX0_grow 53 = .ok (.iaload, 1) := by decide +kernel
theorem dX0_grow_54 : decode cX0_grow 54 = .ok (.iconst 1, 1) := by decide +kernel
theorem dX0_grow_55 : decode cX0_grow 55 = .ok (.if_icmp .ne 6, 3) := by decide +kernel
theorem dX0_grow_58 : decode cX0_grow 58 = .ok (.goto 50, 3) := by decide +kernel
theorem dX0_grow_61 : decode cX0_grow 61 = .ok (.aload_n 0, 1) := by decide +kernel
theorem dX0_grow_62 : decode cX0_grow 62 = .ok (.getfield 26, 3) := by decide +kernel
theorem dX0_grow_65 : decode cX0_grow 65 = .ok (.iload 4, 2) := by decide +kernel
theorem dX0_grow_67 : decode cX0_grow 67 = .ok (.iconst 1, 1) := by decide +kernel
theorem dX0_grow_68 : decode cX0_grow 68 = .ok (.iastore, 1) := by decide +kernel
theorem dX0_grow_69 : decode cX0_grow 69 = .ok (.aload_n 0, 1) := by decide +kernel
theorem dX0_grow_70 : decode cX0_grow 70 = .ok (.getfield 16, 3) := by decide +kernel
theorem dX0_grow_73 : decode cX0_grow 73 = .ok (.iconst 1, 1) := by decide +kernel
theorem dX0_grow_74 : decode cX0_grow 74 = .ok (.aaload, 1) := by decide +kernel
theorem dX0_grow_75 : decode cX0_grow 75 = .ok (.iload 4, 2) := by decide +kernel
theorem dX0_grow_77 : decode cX0_grow 77 = .ok (.iaload, 1) := by decide +kernel
theorem dX0_grow_78 : decode cX0_grow 78 = .ok (.iconst (-1), 1) := by decide +kernel
theorem dX0_grow_79 : decode cX0_grow 79 = .ok (.if_icmp .ne 14, 3) := by decide +kernel
theorem dX0_grow_82 : decode cX0_grow 82 = .ok (.aload_n 0, 1) := by decide +kernel
theorem dX0_grow_83 : decode cX0_grow 83 = .ok (.iload_n 3, 1) := by decide +kernel
theorem dX0_grow_84 : decode cX0_grow 84 = .ok (.aload_n 1, 1) := by decide +kernel
theorem dX0_grow_85 : decode cX0_grow 85 = .ok (.getfield 37, 3) := by decide +kernel
theorem dX0_grow_88 : decode cX0_grow 88 = .ok (.invokevirtual 74, 3) := by decide +kernel
theorem dX0_grow_91 : decode cX0_grow 91 = .ok (.iconst 1, 1) := by decide +kernel
theorem dX0_grow_92 : decode cX0_grow 92 = .ok (.ireturn, 1) := by decide +kernel
theorem dX0_grow_93 : decode cX0_grow 93 = .ok (.aload_n 0, 1) := by decide +kernel
theorem dX0_grow_94 : decode cX0_grow 94 = .ok (.aload_n 1, 1) := by decide +kernel
theorem dX0_grow_95 : decode cX0_grow 95 = .ok (.aload_n 0, 1) := by decide +kernel
theorem dX0_grow_96 : decode cX0_grow 96 = .ok (.getfield 16, 3) := by decide +kernel
theorem dX0_grow_99 : decode cX0_grow 99 = .ok (.iconst 1, 1) := by decide +kernel
theorem dX0_grow_100 : decode cX0_grow 100 = .ok (.aaload, 1) := by decide +kernel
theorem dX0_grow_101 : decode cX0_grow 101 = .ok (.iload 4, 2) := by decide +kernel
theorem dX0_grow_103 : decode cX0_grow 103 = .ok (.iaload, 1) := by decide +kernel
theorem dX0_grow_104 : decode cX0_grow 104 = .ok (.iload_n 3, 1) := by decide +kernel
theorem dX0_grow_105 : decode cX0_grow 105 = .ok (.invokevirtual 78, 3) := by decide +kernel
theorem dX0_grow_108 : decode cX0_grow 108 = .ok (.iinc 2 1, 3) := by decide +kernel
theorem dX0_grow_111 : decode cX0_grow 111 = .ok (.goto (-96), 3) := by decide +kernel
theorem dX0_grow_114 : decode cX0_grow 114 = .ok (.iconst 0, 1) := by decide +kernel
theorem dX0_grow_115 : decode cX0_grow 115 = .ok (.ireturn, 1) := by decide +kernel
