section
-- ===== PART A: goes FIRST, ahead of the names: the tables' words, and 'selects' of the private methods out of them =====
/-- a private method of a class that the tables say can be made, by its rows of tables_1 -/
def lw_okq (q : MethodName × Nat) : Prop := (q.1.cls ≠ "java/lang/invoke/MethodHandle" ∧ q.1.cls ≠ "java/lang/invoke/VarHandle") ∧ Cond.instantiable q.1.cls q.2 ∈ tables_1 ∧ Cond.privateMethod q.1 ∈ tables_1 ∧ Cond.instanceMethod q.1 ∈ tables_1
theorem lw_p0 : lw_okq (⟨"PairThreads$Threads", "tieOn", "(III)V"⟩, 5) := ⟨⟨by decide +kernel, by decide +kernel⟩, List.mem_of_getElem? (i := 17) (by decide +kernel), List.mem_of_getElem? (i := 121) (by decide +kernel), List.mem_of_getElem? (i := 122) (by decide +kernel)⟩
theorem lw_p1 : lw_okq (⟨"PairThreads$Threads", "lastOf", "(II)I"⟩, 5) := ⟨⟨by decide +kernel, by decide +kernel⟩, List.mem_of_getElem? (i := 17) (by decide +kernel), List.mem_of_getElem? (i := 125) (by decide +kernel), List.mem_of_getElem? (i := 126) (by decide +kernel)⟩
theorem lw_p2 : lw_okq (⟨"PairThreads$Threads", "untie", "(II)V"⟩, 5) := ⟨⟨by decide +kernel, by decide +kernel⟩, List.mem_of_getElem? (i := 17) (by decide +kernel), List.mem_of_getElem? (i := 137) (by decide +kernel), List.mem_of_getElem? (i := 138) (by decide +kernel)⟩
theorem lw_p3 : lw_okq (⟨"PairThreads$Matching", "findHeads", "(LPairThreads$Threads;I)V"⟩, 6) := ⟨⟨by decide +kernel, by decide +kernel⟩, List.mem_of_getElem? (i := 73) (by decide +kernel), List.mem_of_getElem? (i := 206) (by decide +kernel), List.mem_of_getElem? (i := 207) (by decide +kernel)⟩
theorem lw_p4 : lw_okq (⟨"PairThreads$Matching", "takeFree", "(LPairThreads$Threads;)I"⟩, 6) := ⟨⟨by decide +kernel, by decide +kernel⟩, List.mem_of_getElem? (i := 73) (by decide +kernel), List.mem_of_getElem? (i := 210) (by decide +kernel), List.mem_of_getElem? (i := 211) (by decide +kernel)⟩
theorem lw_p5 : lw_okq (⟨"PairThreads$Matching", "chosenOf", "(II)I"⟩, 6) := ⟨⟨by decide +kernel, by decide +kernel⟩, List.mem_of_getElem? (i := 73) (by decide +kernel), List.mem_of_getElem? (i := 217) (by decide +kernel), List.mem_of_getElem? (i := 218) (by decide +kernel)⟩
theorem lw_p6 : lw_okq (⟨"PairThreads$Matching", "choose", "(I)V"⟩, 6) := ⟨⟨by decide +kernel, by decide +kernel⟩, List.mem_of_getElem? (i := 73) (by decide +kernel), List.mem_of_getElem? (i := 221) (by decide +kernel), List.mem_of_getElem? (i := 222) (by decide +kernel)⟩
theorem lw_p7 : lw_okq (⟨"PairThreads$Matching", "grow", "(LPairThreads$Threads;)Z"⟩, 6) := ⟨⟨by decide +kernel, by decide +kernel⟩, List.mem_of_getElem? (i := 73) (by decide +kernel), List.mem_of_getElem? (i := 225) (by decide +kernel), List.mem_of_getElem? (i := 226) (by decide +kernel)⟩
theorem lw_p8 : lw_okq (⟨"PairThreads$Matching", "awaitFree", "(LPairThreads$Threads;)V"⟩, 6) := ⟨⟨by decide +kernel, by decide +kernel⟩, List.mem_of_getElem? (i := 73) (by decide +kernel), List.mem_of_getElem? (i := 229) (by decide +kernel), List.mem_of_getElem? (i := 230) (by decide +kernel)⟩
theorem lw_p9 : lw_okq (⟨"PairThreads$Matching", "await", "(II)V"⟩, 6) := ⟨⟨by decide +kernel, by decide +kernel⟩, List.mem_of_getElem? (i := 73) (by decide +kernel), List.mem_of_getElem? (i := 233) (by decide +kernel), List.mem_of_getElem? (i := 234) (by decide +kernel)⟩
theorem lw_p10 : lw_okq (⟨"PairThreads$Matching", "turn", "(II)V"⟩, 6) := ⟨⟨by decide +kernel, by decide +kernel⟩, List.mem_of_getElem? (i := 73) (by decide +kernel), List.mem_of_getElem? (i := 237) (by decide +kernel), List.mem_of_getElem? (i := 238) (by decide +kernel)⟩
theorem lw_p11 : lw_okq (⟨"PairThreads$Matching", "awaitInstead", "(LPairThreads$Threads;II)V"⟩, 6) := ⟨⟨by decide +kernel, by decide +kernel⟩, List.mem_of_getElem? (i := 73) (by decide +kernel), List.mem_of_getElem? (i := 241) (by decide +kernel), List.mem_of_getElem? (i := 242) (by decide +kernel)⟩
theorem lw_p12 : lw_okq (⟨"PairThreads$Spread", "forget", "()V"⟩, 4) := ⟨⟨by decide +kernel, by decide +kernel⟩, List.mem_of_getElem? (i := 53) (by decide +kernel), List.mem_of_getElem? (i := 249) (by decide +kernel), List.mem_of_getElem? (i := 250) (by decide +kernel)⟩
theorem lw_p13 : lw_okq (⟨"PairThreads$Spread", "spreadFrom", "(LPairThreads$Threads;II)V"⟩, 4) := ⟨⟨by decide +kernel, by decide +kernel⟩, List.mem_of_getElem? (i := 53) (by decide +kernel), List.mem_of_getElem? (i := 254) (by decide +kernel), List.mem_of_getElem? (i := 255) (by decide +kernel)⟩
theorem lw_p14 : lw_okq (⟨"PairThreads$Spread", "walk", "(LPairThreads$Threads;III)V"⟩, 4) := ⟨⟨by decide +kernel, by decide +kernel⟩, List.mem_of_getElem? (i := 53) (by decide +kernel), List.mem_of_getElem? (i := 258) (by decide +kernel), List.mem_of_getElem? (i := 259) (by decide +kernel)⟩
theorem lw_p15 : lw_okq (⟨"PairThreads$Spread", "reach", "(II)V"⟩, 4) := ⟨⟨by decide +kernel, by decide +kernel⟩, List.mem_of_getElem? (i := 53) (by decide +kernel), List.mem_of_getElem? (i := 266) (by decide +kernel), List.mem_of_getElem? (i := 267) (by decide +kernel)⟩
def lw_privs_1 : List (MethodName × Nat) := [(⟨"PairThreads$Threads", "tieOn", "(III)V"⟩, 5), (⟨"PairThreads$Threads", "lastOf", "(II)I"⟩, 5), (⟨"PairThreads$Threads", "untie", "(II)V"⟩, 5), (⟨"PairThreads$Matching", "findHeads", "(LPairThreads$Threads;I)V"⟩, 6), (⟨"PairThreads$Matching", "takeFree", "(LPairThreads$Threads;)I"⟩, 6), (⟨"PairThreads$Matching", "chosenOf", "(II)I"⟩, 6), (⟨"PairThreads$Matching", "choose", "(I)V"⟩, 6), (⟨"PairThreads$Matching", "grow", "(LPairThreads$Threads;)Z"⟩, 6), (⟨"PairThreads$Matching", "awaitFree", "(LPairThreads$Threads;)V"⟩, 6), (⟨"PairThreads$Matching", "await", "(II)V"⟩, 6), (⟨"PairThreads$Matching", "turn", "(II)V"⟩, 6), (⟨"PairThreads$Matching", "awaitInstead", "(LPairThreads$Threads;II)V"⟩, 6), (⟨"PairThreads$Spread", "forget", "()V"⟩, 4), (⟨"PairThreads$Spread", "spreadFrom", "(LPairThreads$Threads;II)V"⟩, 4), (⟨"PairThreads$Spread", "walk", "(LPairThreads$Threads;III)V"⟩, 4), (⟨"PairThreads$Spread", "reach", "(II)V"⟩, 4)]
theorem lw_r1 : ∀ q ∈ lw_privs_1, lw_okq q := List.forall_mem_cons.mpr ⟨lw_p0, List.forall_mem_cons.mpr ⟨lw_p1, List.forall_mem_cons.mpr ⟨lw_p2, List.forall_mem_cons.mpr ⟨lw_p3, List.forall_mem_cons.mpr ⟨lw_p4, List.forall_mem_cons.mpr ⟨lw_p5, List.forall_mem_cons.mpr ⟨lw_p6, List.forall_mem_cons.mpr ⟨lw_p7, List.forall_mem_cons.mpr ⟨lw_p8, List.forall_mem_cons.mpr ⟨lw_p9, List.forall_mem_cons.mpr ⟨lw_p10, List.forall_mem_cons.mpr ⟨lw_p11, List.forall_mem_cons.mpr ⟨lw_p12, List.forall_mem_cons.mpr ⟨lw_p13, List.forall_mem_cons.mpr ⟨lw_p14, List.forall_mem_cons.mpr ⟨lw_p15, fun _ h => absurd h List.not_mem_nil⟩⟩⟩⟩⟩⟩⟩⟩⟩⟩⟩⟩⟩⟩⟩⟩
theorem lw_p16 : lw_okq (⟨"PairThreads$Spread", "start", "(LPairThreads$Threads;II)V"⟩, 4) := ⟨⟨by decide +kernel, by decide +kernel⟩, List.mem_of_getElem? (i := 53) (by decide +kernel), List.mem_of_getElem? (i := 278) (by decide +kernel), List.mem_of_getElem? (i := 279) (by decide +kernel)⟩
theorem lw_p17 : lw_okq (⟨"PairThreads$Threads", "isSoundFrom", "(II)Z"⟩, 5) := ⟨⟨by decide +kernel, by decide +kernel⟩, List.mem_of_getElem? (i := 17) (by decide +kernel), List.mem_of_getElem? (i := 303) (by decide +kernel), List.mem_of_getElem? (i := 304) (by decide +kernel)⟩
theorem lw_p18 : lw_okq (⟨"PairThreadsModel", "find", "(II)I"⟩, 15) := ⟨⟨by decide +kernel, by decide +kernel⟩, List.mem_of_getElem? (i := 307) (by decide +kernel), List.mem_of_getElem? (i := 364) (by decide +kernel), List.mem_of_getElem? (i := 365) (by decide +kernel)⟩
theorem lw_p19 : lw_okq (⟨"PairThreadsModel", "add", "(II)V"⟩, 15) := ⟨⟨by decide +kernel, by decide +kernel⟩, List.mem_of_getElem? (i := 307) (by decide +kernel), List.mem_of_getElem? (i := 368) (by decide +kernel), List.mem_of_getElem? (i := 369) (by decide +kernel)⟩
theorem lw_p20 : lw_okq (⟨"PairThreadsModel", "remove", "(I)V"⟩, 15) := ⟨⟨by decide +kernel, by decide +kernel⟩, List.mem_of_getElem? (i := 307) (by decide +kernel), List.mem_of_getElem? (i := 376) (by decide +kernel), List.mem_of_getElem? (i := 377) (by decide +kernel)⟩
theorem lw_p21 : lw_okq (⟨"PairThreadsModel", "own", "(II)I"⟩, 15) := ⟨⟨by decide +kernel, by decide +kernel⟩, List.mem_of_getElem? (i := 307) (by decide +kernel), List.mem_of_getElem? (i := 391) (by decide +kernel), List.mem_of_getElem? (i := 392) (by decide +kernel)⟩
theorem lw_p22 : lw_okq (⟨"PairThreadsModel", "begin", "(II)I"⟩, 15) := ⟨⟨by decide +kernel, by decide +kernel⟩, List.mem_of_getElem? (i := 307) (by decide +kernel), List.mem_of_getElem? (i := 416) (by decide +kernel), List.mem_of_getElem? (i := 417) (by decide +kernel)⟩
theorem lw_p23 : lw_okq (⟨"PairThreadsModel", "clearFar", "()V"⟩, 15) := ⟨⟨by decide +kernel, by decide +kernel⟩, List.mem_of_getElem? (i := 307) (by decide +kernel), List.mem_of_getElem? (i := 420) (by decide +kernel), List.mem_of_getElem? (i := 421) (by decide +kernel)⟩
theorem lw_p24 : lw_okq (⟨"PairThreadsModel", "reach", "(I)I"⟩, 15) := ⟨⟨by decide +kernel, by decide +kernel⟩, List.mem_of_getElem? (i := 307) (by decide +kernel), List.mem_of_getElem? (i := 424) (by decide +kernel), List.mem_of_getElem? (i := 425) (by decide +kernel)⟩
theorem lw_p25 : lw_okq (⟨"PairThreadsModel", "touch", "(II)Z"⟩, 15) := ⟨⟨by decide +kernel, by decide +kernel⟩, List.mem_of_getElem? (i := 307) (by decide +kernel), List.mem_of_getElem? (i := 428) (by decide +kernel), List.mem_of_getElem? (i := 429) (by decide +kernel)⟩
theorem lw_p26 : lw_okq (⟨"PairThreadsModel", "number", "()V"⟩, 15) := ⟨⟨by decide +kernel, by decide +kernel⟩, List.mem_of_getElem? (i := 307) (by decide +kernel), List.mem_of_getElem? (i := 440) (by decide +kernel), List.mem_of_getElem? (i := 441) (by decide +kernel)⟩
theorem lw_p27 : lw_okq (⟨"PairThreadsModel", "matching", "()I"⟩, 15) := ⟨⟨by decide +kernel, by decide +kernel⟩, List.mem_of_getElem? (i := 307) (by decide +kernel), List.mem_of_getElem? (i := 444) (by decide +kernel), List.mem_of_getElem? (i := 445) (by decide +kernel)⟩
theorem lw_p28 : lw_okq (⟨"PairThreadsModel", "grows", "(I)Z"⟩, 15) := ⟨⟨by decide +kernel, by decide +kernel⟩, List.mem_of_getElem? (i := 307) (by decide +kernel), List.mem_of_getElem? (i := 448) (by decide +kernel), List.mem_of_getElem? (i := 449) (by decide +kernel)⟩
theorem lw_p29 : lw_okq (⟨"PairThreadsModel", "turn", "(II)V"⟩, 15) := ⟨⟨by decide +kernel, by decide +kernel⟩, List.mem_of_getElem? (i := 307) (by decide +kernel), List.mem_of_getElem? (i := 452) (by decide +kernel), List.mem_of_getElem? (i := 453) (by decide +kernel)⟩
theorem lw_p30 : lw_okq (⟨"PairThreadsModel", "parts", "()I"⟩, 15) := ⟨⟨by decide +kernel, by decide +kernel⟩, List.mem_of_getElem? (i := 307) (by decide +kernel), List.mem_of_getElem? (i := 456) (by decide +kernel), List.mem_of_getElem? (i := 457) (by decide +kernel)⟩
def lw_privs_2 : List (MethodName × Nat) := [(⟨"PairThreads$Spread", "start", "(LPairThreads$Threads;II)V"⟩, 4), (⟨"PairThreads$Threads", "isSoundFrom", "(II)Z"⟩, 5), (⟨"PairThreadsModel", "find", "(II)I"⟩, 15), (⟨"PairThreadsModel", "add", "(II)V"⟩, 15), (⟨"PairThreadsModel", "remove", "(I)V"⟩, 15), (⟨"PairThreadsModel", "own", "(II)I"⟩, 15), (⟨"PairThreadsModel", "begin", "(II)I"⟩, 15), (⟨"PairThreadsModel", "clearFar", "()V"⟩, 15), (⟨"PairThreadsModel", "reach", "(I)I"⟩, 15), (⟨"PairThreadsModel", "touch", "(II)Z"⟩, 15), (⟨"PairThreadsModel", "number", "()V"⟩, 15), (⟨"PairThreadsModel", "matching", "()I"⟩, 15), (⟨"PairThreadsModel", "grows", "(I)Z"⟩, 15), (⟨"PairThreadsModel", "turn", "(II)V"⟩, 15), (⟨"PairThreadsModel", "parts", "()I"⟩, 15)]
theorem lw_r2 : ∀ q ∈ lw_privs_2, lw_okq q := List.forall_mem_cons.mpr ⟨lw_p16, List.forall_mem_cons.mpr ⟨lw_p17, List.forall_mem_cons.mpr ⟨lw_p18, List.forall_mem_cons.mpr ⟨lw_p19, List.forall_mem_cons.mpr ⟨lw_p20, List.forall_mem_cons.mpr ⟨lw_p21, List.forall_mem_cons.mpr ⟨lw_p22, List.forall_mem_cons.mpr ⟨lw_p23, List.forall_mem_cons.mpr ⟨lw_p24, List.forall_mem_cons.mpr ⟨lw_p25, List.forall_mem_cons.mpr ⟨lw_p26, List.forall_mem_cons.mpr ⟨lw_p27, List.forall_mem_cons.mpr ⟨lw_p28, List.forall_mem_cons.mpr ⟨lw_p29, List.forall_mem_cons.mpr ⟨lw_p30, fun _ h => absurd h List.not_mem_nil⟩⟩⟩⟩⟩⟩⟩⟩⟩⟩⟩⟩⟩⟩⟩
def lw_privs : List (MethodName × Nat) := lw_privs_1 ++ (lw_privs_2)
def lw_tbl : List Cond := k2_sels lw_privs ++ tables_1
theorem lw_privs_ok : ∀ q ∈ lw_privs, lw_okq q := by
  show ∀ q ∈ lw_privs_1 ++ (lw_privs_2), lw_okq q
  exact List.forall_mem_append.mpr ⟨lw_r1, lw_r2⟩
-- ===== end of PART A; then your names; then what follows =====
end
section
/-! ===== BEGIN words of one list among another's, by their places ===== -/
theorem goodIn_r {big : List Cond} (ws : List Cond) (ps : List Nat) (hp : ws = ps.filterMap (fun i => big[i]?)) (h : ws.all goodWord = true) : GoodIn big ws := by
  intro w hw
  have h1 := List.all_eq_true.mp h w hw
  rw [hp] at hw
  obtain ⟨i, -, hi⟩ := List.mem_filterMap.mp hw
  have hm : w ∈ big := by first | exact List.mem_of_getElem? hi | exact List.getElem?_mem hi
  exact ⟨hm, good_of_word h1⟩
theorem goodIn_app {big a b : List Cond} (ha : GoodIn big a) (hb : GoodIn big b) : GoodIn big (a ++ b) := fun w h => (List.mem_append.mp h).elim (ha w) (hb w)
theorem goodIn_ca {big a b : List Cond} {c : Cond} (ha : GoodIn big (c :: a)) (hb : GoodIn big b) : GoodIn big (c :: (a ++ b)) := fun w h => (List.mem_cons.mp h).elim (fun e => ha w (List.mem_cons.mpr (Or.inl e))) (fun h => (List.mem_append.mp h).elim (fun h => ha w (List.mem_cons.mpr (Or.inr h))) (hb w))
theorem goodIn_sub {big ws : List Cond} (hm : ∀ w ∈ ws, w ∈ big) (h : ws.all goodWord = true) : GoodIn big ws := fun w hw => ⟨hm w hw, good_of_word (List.all_eq_true.mp h w hw)⟩
/-! ===== END ===== -/
/-! ===== BEGIN printed: names, fields, word lists, decode rows ===== -/
def RX0 : String := "PairThreads$Matching"
def TX0 : u_T := fun k => match k with
  | 0 => ("PairThreads$Matching", "head", "[[I", true)
  | 1 => ("PairThreads$Matching", "chosen", "[[I", true)
  | 2 => ("PairThreads$Matching", "waiting", "[I", true)
  | 3 => ("PairThreads$Matching", "found", "I", false)
  | 4 => ("PairThreads$Matching", "cause", "[I", true)
  | _ => ("PairThreads$Matching", "seen", "[I", true)
def tyX0 : Nat → FieldType := fun k => match k with
  | 0 => .array (.array .int)
  | 1 => .array (.array .int)
  | 2 => .array .int
  | 3 => .int
  | 4 => .array .int
  | _ => .array .int
abbrev wsX00 : List Cond := u_ws RX0 TX0 6
theorem nmX0 : ∀ a, a < 6 → ∀ b, b < 6 → a ≠ b → (TX0 a).2.1 ≠ (TX0 b).2.1 := by decide +kernel
theorem tyX0_ok : ∀ k, k < 6 → parseFieldDescriptor (TX0 k).2.2.1 = some (tyX0 k) := by decide +kernel
abbrev cX0_init : ByteArray := prog_2_method_1_code
def yX0_init : MethodName := ⟨RX0, "<init>", "()V"⟩
abbrev cX0_largest : ByteArray := prog_2_method_2_code
def yX0_largest : MethodName := ⟨RX0, "largest", "(LPairThreads$Threads;)I"⟩
abbrev cX0_findHeads : ByteArray := prog_2_method_3_code
def yX0_findHeads : MethodName := ⟨RX0, "findHeads", "(LPairThreads$Threads;I)V"⟩
abbrev cX0_takeFree : ByteArray := prog_2_method_4_code
def yX0_takeFree : MethodName := ⟨RX0, "takeFree", "(LPairThreads$Threads;)I"⟩
abbrev cX0_chosenOf : ByteArray := prog_2_method_5_code
def yX0_chosenOf : MethodName := ⟨RX0, "chosenOf", "(II)I"⟩
abbrev cX0_choose : ByteArray := prog_2_method_6_code
def yX0_choose : MethodName := ⟨RX0, "choose", "(I)V"⟩
abbrev cX0_grow : ByteArray := prog_2_method_7_code
def yX0_grow : MethodName := ⟨RX0, "grow", "(LPairThreads$Threads;)Z"⟩
abbrev cX0_awaitFree : ByteArray := prog_2_method_8_code
def yX0_awaitFree : MethodName := ⟨RX0, "awaitFree", "(LPairThreads$Threads;)V"⟩
abbrev cX0_awaitInstead : ByteArray := prog_2_method_9_code
def yX0_awaitInstead : MethodName := ⟨RX0, "awaitInstead", "(LPairThreads$Threads;II)V"⟩
abbrev cX0_await : ByteArray := prog_2_method_10_code
def yX0_await : MethodName := ⟨RX0, "await", "(II)V"⟩
abbrev cX0_turn : ByteArray := prog_2_method_11_code
def yX0_turn : MethodName := ⟨RX0, "turn", "(II)V"⟩
def RX1 : String := "PairThreads$Spread"
def TX1 : u_T := fun k => match k with
  | 0 => ("PairThreads$Spread", "reached", "[I", true)
  | 1 => ("PairThreads$Spread", "found", "I", false)
  | 2 => ("PairThreads$Spread", "rowTo", "[I", true)
  | _ => ("PairThreads$Spread", "walked", "[[I", true)
def tyX1 : Nat → FieldType := fun k => match k with
  | 0 => .array .int
  | 1 => .int
  | 2 => .array .int
  | _ => .array (.array .int)
abbrev wsX10 : List Cond := u_ws RX1 TX1 4
theorem nmX1 : ∀ a, a < 4 → ∀ b, b < 4 → a ≠ b → (TX1 a).2.1 ≠ (TX1 b).2.1 := by decide +kernel
theorem tyX1_ok : ∀ k, k < 4 → parseFieldDescriptor (TX1 k).2.2.1 = some (tyX1 k) := by decide +kernel
abbrev cX1_init : ByteArray := prog_3_method_1_code
def yX1_init : MethodName := ⟨RX1, "<init>", "()V"⟩
abbrev cX1_partOf : ByteArray := prog_3_method_2_code
def yX1_partOf : MethodName := ⟨RX1, "partOf", "(LPairThreads$Threads;II)I"⟩
abbrev cX1_leastRow : ByteArray := prog_3_method_3_code
def yX1_leastRow : MethodName := ⟨RX1, "leastRow", "(LPairThreads$Threads;IIII)I"⟩
abbrev cX1_allParts : ByteArray := prog_3_method_4_code
def yX1_allParts : MethodName := ⟨RX1, "allParts", "(LPairThreads$Threads;)I"⟩
abbrev cX1_start : ByteArray := prog_3_method_5_code
def yX1_start : MethodName := ⟨RX1, "start", "(LPairThreads$Threads;II)V"⟩
abbrev cX1_forget : ByteArray := prog_3_method_6_code
def yX1_forget : MethodName := ⟨RX1, "forget", "()V"⟩
abbrev cX1_spreadFrom : ByteArray := prog_3_method_7_code
def yX1_spreadFrom : MethodName := ⟨RX1, "spreadFrom", "(LPairThreads$Threads;II)V"⟩
abbrev cX1_walk : ByteArray := prog_3_method_8_code
def yX1_walk : MethodName := ⟨RX1, "walk", "(LPairThreads$Threads;III)V"⟩
abbrev cX1_reach : ByteArray := prog_3_method_9_code
def yX1_reach : MethodName := ⟨RX1, "reach", "(II)V"⟩
def RX2 : String := "PairThreads$Threads"
def TX2 : u_T := fun k => match k with
  | 0 => ("PairThreads$Threads", "order", "[I", true)
  | 1 => ("PairThreads$Threads", "number", "[[I", true)
  | 2 => ("PairThreads$Threads", "before", "[[I", true)
  | 3 => ("PairThreads$Threads", "after", "[[I", true)
  | _ => ("PairThreads$Threads", "size", "I", false)
def tyX2 : Nat → FieldType := fun k => match k with
  | 0 => .array .int
  | 1 => .array (.array .int)
  | 2 => .array (.array .int)
  | 3 => .array (.array .int)
  | _ => .int
abbrev wsX20 : List Cond := u_ws RX2 TX2 5
theorem nmX2 : ∀ a, a < 5 → ∀ b, b < 5 → a ≠ b → (TX2 a).2.1 ≠ (TX2 b).2.1 := by decide +kernel
theorem tyX2_ok : ∀ k, k < 5 → parseFieldDescriptor (TX2 k).2.2.1 = some (tyX2 k) := by decide +kernel
abbrev cX2_init : ByteArray := prog_4_method_1_code
def yX2_init : MethodName := ⟨RX2, "<init>", "()V"⟩
abbrev cX2_placeOf : ByteArray := prog_4_method_2_code
def yX2_placeOf : MethodName := ⟨RX2, "placeOf", "(II)I"⟩
abbrev cX2_firstOf : ByteArray := prog_4_method_3_code
def yX2_firstOf : MethodName := ⟨RX2, "firstOf", "(II)I"⟩
abbrev cX2_lastOf : ByteArray := prog_4_method_4_code
def yX2_lastOf : MethodName := ⟨RX2, "lastOf", "(II)I"⟩
abbrev cX2_headOf : ByteArray := prog_4_method_5_code
def yX2_headOf : MethodName := ⟨RX2, "headOf", "(II)I"⟩
abbrev cX2_lengthOf : ByteArray := prog_4_method_6_code
def yX2_lengthOf : MethodName := ⟨RX2, "lengthOf", "(II)I"⟩
abbrev cX2_inThread : ByteArray := prog_4_method_7_code
def yX2_inThread : MethodName := ⟨RX2, "inThread", "(III)I"⟩
abbrev cX2_threadsOn : ByteArray := prog_4_method_8_code
def yX2_threadsOn : MethodName := ⟨RX2, "threadsOn", "(I)I"⟩
abbrev cX2_append : ByteArray := prog_4_method_9_code
def yX2_append : MethodName := ⟨RX2, "append", "(II)V"⟩
abbrev cX2_tieOn : ByteArray := prog_4_method_10_code
def yX2_tieOn : MethodName := ⟨RX2, "tieOn", "(III)V"⟩
abbrev cX2_takeOut : ByteArray := prog_4_method_11_code
def yX2_takeOut : MethodName := ⟨RX2, "takeOut", "(I)V"⟩
abbrev cX2_untie : ByteArray := prog_4_method_12_code
def yX2_untie : MethodName := ⟨RX2, "untie", "(II)V"⟩
abbrev cX2_takeOutAll : ByteArray := prog_4_method_13_code
def yX2_takeOutAll : MethodName := ⟨RX2, "takeOutAll", "(II)I"⟩
abbrev cX2_moveAll : ByteArray := prog_4_method_14_code
def yX2_moveAll : MethodName := ⟨RX2, "moveAll", "(III)I"⟩
abbrev cX2_areSound : ByteArray := prog_4_method_15_code
def yX2_areSound : MethodName := ⟨RX2, "areSound", "(I)Z"⟩
abbrev cX2_isSoundFrom : ByteArray := prog_4_method_16_code
def yX2_isSoundFrom : MethodName := ⟨RX2, "isSoundFrom", "(II)Z"⟩
def RX3 : String := "PairThreads"
def TX3 : u_T := fun k => match k with
  | 0 => ("PairThreads", "pairs", "LPairThreads$Threads;", true)
  | 1 => ("PairThreads", "spread", "LPairThreads$Spread;", true)
  | _ => ("PairThreads", "matching", "LPairThreads$Matching;", true)
def tyX3 : Nat → FieldType := fun k => match k with
  | 0 => .object "PairThreads$Threads"
  | 1 => .object "PairThreads$Spread"
  | _ => .object "PairThreads$Matching"
abbrev wsX30 : List Cond := u_ws RX3 TX3 3
theorem nmX3 : ∀ a, a < 3 → ∀ b, b < 3 → a ≠ b → (TX3 a).2.1 ≠ (TX3 b).2.1 := by decide +kernel
theorem tyX3_ok : ∀ k, k < 3 → parseFieldDescriptor (TX3 k).2.2.1 = some (tyX3 k) := by decide +kernel
abbrev cX3_init : ByteArray := prog_1_method_1_code
def yX3_init : MethodName := ⟨RX3, "<init>", "()V"⟩
abbrev cX3_link : ByteArray := prog_1_method_2_code
def yX3_link : MethodName := ⟨RX3, "link", "(II)I"⟩
abbrev cX3_unlink : ByteArray := prog_1_method_3_code
def yX3_unlink : MethodName := ⟨RX3, "unlink", "(II)I"⟩
abbrev cX3_place : ByteArray := prog_1_method_4_code
def yX3_place : MethodName := ⟨RX3, "place", "(II)I"⟩
abbrev cX3_degree : ByteArray := prog_1_method_5_code
def yX3_degree : MethodName := ⟨RX3, "degree", "(II)I"⟩
abbrev cX3_other : ByteArray := prog_1_method_6_code
def yX3_other : MethodName := ⟨RX3, "other", "(III)I"⟩
abbrev cX3_drop : ByteArray := prog_1_method_7_code
def yX3_drop : MethodName := ⟨RX3, "drop", "(II)I"⟩
abbrev cX3_rename : ByteArray := prog_1_method_8_code
def yX3_rename : MethodName := ⟨RX3, "rename", "(III)I"⟩
abbrev cX3_at : ByteArray := prog_1_method_9_code
def yX3_at : MethodName := ⟨RX3, "at", "(II)I"⟩
abbrev cX3_count : ByteArray := prog_1_method_10_code
def yX3_count : MethodName := ⟨RX3, "count", "(I)I"⟩
abbrev cX3_part : ByteArray := prog_1_method_11_code
def yX3_part : MethodName := ⟨RX3, "part", "(II)I"⟩
abbrev cX3_way : ByteArray := prog_1_method_12_code
def yX3_way : MethodName := ⟨RX3, "way", "(IIII)I"⟩
abbrev cX3_clear : ByteArray := prog_1_method_13_code
def yX3_clear : MethodName := ⟨RX3, "clear", "()I"⟩
abbrev cX3_check : ByteArray := prog_1_method_14_code
def yX3_check : MethodName := ⟨RX3, "check", "()I"⟩
abbrev cX3_isSide : ByteArray := prog_1_method_15_code
def yX3_isSide : MethodName := ⟨RX3, "isSide", "(I)Z"⟩
def RX4 : String := "PairThreadsModel"
def TX4 : u_T := fun k => match k with
  | 0 => ("PairThreadsModel", "many", "I", false)
  | 1 => ("PairThreadsModel", "lefts", "[I", true)
  | 2 => ("PairThreadsModel", "rights", "[I", true)
  | 3 => ("PairThreadsModel", "leftOf", "[I", true)
  | 4 => ("PairThreadsModel", "rightOf", "[I", true)
  | 5 => ("PairThreadsModel", "firstOf", "[I", true)
  | 6 => ("PairThreadsModel", "nextOf", "[I", true)
  | 7 => ("PairThreadsModel", "leftMany", "I", false)
  | 8 => ("PairThreadsModel", "rightMany", "I", false)
  | 9 => ("PairThreadsModel", "partner", "[I", true)
  | 10 => ("PairThreadsModel", "matched", "[Z", true)
  | 11 => ("PairThreadsModel", "queue", "[I", true)
  | 12 => ("PairThreadsModel", "comesFrom", "[I", true)
  | 13 => ("PairThreadsModel", "far", "[I", true)
  | _ => ("PairThreadsModel", "kept", "[I", true)
def tyX4 : Nat → FieldType := fun k => match k with
  | 0 => .int
  | 1 => .array .int
  | 2 => .array .int
  | 3 => .array .int
  | 4 => .array .int
  | 5 => .array .int
  | 6 => .array .int
  | 7 => .int
  | 8 => .int
  | 9 => .array .int
  | 10 => .array .boolean
  | 11 => .array .int
  | 12 => .array .int
  | 13 => .array .int
  | _ => .array .int
abbrev wsX40 : List Cond := u_ws RX4 TX4 15
theorem nmX4 : ∀ a, a < 15 → ∀ b, b < 15 → a ≠ b → (TX4 a).2.1 ≠ (TX4 b).2.1 := by decide +kernel
theorem tyX4_ok : ∀ k, k < 15 → parseFieldDescriptor (TX4 k).2.2.1 = some (tyX4 k) := by decide +kernel
abbrev cX4_init : ByteArray := prog_6_method_1_code
def yX4_init : MethodName := ⟨RX4, "<init>", "()V"⟩
abbrev cX4_find : ByteArray := prog_6_method_2_code
def yX4_find : MethodName := ⟨RX4, "find", "(II)I"⟩
abbrev cX4_isSide : ByteArray := prog_6_method_3_code
def yX4_isSide : MethodName := ⟨RX4, "isSide", "(I)Z"⟩
abbrev cX4_own : ByteArray := prog_6_method_4_code
def yX4_own : MethodName := ⟨RX4, "own", "(II)I"⟩
abbrev cX4_add : ByteArray := prog_6_method_5_code
def yX4_add : MethodName := ⟨RX4, "add", "(II)V"⟩
abbrev cX4_remove : ByteArray := prog_6_method_6_code
def yX4_remove : MethodName := ⟨RX4, "remove", "(I)V"⟩
abbrev cX4_link : ByteArray := prog_6_method_7_code
def yX4_link : MethodName := ⟨RX4, "link", "(II)I"⟩
abbrev cX4_unlink : ByteArray := prog_6_method_8_code
def yX4_unlink : MethodName := ⟨RX4, "unlink", "(II)I"⟩
abbrev cX4_place : ByteArray := prog_6_method_9_code
def yX4_place : MethodName := ⟨RX4, "place", "(II)I"⟩
abbrev cX4_degree : ByteArray := prog_6_method_10_code
def yX4_degree : MethodName := ⟨RX4, "degree", "(II)I"⟩
abbrev cX4_other : ByteArray := prog_6_method_11_code
def yX4_other : MethodName := ⟨RX4, "other", "(III)I"⟩
abbrev cX4_drop : ByteArray := prog_6_method_12_code
def yX4_drop : MethodName := ⟨RX4, "drop", "(II)I"⟩
abbrev cX4_rename : ByteArray := prog_6_method_13_code
def yX4_rename : MethodName := ⟨RX4, "rename", "(III)I"⟩
abbrev cX4_at : ByteArray := prog_6_method_14_code
def yX4_at : MethodName := ⟨RX4, "at", "(II)I"⟩
abbrev cX4_number : ByteArray := prog_6_method_15_code
def yX4_number : MethodName := ⟨RX4, "number", "()V"⟩
abbrev cX4_grows : ByteArray := prog_6_method_16_code
def yX4_grows : MethodName := ⟨RX4, "grows", "(I)Z"⟩
abbrev cX4_turn : ByteArray := prog_6_method_17_code
def yX4_turn : MethodName := ⟨RX4, "turn", "(II)V"⟩
abbrev cX4_matching : ByteArray := prog_6_method_18_code
def yX4_matching : MethodName := ⟨RX4, "matching", "()I"⟩
abbrev cX4_touch : ByteArray := prog_6_method_19_code
def yX4_touch : MethodName := ⟨RX4, "touch", "(II)Z"⟩
abbrev cX4_reach : ByteArray := prog_6_method_20_code
def yX4_reach : MethodName := ⟨RX4, "reach", "(I)I"⟩
abbrev cX4_clearFar : ByteArray := prog_6_method_21_code
def yX4_clearFar : MethodName := ⟨RX4, "clearFar", "()V"⟩
abbrev cX4_parts : ByteArray := prog_6_method_22_code
def yX4_parts : MethodName := ⟨RX4, "parts", "()I"⟩
abbrev cX4_begin : ByteArray := prog_6_method_23_code
def yX4_begin : MethodName := ⟨RX4, "begin", "(II)I"⟩
abbrev cX4_part : ByteArray := prog_6_method_24_code
def yX4_part : MethodName := ⟨RX4, "part", "(II)I"⟩
abbrev cX4_way : ByteArray := prog_6_method_25_code
def yX4_way : MethodName := ⟨RX4, "way", "(IIII)I"⟩
abbrev cX4_count : ByteArray := prog_6_method_26_code
def yX4_count : MethodName := ⟨RX4, "count", "(I)I"⟩
abbrev cX4_clear : ByteArray := prog_6_method_27_code
def yX4_clear : MethodName := ⟨RX4, "clear", "()I"⟩
abbrev cX4_check : ByteArray := prog_6_method_28_code
def yX4_check : MethodName := ⟨RX4, "check", "()I"⟩
def RJ10 : String := "java/lang/System"
def TJ10 : u_T := fun k => match k with
  | _ => ("", "", "", false)
def tyJ10 : Nat → FieldType := fun k => match k with
  | _ => .int
abbrev wsJ100 : List Cond := u_ws RJ10 TJ10 0
theorem nmJ10 : ∀ a, a < 0 → ∀ b, b < 0 → a ≠ b → (TJ10 a).2.1 ≠ (TJ10 b).2.1 := by decide +kernel
theorem tyJ10_ok : ∀ k, k < 0 → parseFieldDescriptor (TJ10 k).2.2.1 = some (tyJ10 k) := by decide +kernel
def RJ7 : String := "java/util/Arrays"
def TJ7 : u_T := fun k => match k with
  | _ => ("", "", "", false)
def tyJ7 : Nat → FieldType := fun k => match k with
  | _ => .int
abbrev wsJ70 : List Cond := u_ws RJ7 TJ7 0
theorem nmJ7 : ∀ a, a < 0 → ∀ b, b < 0 → a ≠ b → (TJ7 a).2.1 ≠ (TJ7 b).2.1 := by decide +kernel
theorem tyJ7_ok : ∀ k, k < 0 → parseFieldDescriptor (TJ7 k).2.2.1 = some (tyJ7 k) := by decide +kernel
abbrev cJ7_fill_53178 : ByteArray := prog_8_method_103_code
def yJ7_fill_53178 : MethodName := ⟨RJ7, "fill", "([II)V"⟩
def RL : String := "PairThreadsLaw"
abbrev cL_law : ByteArray := code
def yL_law : MethodName := ⟨RL, "law", "([I)Z"⟩
def wsX0_init : List Cond := .code yX0_init cX0_init 1 none :: ([.methodLink RX0 3 objectInit, .instanceMethod objectInit, .code objectInit ⟨#[0xb1]⟩ 1 none, .classLink RX0 9 "[[I", .arrayClass .int, .fieldLink RX0 11 "PairThreads$Matching" "head" "[[I", .fieldLink RX0 16 "PairThreads$Matching" "chosen" "[[I", .fieldLink RX0 19 "PairThreads$Matching" "waiting" "[I", .fieldLink RX0 23 "PairThreads$Matching" "cause" "[I", .fieldLink RX0 26 "PairThreads$Matching" "seen" "[I"] ++ wsX00)
def wsX0_findHeads : List Cond := .code yX0_findHeads cX0_findHeads 6 none :: ([.fieldLink RX0 11 "PairThreads$Matching" "head" "[[I"] ++ wsX20 ++ wsX00)
def wsJ7_fill_53178 : List Cond := .code yJ7_fill_53178 cJ7_fill_53178 4 none :: ([])
def wsX0_chosenOf : List Cond := .code yX0_chosenOf cX0_chosenOf 3 (some .int) :: ([.fieldLink RX0 16 "PairThreads$Matching" "chosen" "[[I", .fieldLink RX0 11 "PairThreads$Matching" "head" "[[I"] ++ wsX00)
def wsX0_choose : List Cond := .code yX0_choose cX0_choose 2 none :: ([.fieldLink RX0 16 "PairThreads$Matching" "chosen" "[[I", .fieldLink RX0 11 "PairThreads$Matching" "head" "[[I"] ++ wsX00)
def wsX0_takeFree : List Cond := .code yX0_takeFree cX0_takeFree 5 (some .int) :: ([.fieldLink RX0 16 "PairThreads$Matching" "chosen" "[[I", .methodLink RX0 53 yJ7_fill_53178, .static yJ7_fill_53178, .initialized RJ7, .code yJ7_fill_53178 cJ7_fill_53178 4 none, .methodLink RX0 59 yX0_chosenOf, .instanceMethod yX0_chosenOf, .selects RX0 yX0_chosenOf yX0_chosenOf, .initialized RX0, .code yX0_chosenOf cX0_chosenOf 3 (some .int), .fieldLink RX0 11 "PairThreads$Matching" "head" "[[I", .methodLink RX0 63 yX0_choose, .instanceMethod yX0_choose, .selects RX0 yX0_choose yX0_choose, .code yX0_choose cX0_choose 2 none] ++ wsX00 ++ wsX20)
def wsX0_await : List Cond := .code yX0_await cX0_await 3 none :: ([.fieldLink RX0 23 "PairThreads$Matching" "cause" "[I", .fieldLink RX0 19 "PairThreads$Matching" "waiting" "[I", .fieldLink RX0 71 "PairThreads$Matching" "found" "I"] ++ wsX00)
def wsX0_awaitFree : List Cond := .code yX0_awaitFree cX0_awaitFree 4 none :: ([.fieldLink RX0 71 "PairThreads$Matching" "found" "I", .methodLink RX0 59 yX0_chosenOf, .instanceMethod yX0_chosenOf, .selects RX0 yX0_chosenOf yX0_chosenOf, .initialized RX0, .code yX0_chosenOf cX0_chosenOf 3 (some .int), .fieldLink RX0 16 "PairThreads$Matching" "chosen" "[[I", .fieldLink RX0 11 "PairThreads$Matching" "head" "[[I", .methodLink RX0 82 yX0_await, .instanceMethod yX0_await, .selects RX0 yX0_await yX0_await, .code yX0_await cX0_await 3 none, .fieldLink RX0 23 "PairThreads$Matching" "cause" "[I", .fieldLink RX0 19 "PairThreads$Matching" "waiting" "[I"] ++ wsX00 ++ wsX20)
def wsX0_turn : List Cond := .code yX0_turn cX0_turn 5 none :: ([.fieldLink RX0 23 "PairThreads$Matching" "cause" "[I", .methodLink RX0 63 yX0_choose, .instanceMethod yX0_choose, .selects RX0 yX0_choose yX0_choose, .initialized RX0, .code yX0_choose cX0_choose 2 none, .fieldLink RX0 16 "PairThreads$Matching" "chosen" "[[I", .fieldLink RX0 11 "PairThreads$Matching" "head" "[[I"] ++ wsX00)
def wsX0_awaitInstead : List Cond := .code yX0_awaitInstead cX0_awaitInstead 6 none :: ([.fieldLink RX0 11 "PairThreads$Matching" "head" "[[I", .methodLink RX0 82 yX0_await, .instanceMethod yX0_await, .selects RX0 yX0_await yX0_await, .initialized RX0, .code yX0_await cX0_await 3 none, .fieldLink RX0 23 "PairThreads$Matching" "cause" "[I", .fieldLink RX0 19 "PairThreads$Matching" "waiting" "[I", .fieldLink RX0 71 "PairThreads$Matching" "found" "I"] ++ wsX00 ++ wsX20)
def wsX0_grow_r1 : List Cond := [Cond.fieldLink RX0 26 "PairThreads$Matching" "seen" "[I", Cond.fieldLink RX0 71 "PairThreads$Matching" "found" "I", Cond.fieldLink RX0 19 "PairThreads$Matching" "waiting" "[I", Cond.fieldLink RX0 11 "PairThreads$Matching" "head" "[[I", Cond.fieldLink RX0 16 "PairThreads$Matching" "chosen" "[[I", Cond.methodLink RX0 53 yJ7_fill_53178, Cond.static yJ7_fill_53178, Cond.initialized RJ7, Cond.code yJ7_fill_53178 cJ7_fill_53178 4 none, Cond.methodLink RX0 67 yX0_awaitFree, Cond.instanceMethod yX0_awaitFree, Cond.selects RX0 yX0_awaitFree yX0_awaitFree, Cond.initialized RX0, Cond.code yX0_awaitFree cX0_awaitFree 4 none, Cond.methodLink RX0 59 yX0_chosenOf, Cond.instanceMethod yX0_chosenOf, Cond.selects RX0 yX0_chosenOf yX0_chosenOf, Cond.code yX0_chosenOf cX0_chosenOf 3 (some .int), Cond.methodLink RX0 82 yX0_await, Cond.instanceMethod yX0_await, Cond.selects RX0 yX0_await yX0_await, Cond.code yX0_await cX0_await 3 none, Cond.fieldLink RX0 23 "PairThreads$Matching" "cause" "[I", Cond.methodLink RX0 74 yX0_turn]
def wsX0_grow_r2 : List Cond := [Cond.instanceMethod yX0_turn, Cond.selects RX0 yX0_turn yX0_turn, Cond.code yX0_turn cX0_turn 5 none, Cond.methodLink RX0 63 yX0_choose, Cond.instanceMethod yX0_choose, Cond.selects RX0 yX0_choose yX0_choose, Cond.code yX0_choose cX0_choose 2 none, Cond.methodLink RX0 78 yX0_awaitInstead, Cond.instanceMethod yX0_awaitInstead, Cond.selects RX0 yX0_awaitInstead yX0_awaitInstead, Cond.code yX0_awaitInstead cX0_awaitInstead 6 none]
def wsX0_grow : List Cond := .code yX0_grow cX0_grow 5 (some .boolean) :: ((wsX0_grow_r1 ++ wsX0_grow_r2) ++ wsX00 ++ wsX20)
def wsX0_largest_r1 : List Cond := [Cond.methodLink RX0 29 yX0_findHeads, Cond.instanceMethod yX0_findHeads, Cond.selects RX0 yX0_findHeads yX0_findHeads, Cond.initialized RX0, Cond.code yX0_findHeads cX0_findHeads 6 none, Cond.fieldLink RX0 11 "PairThreads$Matching" "head" "[[I", Cond.methodLink RX0 33 yX0_takeFree, Cond.instanceMethod yX0_takeFree, Cond.selects RX0 yX0_takeFree yX0_takeFree, Cond.code yX0_takeFree cX0_takeFree 5 (some .int), Cond.fieldLink RX0 16 "PairThreads$Matching" "chosen" "[[I", Cond.methodLink RX0 53 yJ7_fill_53178, Cond.static yJ7_fill_53178, Cond.initialized RJ7, Cond.code yJ7_fill_53178 cJ7_fill_53178 4 none, Cond.methodLink RX0 59 yX0_chosenOf, Cond.instanceMethod yX0_chosenOf, Cond.selects RX0 yX0_chosenOf yX0_chosenOf, Cond.code yX0_chosenOf cX0_chosenOf 3 (some .int), Cond.methodLink RX0 63 yX0_choose, Cond.instanceMethod yX0_choose, Cond.selects RX0 yX0_choose yX0_choose, Cond.code yX0_choose cX0_choose 2 none, Cond.methodLink RX0 43 yX0_grow]
def wsX0_largest_r2 : List Cond := [Cond.instanceMethod yX0_grow, Cond.selects RX0 yX0_grow yX0_grow, Cond.code yX0_grow cX0_grow 5 (some .boolean), Cond.fieldLink RX0 26 "PairThreads$Matching" "seen" "[I", Cond.fieldLink RX0 71 "PairThreads$Matching" "found" "I", Cond.fieldLink RX0 19 "PairThreads$Matching" "waiting" "[I", Cond.methodLink RX0 67 yX0_awaitFree, Cond.instanceMethod yX0_awaitFree, Cond.selects RX0 yX0_awaitFree yX0_awaitFree, Cond.code yX0_awaitFree cX0_awaitFree 4 none, Cond.methodLink RX0 82 yX0_await, Cond.instanceMethod yX0_await, Cond.selects RX0 yX0_await yX0_await, Cond.code yX0_await cX0_await 3 none, Cond.fieldLink RX0 23 "PairThreads$Matching" "cause" "[I", Cond.methodLink RX0 74 yX0_turn, Cond.instanceMethod yX0_turn, Cond.selects RX0 yX0_turn yX0_turn, Cond.code yX0_turn cX0_turn 5 none, Cond.methodLink RX0 78 yX0_awaitInstead, Cond.instanceMethod yX0_awaitInstead, Cond.selects RX0 yX0_awaitInstead yX0_awaitInstead, Cond.code yX0_awaitInstead cX0_awaitInstead 6 none]
def wsX0_largest : List Cond := .code yX0_largest cX0_largest 4 (some .int) :: ((wsX0_largest_r1 ++ wsX0_largest_r2) ++ wsX20 ++ wsX00)
def wsX1_init : List Cond := .code yX1_init cX1_init 1 none :: ([.methodLink RX1 3 objectInit, .instanceMethod objectInit, .code objectInit ⟨#[0xb1]⟩ 1 none, .arrayClass .int, .fieldLink RX1 9 "PairThreads$Spread" "reached" "[I", .fieldLink RX1 15 "PairThreads$Spread" "rowTo" "[I", .classLink RX1 18 "[[I", .fieldLink RX1 20 "PairThreads$Spread" "walked" "[[I"] ++ wsX10)
def wsX1_forget : List Cond := .code yX1_forget cX1_forget 1 none :: ([.fieldLink RX1 27 "PairThreads$Spread" "found" "I", .fieldLink RX1 15 "PairThreads$Spread" "rowTo" "[I", .fieldLink RX1 20 "PairThreads$Spread" "walked" "[[I", .methodLink RX1 52 yJ7_fill_53178, .static yJ7_fill_53178, .initialized RJ7, .code yJ7_fill_53178 cJ7_fill_53178 4 none] ++ wsX10)
def wsX2_firstOf : List Cond := .code yX2_firstOf cX2_firstOf 4 (some .int) :: ([.fieldLink RX2 26 "PairThreads$Threads" "size" "I", .fieldLink RX2 17 "PairThreads$Threads" "number" "[[I", .fieldLink RX2 9 "PairThreads$Threads" "order" "[I"] ++ wsX20)
def wsX2_headOf : List Cond := .code yX2_headOf cX2_headOf 5 (some .int) :: ([.fieldLink RX2 26 "PairThreads$Threads" "size" "I", .fieldLink RX2 20 "PairThreads$Threads" "before" "[[I"] ++ wsX20)
def wsX1_reach : List Cond := .code yX1_reach cX1_reach 3 none :: ([.fieldLink RX1 15 "PairThreads$Spread" "rowTo" "[I", .fieldLink RX1 9 "PairThreads$Spread" "reached" "[I", .fieldLink RX1 27 "PairThreads$Spread" "found" "I"] ++ wsX10)
def wsX1_walk : List Cond := .code yX1_walk cX1_walk 7 none :: ([.fieldLink RX1 20 "PairThreads$Spread" "walked" "[[I", .methodLink RX1 62 yX2_headOf, .instanceMethod yX2_headOf, .selects RX2 yX2_headOf yX2_headOf, .initialized RX2, .code yX2_headOf cX2_headOf 5 (some .int), .fieldLink RX2 26 "PairThreads$Threads" "size" "I", .fieldLink RX2 20 "PairThreads$Threads" "before" "[[I", .methodLink RX1 65 yX1_reach, .instanceMethod yX1_reach, .selects RX1 yX1_reach yX1_reach, .initialized RX1, .code yX1_reach cX1_reach 3 none, .fieldLink RX1 15 "PairThreads$Spread" "rowTo" "[I", .fieldLink RX1 9 "PairThreads$Spread" "reached" "[I", .fieldLink RX1 27 "PairThreads$Spread" "found" "I"] ++ wsX10 ++ wsX20)
def wsX1_spreadFrom : List Cond := .code yX1_spreadFrom cX1_spreadFrom 7 none :: ([.fieldLink RX1 27 "PairThreads$Spread" "found" "I", .fieldLink RX1 9 "PairThreads$Spread" "reached" "[I", .fieldLink RX1 15 "PairThreads$Spread" "rowTo" "[I", .methodLink RX1 58 yX1_walk, .instanceMethod yX1_walk, .selects RX1 yX1_walk yX1_walk, .initialized RX1, .code yX1_walk cX1_walk 7 none, .fieldLink RX1 20 "PairThreads$Spread" "walked" "[[I", .methodLink RX1 62 yX2_headOf, .instanceMethod yX2_headOf, .selects RX2 yX2_headOf yX2_headOf, .initialized RX2, .code yX2_headOf cX2_headOf 5 (some .int), .fieldLink RX2 26 "PairThreads$Threads" "size" "I", .fieldLink RX2 20 "PairThreads$Threads" "before" "[[I", .methodLink RX1 65 yX1_reach, .instanceMethod yX1_reach, .selects RX1 yX1_reach yX1_reach, .code yX1_reach cX1_reach 3 none] ++ wsX10 ++ wsX20)
def wsX1_start_r1 : List Cond := [Cond.methodLink RX1 36 yX1_forget, Cond.instanceMethod yX1_forget, Cond.selects RX1 yX1_forget yX1_forget, Cond.initialized RX1, Cond.code yX1_forget cX1_forget 1 none, Cond.fieldLink RX1 27 "PairThreads$Spread" "found" "I", Cond.fieldLink RX1 15 "PairThreads$Spread" "rowTo" "[I", Cond.fieldLink RX1 20 "PairThreads$Spread" "walked" "[[I", Cond.methodLink RX1 52 yJ7_fill_53178, Cond.static yJ7_fill_53178, Cond.initialized RJ7, Cond.code yJ7_fill_53178 cJ7_fill_53178 4 none, Cond.methodLink RX1 48 yX2_firstOf, Cond.instanceMethod yX2_firstOf, Cond.selects RX2 yX2_firstOf yX2_firstOf, Cond.initialized RX2, Cond.code yX2_firstOf cX2_firstOf 4 (some .int), Cond.fieldLink RX2 26 "PairThreads$Threads" "size" "I", Cond.fieldLink RX2 17 "PairThreads$Threads" "number" "[[I", Cond.fieldLink RX2 9 "PairThreads$Threads" "order" "[I", Cond.methodLink RX1 45 yX1_spreadFrom, Cond.instanceMethod yX1_spreadFrom, Cond.selects RX1 yX1_spreadFrom yX1_spreadFrom, Cond.code yX1_spreadFrom cX1_spreadFrom 7 none]
def wsX1_start_r2 : List Cond := [Cond.fieldLink RX1 9 "PairThreads$Spread" "reached" "[I", Cond.methodLink RX1 58 yX1_walk, Cond.instanceMethod yX1_walk, Cond.selects RX1 yX1_walk yX1_walk, Cond.code yX1_walk cX1_walk 7 none, Cond.methodLink RX1 62 yX2_headOf, Cond.instanceMethod yX2_headOf, Cond.selects RX2 yX2_headOf yX2_headOf, Cond.code yX2_headOf cX2_headOf 5 (some .int), Cond.fieldLink RX2 20 "PairThreads$Threads" "before" "[[I", Cond.methodLink RX1 65 yX1_reach, Cond.instanceMethod yX1_reach, Cond.selects RX1 yX1_reach yX1_reach, Cond.code yX1_reach cX1_reach 3 none]
def wsX1_start : List Cond := .code yX1_start cX1_start 5 none :: ((wsX1_start_r1 ++ wsX1_start_r2) ++ wsX10 ++ wsX20)
def wsX1_partOf_r1 : List Cond := [Cond.fieldLink RX1 27 "PairThreads$Spread" "found" "I", Cond.methodLink RX1 23 yX1_start, Cond.instanceMethod yX1_start, Cond.selects RX1 yX1_start yX1_start, Cond.initialized RX1, Cond.code yX1_start cX1_start 5 none, Cond.methodLink RX1 36 yX1_forget, Cond.instanceMethod yX1_forget, Cond.selects RX1 yX1_forget yX1_forget, Cond.code yX1_forget cX1_forget 1 none, Cond.fieldLink RX1 15 "PairThreads$Spread" "rowTo" "[I", Cond.fieldLink RX1 20 "PairThreads$Spread" "walked" "[[I", Cond.methodLink RX1 52 yJ7_fill_53178, Cond.static yJ7_fill_53178, Cond.initialized RJ7, Cond.code yJ7_fill_53178 cJ7_fill_53178 4 none, Cond.methodLink RX1 48 yX2_firstOf, Cond.instanceMethod yX2_firstOf, Cond.selects RX2 yX2_firstOf yX2_firstOf, Cond.initialized RX2, Cond.code yX2_firstOf cX2_firstOf 4 (some .int), Cond.fieldLink RX2 26 "PairThreads$Threads" "size" "I", Cond.fieldLink RX2 17 "PairThreads$Threads" "number" "[[I", Cond.fieldLink RX2 9 "PairThreads$Threads" "order" "[I"]
def wsX1_partOf_r2 : List Cond := [Cond.methodLink RX1 45 yX1_spreadFrom, Cond.instanceMethod yX1_spreadFrom, Cond.selects RX1 yX1_spreadFrom yX1_spreadFrom, Cond.code yX1_spreadFrom cX1_spreadFrom 7 none, Cond.fieldLink RX1 9 "PairThreads$Spread" "reached" "[I", Cond.methodLink RX1 58 yX1_walk, Cond.instanceMethod yX1_walk, Cond.selects RX1 yX1_walk yX1_walk, Cond.code yX1_walk cX1_walk 7 none, Cond.methodLink RX1 62 yX2_headOf, Cond.instanceMethod yX2_headOf, Cond.selects RX2 yX2_headOf yX2_headOf, Cond.code yX2_headOf cX2_headOf 5 (some .int), Cond.fieldLink RX2 20 "PairThreads$Threads" "before" "[[I", Cond.methodLink RX1 65 yX1_reach, Cond.instanceMethod yX1_reach, Cond.selects RX1 yX1_reach yX1_reach, Cond.code yX1_reach cX1_reach 3 none]
def wsX1_partOf : List Cond := .code yX1_partOf cX1_partOf 4 (some .int) :: ((wsX1_partOf_r1 ++ wsX1_partOf_r2) ++ wsX10 ++ wsX20)
def wsX1_leastRow_r1 : List Cond := [Cond.fieldLink RX1 27 "PairThreads$Spread" "found" "I", Cond.fieldLink RX1 9 "PairThreads$Spread" "reached" "[I", Cond.fieldLink RX1 15 "PairThreads$Spread" "rowTo" "[I", Cond.methodLink RX1 23 yX1_start, Cond.instanceMethod yX1_start, Cond.selects RX1 yX1_start yX1_start, Cond.initialized RX1, Cond.code yX1_start cX1_start 5 none, Cond.methodLink RX1 36 yX1_forget, Cond.instanceMethod yX1_forget, Cond.selects RX1 yX1_forget yX1_forget, Cond.code yX1_forget cX1_forget 1 none, Cond.fieldLink RX1 20 "PairThreads$Spread" "walked" "[[I", Cond.methodLink RX1 52 yJ7_fill_53178, Cond.static yJ7_fill_53178, Cond.initialized RJ7, Cond.code yJ7_fill_53178 cJ7_fill_53178 4 none, Cond.methodLink RX1 48 yX2_firstOf, Cond.instanceMethod yX2_firstOf, Cond.selects RX2 yX2_firstOf yX2_firstOf, Cond.initialized RX2, Cond.code yX2_firstOf cX2_firstOf 4 (some .int), Cond.fieldLink RX2 26 "PairThreads$Threads" "size" "I", Cond.fieldLink RX2 17 "PairThreads$Threads" "number" "[[I"]
def wsX1_leastRow_r2 : List Cond := [Cond.fieldLink RX2 9 "PairThreads$Threads" "order" "[I", Cond.methodLink RX1 45 yX1_spreadFrom, Cond.instanceMethod yX1_spreadFrom, Cond.selects RX1 yX1_spreadFrom yX1_spreadFrom, Cond.code yX1_spreadFrom cX1_spreadFrom 7 none, Cond.methodLink RX1 58 yX1_walk, Cond.instanceMethod yX1_walk, Cond.selects RX1 yX1_walk yX1_walk, Cond.code yX1_walk cX1_walk 7 none, Cond.methodLink RX1 62 yX2_headOf, Cond.instanceMethod yX2_headOf, Cond.selects RX2 yX2_headOf yX2_headOf, Cond.code yX2_headOf cX2_headOf 5 (some .int), Cond.fieldLink RX2 20 "PairThreads$Threads" "before" "[[I", Cond.methodLink RX1 65 yX1_reach, Cond.instanceMethod yX1_reach, Cond.selects RX1 yX1_reach yX1_reach, Cond.code yX1_reach cX1_reach 3 none]
def wsX1_leastRow : List Cond := .code yX1_leastRow cX1_leastRow 7 (some .int) :: ((wsX1_leastRow_r1 ++ wsX1_leastRow_r2) ++ wsX10 ++ wsX20)
def wsX1_allParts_r1 : List Cond := [Cond.fieldLink RX1 15 "PairThreads$Spread" "rowTo" "[I", Cond.methodLink RX1 36 yX1_forget, Cond.instanceMethod yX1_forget, Cond.selects RX1 yX1_forget yX1_forget, Cond.initialized RX1, Cond.code yX1_forget cX1_forget 1 none, Cond.fieldLink RX1 27 "PairThreads$Spread" "found" "I", Cond.fieldLink RX1 20 "PairThreads$Spread" "walked" "[[I", Cond.methodLink RX1 52 yJ7_fill_53178, Cond.static yJ7_fill_53178, Cond.initialized RJ7, Cond.code yJ7_fill_53178 cJ7_fill_53178 4 none, Cond.methodLink RX1 45 yX1_spreadFrom, Cond.instanceMethod yX1_spreadFrom, Cond.selects RX1 yX1_spreadFrom yX1_spreadFrom, Cond.code yX1_spreadFrom cX1_spreadFrom 7 none, Cond.fieldLink RX1 9 "PairThreads$Spread" "reached" "[I", Cond.methodLink RX1 58 yX1_walk, Cond.instanceMethod yX1_walk, Cond.selects RX1 yX1_walk yX1_walk, Cond.code yX1_walk cX1_walk 7 none, Cond.methodLink RX1 62 yX2_headOf, Cond.instanceMethod yX2_headOf, Cond.selects RX2 yX2_headOf yX2_headOf]
def wsX1_allParts_r2 : List Cond := [Cond.initialized RX2, Cond.code yX2_headOf cX2_headOf 5 (some .int), Cond.fieldLink RX2 26 "PairThreads$Threads" "size" "I", Cond.fieldLink RX2 20 "PairThreads$Threads" "before" "[[I", Cond.methodLink RX1 65 yX1_reach, Cond.instanceMethod yX1_reach, Cond.selects RX1 yX1_reach yX1_reach, Cond.code yX1_reach cX1_reach 3 none]
def wsX1_allParts : List Cond := .code yX1_allParts cX1_allParts 5 (some .int) :: ((wsX1_allParts_r1 ++ wsX1_allParts_r2) ++ wsX20 ++ wsX10)
def wsX2_init : List Cond := .code yX2_init cX2_init 2 none :: ([.methodLink RX2 3 objectInit, .instanceMethod objectInit, .code objectInit ⟨#[0xb1]⟩ 1 none, .arrayClass .int, .fieldLink RX2 9 "PairThreads$Threads" "order" "[I", .classLink RX2 15 "[[I", .fieldLink RX2 17 "PairThreads$Threads" "number" "[[I", .fieldLink RX2 20 "PairThreads$Threads" "before" "[[I", .fieldLink RX2 23 "PairThreads$Threads" "after" "[[I"] ++ wsX20)
def wsX2_placeOf : List Cond := .code yX2_placeOf cX2_placeOf 5 (some .int) :: ([.fieldLink RX2 26 "PairThreads$Threads" "size" "I", .fieldLink RX2 9 "PairThreads$Threads" "order" "[I", .fieldLink RX2 17 "PairThreads$Threads" "number" "[[I"] ++ wsX20)
def wsX2_lastOf : List Cond := .code yX2_lastOf cX2_lastOf 4 (some .int) :: ([.fieldLink RX2 26 "PairThreads$Threads" "size" "I", .fieldLink RX2 17 "PairThreads$Threads" "number" "[[I", .fieldLink RX2 9 "PairThreads$Threads" "order" "[I"] ++ wsX20)
def wsX2_lengthOf : List Cond := .code yX2_lengthOf cX2_lengthOf 6 (some .int) :: ([.fieldLink RX2 26 "PairThreads$Threads" "size" "I", .fieldLink RX2 23 "PairThreads$Threads" "after" "[[I", .methodLink RX2 30 yX2_firstOf, .instanceMethod yX2_firstOf, .selects RX2 yX2_firstOf yX2_firstOf, .initialized RX2, .code yX2_firstOf cX2_firstOf 4 (some .int), .fieldLink RX2 17 "PairThreads$Threads" "number" "[[I", .fieldLink RX2 9 "PairThreads$Threads" "order" "[I"] ++ wsX20)
def wsX2_inThread : List Cond := .code yX2_inThread cX2_inThread 6 (some .int) :: ([.fieldLink RX2 26 "PairThreads$Threads" "size" "I", .fieldLink RX2 23 "PairThreads$Threads" "after" "[[I", .methodLink RX2 30 yX2_firstOf, .instanceMethod yX2_firstOf, .selects RX2 yX2_firstOf yX2_firstOf, .initialized RX2, .code yX2_firstOf cX2_firstOf 4 (some .int), .fieldLink RX2 17 "PairThreads$Threads" "number" "[[I", .fieldLink RX2 9 "PairThreads$Threads" "order" "[I"] ++ wsX20)
def wsX2_threadsOn : List Cond := .code yX2_threadsOn cX2_threadsOn 4 (some .int) :: ([.fieldLink RX2 26 "PairThreads$Threads" "size" "I", .fieldLink RX2 20 "PairThreads$Threads" "before" "[[I", .fieldLink RX2 9 "PairThreads$Threads" "order" "[I"] ++ wsX20)
def wsX2_tieOn : List Cond := .code yX2_tieOn cX2_tieOn 5 none :: ([.fieldLink RX2 17 "PairThreads$Threads" "number" "[[I", .fieldLink RX2 20 "PairThreads$Threads" "before" "[[I", .fieldLink RX2 23 "PairThreads$Threads" "after" "[[I", .methodLink RX2 38 yX2_lastOf, .instanceMethod yX2_lastOf, .selects RX2 yX2_lastOf yX2_lastOf, .initialized RX2, .code yX2_lastOf cX2_lastOf 4 (some .int), .fieldLink RX2 26 "PairThreads$Threads" "size" "I", .fieldLink RX2 9 "PairThreads$Threads" "order" "[I"] ++ wsX20)
def wsX2_append : List Cond := .code yX2_append cX2_append 4 none :: ([.fieldLink RX2 9 "PairThreads$Threads" "order" "[I", .fieldLink RX2 26 "PairThreads$Threads" "size" "I", .methodLink RX2 34 yX2_tieOn, .instanceMethod yX2_tieOn, .selects RX2 yX2_tieOn yX2_tieOn, .initialized RX2, .code yX2_tieOn cX2_tieOn 5 none, .fieldLink RX2 17 "PairThreads$Threads" "number" "[[I", .fieldLink RX2 20 "PairThreads$Threads" "before" "[[I", .fieldLink RX2 23 "PairThreads$Threads" "after" "[[I", .methodLink RX2 38 yX2_lastOf, .instanceMethod yX2_lastOf, .selects RX2 yX2_lastOf yX2_lastOf, .code yX2_lastOf cX2_lastOf 4 (some .int)] ++ wsX20)
def wsX2_untie : List Cond := .code yX2_untie cX2_untie 5 none :: ([.fieldLink RX2 20 "PairThreads$Threads" "before" "[[I", .fieldLink RX2 23 "PairThreads$Threads" "after" "[[I"] ++ wsX20)
def wsX2_takeOut : List Cond := .code yX2_takeOut cX2_takeOut 3 none :: ([.fieldLink RX2 9 "PairThreads$Threads" "order" "[I", .fieldLink RX2 26 "PairThreads$Threads" "size" "I", .methodLink RX2 45 arraycopyName, .native arraycopyName, .static arraycopyName, .initialized "java/lang/System", .methodLink RX2 41 yX2_untie, .instanceMethod yX2_untie, .selects RX2 yX2_untie yX2_untie, .initialized RX2, .code yX2_untie cX2_untie 5 none, .fieldLink RX2 20 "PairThreads$Threads" "before" "[[I", .fieldLink RX2 23 "PairThreads$Threads" "after" "[[I"] ++ wsX20)
def wsX2_takeOutAll : List Cond := .code yX2_takeOutAll cX2_takeOutAll 5 (some .int) :: ([.fieldLink RX2 26 "PairThreads$Threads" "size" "I", .fieldLink RX2 17 "PairThreads$Threads" "number" "[[I", .fieldLink RX2 9 "PairThreads$Threads" "order" "[I", .methodLink RX2 51 yX2_takeOut, .instanceMethod yX2_takeOut, .selects RX2 yX2_takeOut yX2_takeOut, .initialized RX2, .code yX2_takeOut cX2_takeOut 3 none, .methodLink RX2 45 arraycopyName, .native arraycopyName, .static arraycopyName, .initialized "java/lang/System", .methodLink RX2 41 yX2_untie, .instanceMethod yX2_untie, .selects RX2 yX2_untie yX2_untie, .code yX2_untie cX2_untie 5 none, .fieldLink RX2 20 "PairThreads$Threads" "before" "[[I", .fieldLink RX2 23 "PairThreads$Threads" "after" "[[I"] ++ wsX20)
def wsX2_moveAll_r1 : List Cond := [Cond.fieldLink RX2 26 "PairThreads$Threads" "size" "I", Cond.fieldLink RX2 9 "PairThreads$Threads" "order" "[I", Cond.fieldLink RX2 17 "PairThreads$Threads" "number" "[[I", Cond.methodLink RX2 51 yX2_takeOut, Cond.instanceMethod yX2_takeOut, Cond.selects RX2 yX2_takeOut yX2_takeOut, Cond.initialized RX2, Cond.code yX2_takeOut cX2_takeOut 3 none, Cond.methodLink RX2 45 arraycopyName, Cond.native arraycopyName, Cond.static arraycopyName, Cond.initialized "java/lang/System", Cond.methodLink RX2 41 yX2_untie, Cond.instanceMethod yX2_untie, Cond.selects RX2 yX2_untie yX2_untie, Cond.code yX2_untie cX2_untie 5 none, Cond.fieldLink RX2 20 "PairThreads$Threads" "before" "[[I", Cond.fieldLink RX2 23 "PairThreads$Threads" "after" "[[I", Cond.methodLink RX2 55 yX2_placeOf, Cond.instanceMethod yX2_placeOf, Cond.selects RX2 yX2_placeOf yX2_placeOf, Cond.code yX2_placeOf cX2_placeOf 5 (some .int), Cond.methodLink RX2 58 yX2_append, Cond.instanceMethod yX2_append]
def wsX2_moveAll_r2 : List Cond := [Cond.selects RX2 yX2_append yX2_append, Cond.code yX2_append cX2_append 4 none, Cond.methodLink RX2 34 yX2_tieOn, Cond.instanceMethod yX2_tieOn, Cond.selects RX2 yX2_tieOn yX2_tieOn, Cond.code yX2_tieOn cX2_tieOn 5 none, Cond.methodLink RX2 38 yX2_lastOf, Cond.instanceMethod yX2_lastOf, Cond.selects RX2 yX2_lastOf yX2_lastOf, Cond.code yX2_lastOf cX2_lastOf 4 (some .int)]
def wsX2_moveAll : List Cond := .code yX2_moveAll cX2_moveAll 11 (some .int) :: ((wsX2_moveAll_r1 ++ wsX2_moveAll_r2) ++ wsX20)
def wsX2_isSoundFrom : List Cond := .code yX2_isSoundFrom cX2_isSoundFrom 8 (some .boolean) :: ([.fieldLink RX2 9 "PairThreads$Threads" "order" "[I", .fieldLink RX2 17 "PairThreads$Threads" "number" "[[I", .fieldLink RX2 26 "PairThreads$Threads" "size" "I", .fieldLink RX2 20 "PairThreads$Threads" "before" "[[I", .fieldLink RX2 23 "PairThreads$Threads" "after" "[[I"] ++ wsX20)
def wsX2_areSound : List Cond := .code yX2_areSound cX2_areSound 4 (some .boolean) :: ([.fieldLink RX2 26 "PairThreads$Threads" "size" "I", .fieldLink RX2 9 "PairThreads$Threads" "order" "[I", .fieldLink RX2 17 "PairThreads$Threads" "number" "[[I", .methodLink RX2 30 yX2_firstOf, .instanceMethod yX2_firstOf, .selects RX2 yX2_firstOf yX2_firstOf, .initialized RX2, .code yX2_firstOf cX2_firstOf 4 (some .int), .methodLink RX2 61 yX2_isSoundFrom, .instanceMethod yX2_isSoundFrom, .selects RX2 yX2_isSoundFrom yX2_isSoundFrom, .code yX2_isSoundFrom cX2_isSoundFrom 8 (some .boolean), .fieldLink RX2 20 "PairThreads$Threads" "before" "[[I", .fieldLink RX2 23 "PairThreads$Threads" "after" "[[I"] ++ wsX20)
def wsX3_init_r1 : List Cond := [Cond.methodLink RX3 1 objectInit, Cond.instanceMethod objectInit, Cond.code objectInit ⟨#[0xb1]⟩ 1 none, Cond.classLink RX3 7 RX2, Cond.instantiable RX2 5, Cond.initialized RX2, Cond.fieldLink RX3 10 "PairThreads" "pairs" "LPairThreads$Threads;", Cond.classLink RX3 16 RX1, Cond.instantiable RX1 4, Cond.initialized RX1, Cond.fieldLink RX3 19 "PairThreads" "spread" "LPairThreads$Spread;", Cond.classLink RX3 23 RX0, Cond.instantiable RX0 6, Cond.initialized RX0, Cond.fieldLink RX3 26 "PairThreads" "matching" "LPairThreads$Matching;", Cond.methodLink RX3 9 yX2_init, Cond.instanceMethod yX2_init, Cond.code yX2_init cX2_init 2 none, Cond.methodLink RX2 3 objectInit, Cond.arrayClass .int, Cond.fieldLink RX2 9 "PairThreads$Threads" "order" "[I", Cond.classLink RX2 15 "[[I", Cond.fieldLink RX2 17 "PairThreads$Threads" "number" "[[I", Cond.fieldLink RX2 20 "PairThreads$Threads" "before" "[[I"]
def wsX3_init_r2 : List Cond := [Cond.fieldLink RX2 23 "PairThreads$Threads" "after" "[[I", Cond.instanceMethod yX1_init, Cond.code yX1_init cX1_init 1 none, Cond.methodLink RX1 3 objectInit, Cond.fieldLink RX1 9 "PairThreads$Spread" "reached" "[I", Cond.fieldLink RX1 15 "PairThreads$Spread" "rowTo" "[I", Cond.classLink RX1 18 "[[I", Cond.fieldLink RX1 20 "PairThreads$Spread" "walked" "[[I", Cond.instanceMethod yX0_init, Cond.code yX0_init cX0_init 1 none, Cond.methodLink RX0 3 objectInit, Cond.classLink RX0 9 "[[I", Cond.fieldLink RX0 11 "PairThreads$Matching" "head" "[[I", Cond.fieldLink RX0 16 "PairThreads$Matching" "chosen" "[[I", Cond.fieldLink RX0 19 "PairThreads$Matching" "waiting" "[I", Cond.fieldLink RX0 23 "PairThreads$Matching" "cause" "[I", Cond.fieldLink RX0 26 "PairThreads$Matching" "seen" "[I"]
def wsX3_init : List Cond := .code yX3_init cX3_init 1 none :: ((wsX3_init_r1 ++ wsX3_init_r2) ++ wsX20 ++ wsX30 ++ wsX10 ++ wsX00)
def wsX3_link : List Cond := .code yX3_link cX3_link 3 (some .int) :: ([.fieldLink RX3 10 "PairThreads" "pairs" "LPairThreads$Threads;", .methodLink RX3 30 yX2_placeOf, .instanceMethod yX2_placeOf, .selects RX2 yX2_placeOf yX2_placeOf, .initialized RX2, .code yX2_placeOf cX2_placeOf 5 (some .int), .fieldLink RX2 26 "PairThreads$Threads" "size" "I", .fieldLink RX2 9 "PairThreads$Threads" "order" "[I", .fieldLink RX2 17 "PairThreads$Threads" "number" "[[I", .methodLink RX3 38 yX2_append, .instanceMethod yX2_append, .selects RX2 yX2_append yX2_append, .code yX2_append cX2_append 4 none, .methodLink RX2 34 yX2_tieOn, .instanceMethod yX2_tieOn, .selects RX2 yX2_tieOn yX2_tieOn, .code yX2_tieOn cX2_tieOn 5 none, .fieldLink RX2 20 "PairThreads$Threads" "before" "[[I", .fieldLink RX2 23 "PairThreads$Threads" "after" "[[I", .methodLink RX2 38 yX2_lastOf, .instanceMethod yX2_lastOf, .selects RX2 yX2_lastOf yX2_lastOf, .code yX2_lastOf cX2_lastOf 4 (some .int)] ++ wsX30 ++ wsX20)
def wsX3_unlink : List Cond := .code yX3_unlink cX3_unlink 4 (some .int) :: ([.fieldLink RX3 10 "PairThreads" "pairs" "LPairThreads$Threads;", .methodLink RX3 30 yX2_placeOf, .instanceMethod yX2_placeOf, .selects RX2 yX2_placeOf yX2_placeOf, .initialized RX2, .code yX2_placeOf cX2_placeOf 5 (some .int), .fieldLink RX2 26 "PairThreads$Threads" "size" "I", .fieldLink RX2 9 "PairThreads$Threads" "order" "[I", .fieldLink RX2 17 "PairThreads$Threads" "number" "[[I", .methodLink RX3 42 yX2_takeOut, .instanceMethod yX2_takeOut, .selects RX2 yX2_takeOut yX2_takeOut, .code yX2_takeOut cX2_takeOut 3 none, .methodLink RX2 45 arraycopyName, .native arraycopyName, .static arraycopyName, .initialized "java/lang/System", .methodLink RX2 41 yX2_untie, .instanceMethod yX2_untie, .selects RX2 yX2_untie yX2_untie, .code yX2_untie cX2_untie 5 none, .fieldLink RX2 20 "PairThreads$Threads" "before" "[[I", .fieldLink RX2 23 "PairThreads$Threads" "after" "[[I"] ++ wsX30 ++ wsX20)
def wsX3_place : List Cond := .code yX3_place cX3_place 3 (some .int) :: ([.fieldLink RX3 10 "PairThreads" "pairs" "LPairThreads$Threads;", .methodLink RX3 30 yX2_placeOf, .instanceMethod yX2_placeOf, .selects RX2 yX2_placeOf yX2_placeOf, .initialized RX2, .code yX2_placeOf cX2_placeOf 5 (some .int), .fieldLink RX2 26 "PairThreads$Threads" "size" "I", .fieldLink RX2 9 "PairThreads$Threads" "order" "[I", .fieldLink RX2 17 "PairThreads$Threads" "number" "[[I"] ++ wsX30 ++ wsX20)
def wsX3_isSide : List Cond := .code yX3_isSide cX3_isSide 1 (some .boolean) :: ([])
def wsX3_degree : List Cond := .code yX3_degree cX3_degree 3 (some .int) :: ([.fieldLink RX3 10 "PairThreads" "pairs" "LPairThreads$Threads;", .methodLink RX3 46 yX3_isSide, .static yX3_isSide, .initialized RX3, .code yX3_isSide cX3_isSide 1 (some .boolean), .methodLink RX3 50 yX2_lengthOf, .instanceMethod yX2_lengthOf, .selects RX2 yX2_lengthOf yX2_lengthOf, .initialized RX2, .code yX2_lengthOf cX2_lengthOf 6 (some .int), .fieldLink RX2 26 "PairThreads$Threads" "size" "I", .fieldLink RX2 23 "PairThreads$Threads" "after" "[[I", .methodLink RX2 30 yX2_firstOf, .instanceMethod yX2_firstOf, .selects RX2 yX2_firstOf yX2_firstOf, .code yX2_firstOf cX2_firstOf 4 (some .int), .fieldLink RX2 17 "PairThreads$Threads" "number" "[[I", .fieldLink RX2 9 "PairThreads$Threads" "order" "[I"] ++ wsX30 ++ wsX20)
def wsX3_other : List Cond := .code yX3_other cX3_other 5 (some .int) :: ([.fieldLink RX3 10 "PairThreads" "pairs" "LPairThreads$Threads;", .methodLink RX3 46 yX3_isSide, .static yX3_isSide, .initialized RX3, .code yX3_isSide cX3_isSide 1 (some .boolean), .methodLink RX3 53 yX2_inThread, .instanceMethod yX2_inThread, .selects RX2 yX2_inThread yX2_inThread, .initialized RX2, .code yX2_inThread cX2_inThread 6 (some .int), .fieldLink RX2 26 "PairThreads$Threads" "size" "I", .fieldLink RX2 23 "PairThreads$Threads" "after" "[[I", .methodLink RX2 30 yX2_firstOf, .instanceMethod yX2_firstOf, .selects RX2 yX2_firstOf yX2_firstOf, .code yX2_firstOf cX2_firstOf 4 (some .int), .fieldLink RX2 17 "PairThreads$Threads" "number" "[[I", .fieldLink RX2 9 "PairThreads$Threads" "order" "[I"] ++ wsX30 ++ wsX20)
def wsX3_drop_r1 : List Cond := [Cond.fieldLink RX3 10 "PairThreads" "pairs" "LPairThreads$Threads;", Cond.methodLink RX3 46 yX3_isSide, Cond.static yX3_isSide, Cond.initialized RX3, Cond.code yX3_isSide cX3_isSide 1 (some .boolean), Cond.methodLink RX3 61 yX2_takeOutAll, Cond.instanceMethod yX2_takeOutAll, Cond.selects RX2 yX2_takeOutAll yX2_takeOutAll, Cond.initialized RX2, Cond.code yX2_takeOutAll cX2_takeOutAll 5 (some .int), Cond.fieldLink RX2 26 "PairThreads$Threads" "size" "I", Cond.fieldLink RX2 17 "PairThreads$Threads" "number" "[[I", Cond.fieldLink RX2 9 "PairThreads$Threads" "order" "[I", Cond.methodLink RX2 51 yX2_takeOut, Cond.instanceMethod yX2_takeOut, Cond.selects RX2 yX2_takeOut yX2_takeOut, Cond.code yX2_takeOut cX2_takeOut 3 none, Cond.methodLink RX2 45 arraycopyName, Cond.native arraycopyName, Cond.static arraycopyName, Cond.initialized "java/lang/System", Cond.methodLink RX2 41 yX2_untie, Cond.instanceMethod yX2_untie, Cond.selects RX2 yX2_untie yX2_untie]
def wsX3_drop_r2 : List Cond := [Cond.code yX2_untie cX2_untie 5 none, Cond.fieldLink RX2 20 "PairThreads$Threads" "before" "[[I", Cond.fieldLink RX2 23 "PairThreads$Threads" "after" "[[I"]
def wsX3_drop : List Cond := .code yX3_drop cX3_drop 3 (some .int) :: ((wsX3_drop_r1 ++ wsX3_drop_r2) ++ wsX30 ++ wsX20)
def wsX3_rename_r1 : List Cond := [Cond.fieldLink RX3 10 "PairThreads" "pairs" "LPairThreads$Threads;", Cond.methodLink RX3 46 yX3_isSide, Cond.static yX3_isSide, Cond.initialized RX3, Cond.code yX3_isSide cX3_isSide 1 (some .boolean), Cond.methodLink RX3 64 yX2_moveAll, Cond.instanceMethod yX2_moveAll, Cond.selects RX2 yX2_moveAll yX2_moveAll, Cond.initialized RX2, Cond.code yX2_moveAll cX2_moveAll 11 (some .int), Cond.fieldLink RX2 26 "PairThreads$Threads" "size" "I", Cond.fieldLink RX2 9 "PairThreads$Threads" "order" "[I", Cond.fieldLink RX2 17 "PairThreads$Threads" "number" "[[I", Cond.methodLink RX2 51 yX2_takeOut, Cond.instanceMethod yX2_takeOut, Cond.selects RX2 yX2_takeOut yX2_takeOut, Cond.code yX2_takeOut cX2_takeOut 3 none, Cond.methodLink RX2 45 arraycopyName, Cond.native arraycopyName, Cond.static arraycopyName, Cond.initialized "java/lang/System", Cond.methodLink RX2 41 yX2_untie, Cond.instanceMethod yX2_untie, Cond.selects RX2 yX2_untie yX2_untie]
def wsX3_rename_r2 : List Cond := [Cond.code yX2_untie cX2_untie 5 none, Cond.fieldLink RX2 20 "PairThreads$Threads" "before" "[[I", Cond.fieldLink RX2 23 "PairThreads$Threads" "after" "[[I", Cond.methodLink RX2 55 yX2_placeOf, Cond.instanceMethod yX2_placeOf, Cond.selects RX2 yX2_placeOf yX2_placeOf, Cond.code yX2_placeOf cX2_placeOf 5 (some .int), Cond.methodLink RX2 58 yX2_append, Cond.instanceMethod yX2_append, Cond.selects RX2 yX2_append yX2_append, Cond.code yX2_append cX2_append 4 none, Cond.methodLink RX2 34 yX2_tieOn, Cond.instanceMethod yX2_tieOn, Cond.selects RX2 yX2_tieOn yX2_tieOn, Cond.code yX2_tieOn cX2_tieOn 5 none, Cond.methodLink RX2 38 yX2_lastOf, Cond.instanceMethod yX2_lastOf, Cond.selects RX2 yX2_lastOf yX2_lastOf, Cond.code yX2_lastOf cX2_lastOf 4 (some .int)]
def wsX3_rename : List Cond := .code yX3_rename cX3_rename 4 (some .int) :: ((wsX3_rename_r1 ++ wsX3_rename_r2) ++ wsX30 ++ wsX20)
def wsX3_at : List Cond := .code yX3_at cX3_at 3 (some .int) :: ([.fieldLink RX3 10 "PairThreads" "pairs" "LPairThreads$Threads;", .methodLink RX3 46 yX3_isSide, .static yX3_isSide, .initialized RX3, .code yX3_isSide cX3_isSide 1 (some .boolean)] ++ wsX30 ++ wsX20)
def wsX3_count_r1 : List Cond := [Cond.fieldLink RX3 10 "PairThreads" "pairs" "LPairThreads$Threads;", Cond.fieldLink RX3 26 "PairThreads" "matching" "LPairThreads$Matching;", Cond.fieldLink RX3 19 "PairThreads" "spread" "LPairThreads$Spread;", Cond.methodLink RX3 71 yX2_threadsOn, Cond.instanceMethod yX2_threadsOn, Cond.selects RX2 yX2_threadsOn yX2_threadsOn, Cond.initialized RX2, Cond.code yX2_threadsOn cX2_threadsOn 4 (some .int), Cond.fieldLink RX2 26 "PairThreads$Threads" "size" "I", Cond.fieldLink RX2 20 "PairThreads$Threads" "before" "[[I", Cond.fieldLink RX2 9 "PairThreads$Threads" "order" "[I", Cond.methodLink RX3 75 yX0_largest, Cond.instanceMethod yX0_largest, Cond.selects RX0 yX0_largest yX0_largest, Cond.initialized RX0, Cond.code yX0_largest cX0_largest 4 (some .int), Cond.methodLink RX0 29 yX0_findHeads, Cond.instanceMethod yX0_findHeads, Cond.selects RX0 yX0_findHeads yX0_findHeads, Cond.code yX0_findHeads cX0_findHeads 6 none, Cond.fieldLink RX0 11 "PairThreads$Matching" "head" "[[I", Cond.methodLink RX0 33 yX0_takeFree, Cond.instanceMethod yX0_takeFree, Cond.selects RX0 yX0_takeFree yX0_takeFree]
def wsX3_count_r2 : List Cond := [Cond.code yX0_takeFree cX0_takeFree 5 (some .int), Cond.fieldLink RX0 16 "PairThreads$Matching" "chosen" "[[I", Cond.methodLink RX0 53 yJ7_fill_53178, Cond.static yJ7_fill_53178, Cond.initialized RJ7, Cond.code yJ7_fill_53178 cJ7_fill_53178 4 none, Cond.methodLink RX0 59 yX0_chosenOf, Cond.instanceMethod yX0_chosenOf, Cond.selects RX0 yX0_chosenOf yX0_chosenOf, Cond.code yX0_chosenOf cX0_chosenOf 3 (some .int), Cond.methodLink RX0 63 yX0_choose, Cond.instanceMethod yX0_choose, Cond.selects RX0 yX0_choose yX0_choose, Cond.code yX0_choose cX0_choose 2 none, Cond.methodLink RX0 43 yX0_grow, Cond.instanceMethod yX0_grow, Cond.selects RX0 yX0_grow yX0_grow, Cond.code yX0_grow cX0_grow 5 (some .boolean), Cond.fieldLink RX0 26 "PairThreads$Matching" "seen" "[I", Cond.fieldLink RX0 71 "PairThreads$Matching" "found" "I", Cond.fieldLink RX0 19 "PairThreads$Matching" "waiting" "[I", Cond.methodLink RX0 67 yX0_awaitFree, Cond.instanceMethod yX0_awaitFree, Cond.selects RX0 yX0_awaitFree yX0_awaitFree]
def wsX3_count_r3 : List Cond := [Cond.code yX0_awaitFree cX0_awaitFree 4 none, Cond.methodLink RX0 82 yX0_await, Cond.instanceMethod yX0_await, Cond.selects RX0 yX0_await yX0_await, Cond.code yX0_await cX0_await 3 none, Cond.fieldLink RX0 23 "PairThreads$Matching" "cause" "[I", Cond.methodLink RX0 74 yX0_turn, Cond.instanceMethod yX0_turn, Cond.selects RX0 yX0_turn yX0_turn, Cond.code yX0_turn cX0_turn 5 none, Cond.methodLink RX0 78 yX0_awaitInstead, Cond.instanceMethod yX0_awaitInstead, Cond.selects RX0 yX0_awaitInstead yX0_awaitInstead, Cond.code yX0_awaitInstead cX0_awaitInstead 6 none, Cond.methodLink RX3 79 yX1_allParts, Cond.instanceMethod yX1_allParts, Cond.selects RX1 yX1_allParts yX1_allParts, Cond.initialized RX1, Cond.code yX1_allParts cX1_allParts 5 (some .int), Cond.fieldLink RX1 15 "PairThreads$Spread" "rowTo" "[I", Cond.methodLink RX1 36 yX1_forget, Cond.instanceMethod yX1_forget, Cond.selects RX1 yX1_forget yX1_forget, Cond.code yX1_forget cX1_forget 1 none]
def wsX3_count_r4 : List Cond := [Cond.fieldLink RX1 27 "PairThreads$Spread" "found" "I", Cond.fieldLink RX1 20 "PairThreads$Spread" "walked" "[[I", Cond.methodLink RX1 52 yJ7_fill_53178, Cond.methodLink RX1 45 yX1_spreadFrom, Cond.instanceMethod yX1_spreadFrom, Cond.selects RX1 yX1_spreadFrom yX1_spreadFrom, Cond.code yX1_spreadFrom cX1_spreadFrom 7 none, Cond.fieldLink RX1 9 "PairThreads$Spread" "reached" "[I", Cond.methodLink RX1 58 yX1_walk, Cond.instanceMethod yX1_walk, Cond.selects RX1 yX1_walk yX1_walk, Cond.code yX1_walk cX1_walk 7 none, Cond.methodLink RX1 62 yX2_headOf, Cond.instanceMethod yX2_headOf, Cond.selects RX2 yX2_headOf yX2_headOf, Cond.code yX2_headOf cX2_headOf 5 (some .int), Cond.methodLink RX1 65 yX1_reach, Cond.instanceMethod yX1_reach, Cond.selects RX1 yX1_reach yX1_reach, Cond.code yX1_reach cX1_reach 3 none]
def wsX3_count : List Cond := .code yX3_count cX3_count 2 (some .int) :: ((wsX3_count_r1 ++ (wsX3_count_r2 ++ (wsX3_count_r3 ++ wsX3_count_r4))) ++ wsX30 ++ wsX20 ++ wsX00 ++ wsX10)
def wsX3_part_r1 : List Cond := [Cond.fieldLink RX3 19 "PairThreads" "spread" "LPairThreads$Spread;", Cond.fieldLink RX3 10 "PairThreads" "pairs" "LPairThreads$Threads;", Cond.methodLink RX3 46 yX3_isSide, Cond.static yX3_isSide, Cond.initialized RX3, Cond.code yX3_isSide cX3_isSide 1 (some .boolean), Cond.methodLink RX3 82 yX1_partOf, Cond.instanceMethod yX1_partOf, Cond.selects RX1 yX1_partOf yX1_partOf, Cond.initialized RX1, Cond.code yX1_partOf cX1_partOf 4 (some .int), Cond.fieldLink RX1 27 "PairThreads$Spread" "found" "I", Cond.methodLink RX1 23 yX1_start, Cond.instanceMethod yX1_start, Cond.selects RX1 yX1_start yX1_start, Cond.code yX1_start cX1_start 5 none, Cond.methodLink RX1 36 yX1_forget, Cond.instanceMethod yX1_forget, Cond.selects RX1 yX1_forget yX1_forget, Cond.code yX1_forget cX1_forget 1 none, Cond.fieldLink RX1 15 "PairThreads$Spread" "rowTo" "[I", Cond.fieldLink RX1 20 "PairThreads$Spread" "walked" "[[I", Cond.methodLink RX1 52 yJ7_fill_53178, Cond.static yJ7_fill_53178]
def wsX3_part_r2 : List Cond := [Cond.initialized RJ7, Cond.code yJ7_fill_53178 cJ7_fill_53178 4 none, Cond.methodLink RX1 48 yX2_firstOf, Cond.instanceMethod yX2_firstOf, Cond.selects RX2 yX2_firstOf yX2_firstOf, Cond.initialized RX2, Cond.code yX2_firstOf cX2_firstOf 4 (some .int), Cond.fieldLink RX2 26 "PairThreads$Threads" "size" "I", Cond.fieldLink RX2 17 "PairThreads$Threads" "number" "[[I", Cond.fieldLink RX2 9 "PairThreads$Threads" "order" "[I", Cond.methodLink RX1 45 yX1_spreadFrom, Cond.instanceMethod yX1_spreadFrom, Cond.selects RX1 yX1_spreadFrom yX1_spreadFrom, Cond.code yX1_spreadFrom cX1_spreadFrom 7 none, Cond.fieldLink RX1 9 "PairThreads$Spread" "reached" "[I", Cond.methodLink RX1 58 yX1_walk, Cond.instanceMethod yX1_walk, Cond.selects RX1 yX1_walk yX1_walk, Cond.code yX1_walk cX1_walk 7 none, Cond.methodLink RX1 62 yX2_headOf, Cond.instanceMethod yX2_headOf, Cond.selects RX2 yX2_headOf yX2_headOf, Cond.code yX2_headOf cX2_headOf 5 (some .int), Cond.fieldLink RX2 20 "PairThreads$Threads" "before" "[[I"]
def wsX3_part_r3 : List Cond := [Cond.methodLink RX1 65 yX1_reach, Cond.instanceMethod yX1_reach, Cond.selects RX1 yX1_reach yX1_reach, Cond.code yX1_reach cX1_reach 3 none]
def wsX3_part : List Cond := .code yX3_part cX3_part 3 (some .int) :: ((wsX3_part_r1 ++ (wsX3_part_r2 ++ wsX3_part_r3)) ++ wsX30 ++ wsX10 ++ wsX20)
def wsX3_way_r1 : List Cond := [Cond.fieldLink RX3 19 "PairThreads" "spread" "LPairThreads$Spread;", Cond.fieldLink RX3 10 "PairThreads" "pairs" "LPairThreads$Threads;", Cond.methodLink RX3 46 yX3_isSide, Cond.static yX3_isSide, Cond.initialized RX3, Cond.code yX3_isSide cX3_isSide 1 (some .boolean), Cond.methodLink RX3 86 yX1_leastRow, Cond.instanceMethod yX1_leastRow, Cond.selects RX1 yX1_leastRow yX1_leastRow, Cond.initialized RX1, Cond.code yX1_leastRow cX1_leastRow 7 (some .int), Cond.fieldLink RX1 27 "PairThreads$Spread" "found" "I", Cond.fieldLink RX1 9 "PairThreads$Spread" "reached" "[I", Cond.fieldLink RX1 15 "PairThreads$Spread" "rowTo" "[I", Cond.methodLink RX1 23 yX1_start, Cond.instanceMethod yX1_start, Cond.selects RX1 yX1_start yX1_start, Cond.code yX1_start cX1_start 5 none, Cond.methodLink RX1 36 yX1_forget, Cond.instanceMethod yX1_forget, Cond.selects RX1 yX1_forget yX1_forget, Cond.code yX1_forget cX1_forget 1 none, Cond.fieldLink RX1 20 "PairThreads$Spread" "walked" "[[I", Cond.methodLink RX1 52 yJ7_fill_53178]
def wsX3_way_r2 : List Cond := [Cond.static yJ7_fill_53178, Cond.initialized RJ7, Cond.code yJ7_fill_53178 cJ7_fill_53178 4 none, Cond.methodLink RX1 48 yX2_firstOf, Cond.instanceMethod yX2_firstOf, Cond.selects RX2 yX2_firstOf yX2_firstOf, Cond.initialized RX2, Cond.code yX2_firstOf cX2_firstOf 4 (some .int), Cond.fieldLink RX2 26 "PairThreads$Threads" "size" "I", Cond.fieldLink RX2 17 "PairThreads$Threads" "number" "[[I", Cond.fieldLink RX2 9 "PairThreads$Threads" "order" "[I", Cond.methodLink RX1 45 yX1_spreadFrom, Cond.instanceMethod yX1_spreadFrom, Cond.selects RX1 yX1_spreadFrom yX1_spreadFrom, Cond.code yX1_spreadFrom cX1_spreadFrom 7 none, Cond.methodLink RX1 58 yX1_walk, Cond.instanceMethod yX1_walk, Cond.selects RX1 yX1_walk yX1_walk, Cond.code yX1_walk cX1_walk 7 none, Cond.methodLink RX1 62 yX2_headOf, Cond.instanceMethod yX2_headOf, Cond.selects RX2 yX2_headOf yX2_headOf, Cond.code yX2_headOf cX2_headOf 5 (some .int), Cond.fieldLink RX2 20 "PairThreads$Threads" "before" "[[I"]
def wsX3_way_r3 : List Cond := [Cond.methodLink RX1 65 yX1_reach, Cond.instanceMethod yX1_reach, Cond.selects RX1 yX1_reach yX1_reach, Cond.code yX1_reach cX1_reach 3 none]
def wsX3_way : List Cond := .code yX3_way cX3_way 5 (some .int) :: ((wsX3_way_r1 ++ (wsX3_way_r2 ++ wsX3_way_r3)) ++ wsX30 ++ wsX10 ++ wsX20)
def wsX3_clear : List Cond := .code yX3_clear cX3_clear 2 (some .int) :: ([.fieldLink RX3 10 "PairThreads" "pairs" "LPairThreads$Threads;"] ++ wsX30 ++ wsX20)
def wsX3_check : List Cond := .code yX3_check cX3_check 1 (some .int) :: ([.fieldLink RX3 10 "PairThreads" "pairs" "LPairThreads$Threads;", .methodLink RX3 90 yX2_areSound, .instanceMethod yX2_areSound, .selects RX2 yX2_areSound yX2_areSound, .initialized RX2, .code yX2_areSound cX2_areSound 4 (some .boolean), .fieldLink RX2 26 "PairThreads$Threads" "size" "I", .fieldLink RX2 9 "PairThreads$Threads" "order" "[I", .fieldLink RX2 17 "PairThreads$Threads" "number" "[[I", .methodLink RX2 30 yX2_firstOf, .instanceMethod yX2_firstOf, .selects RX2 yX2_firstOf yX2_firstOf, .code yX2_firstOf cX2_firstOf 4 (some .int), .methodLink RX2 61 yX2_isSoundFrom, .instanceMethod yX2_isSoundFrom, .selects RX2 yX2_isSoundFrom yX2_isSoundFrom, .code yX2_isSoundFrom cX2_isSoundFrom 8 (some .boolean), .fieldLink RX2 20 "PairThreads$Threads" "before" "[[I", .fieldLink RX2 23 "PairThreads$Threads" "after" "[[I"] ++ wsX30 ++ wsX20)
def wsX4_init : List Cond := .code yX4_init cX4_init 1 none :: ([.methodLink RX4 1 objectInit, .instanceMethod objectInit, .code objectInit ⟨#[0xb1]⟩ 1 none, .arrayClass .int, .fieldLink RX4 7 "PairThreadsModel" "lefts" "[I", .fieldLink RX4 13 "PairThreadsModel" "rights" "[I", .fieldLink RX4 16 "PairThreadsModel" "leftOf" "[I", .fieldLink RX4 19 "PairThreadsModel" "rightOf" "[I", .fieldLink RX4 22 "PairThreadsModel" "firstOf" "[I", .fieldLink RX4 25 "PairThreadsModel" "nextOf" "[I", .fieldLink RX4 28 "PairThreadsModel" "partner" "[I", .arrayClass .boolean, .fieldLink RX4 31 "PairThreadsModel" "matched" "[Z", .fieldLink RX4 35 "PairThreadsModel" "queue" "[I", .fieldLink RX4 38 "PairThreadsModel" "comesFrom" "[I", .fieldLink RX4 41 "PairThreadsModel" "far" "[I", .fieldLink RX4 44 "PairThreadsModel" "kept" "[I", .fieldLink RX4 47 "PairThreadsModel" "many" "I"] ++ wsX40)
def wsX4_find : List Cond := .code yX4_find cX4_find 5 (some .int) :: ([.fieldLink RX4 47 "PairThreadsModel" "many" "I", .fieldLink RX4 7 "PairThreadsModel" "lefts" "[I", .fieldLink RX4 13 "PairThreadsModel" "rights" "[I"] ++ wsX40)
def wsX4_isSide : List Cond := .code yX4_isSide cX4_isSide 1 (some .boolean) :: ([])
def wsX4_own : List Cond := .code yX4_own cX4_own 3 (some .int) :: ([.fieldLink RX4 7 "PairThreadsModel" "lefts" "[I", .fieldLink RX4 13 "PairThreadsModel" "rights" "[I"] ++ wsX40)
def wsX4_add : List Cond := .code yX4_add cX4_add 3 none :: ([.fieldLink RX4 7 "PairThreadsModel" "lefts" "[I", .fieldLink RX4 47 "PairThreadsModel" "many" "I", .fieldLink RX4 13 "PairThreadsModel" "rights" "[I"] ++ wsX40)
def wsX4_remove : List Cond := .code yX4_remove cX4_remove 3 none :: ([.fieldLink RX4 47 "PairThreadsModel" "many" "I", .fieldLink RX4 7 "PairThreadsModel" "lefts" "[I", .fieldLink RX4 13 "PairThreadsModel" "rights" "[I"] ++ wsX40)
def wsX4_link : List Cond := .code yX4_link cX4_link 3 (some .int) :: ([.fieldLink RX4 47 "PairThreadsModel" "many" "I", .methodLink RX4 51 yX4_find, .instanceMethod yX4_find, .selects RX4 yX4_find yX4_find, .initialized RX4, .code yX4_find cX4_find 5 (some .int), .fieldLink RX4 7 "PairThreadsModel" "lefts" "[I", .fieldLink RX4 13 "PairThreadsModel" "rights" "[I", .methodLink RX4 55 yX4_add, .instanceMethod yX4_add, .selects RX4 yX4_add yX4_add, .code yX4_add cX4_add 3 none] ++ wsX40)
def wsX4_unlink : List Cond := .code yX4_unlink cX4_unlink 4 (some .int) :: ([.fieldLink RX4 47 "PairThreadsModel" "many" "I", .methodLink RX4 51 yX4_find, .instanceMethod yX4_find, .selects RX4 yX4_find yX4_find, .initialized RX4, .code yX4_find cX4_find 5 (some .int), .fieldLink RX4 7 "PairThreadsModel" "lefts" "[I", .fieldLink RX4 13 "PairThreadsModel" "rights" "[I", .methodLink RX4 59 yX4_remove, .instanceMethod yX4_remove, .selects RX4 yX4_remove yX4_remove, .code yX4_remove cX4_remove 3 none] ++ wsX40)
def wsX4_place : List Cond := .code yX4_place cX4_place 3 (some .int) :: ([.methodLink RX4 51 yX4_find, .instanceMethod yX4_find, .selects RX4 yX4_find yX4_find, .initialized RX4, .code yX4_find cX4_find 5 (some .int), .fieldLink RX4 47 "PairThreadsModel" "many" "I", .fieldLink RX4 7 "PairThreadsModel" "lefts" "[I", .fieldLink RX4 13 "PairThreadsModel" "rights" "[I"] ++ wsX40)
def wsX4_degree : List Cond := .code yX4_degree cX4_degree 5 (some .int) :: ([.fieldLink RX4 47 "PairThreadsModel" "many" "I", .methodLink RX4 63 yX4_isSide, .static yX4_isSide, .initialized RX4, .code yX4_isSide cX4_isSide 1 (some .boolean), .methodLink RX4 67 yX4_own, .instanceMethod yX4_own, .selects RX4 yX4_own yX4_own, .code yX4_own cX4_own 3 (some .int), .fieldLink RX4 7 "PairThreadsModel" "lefts" "[I", .fieldLink RX4 13 "PairThreadsModel" "rights" "[I"] ++ wsX40)
def wsX4_other : List Cond := .code yX4_other cX4_other 6 (some .int) :: ([.fieldLink RX4 47 "PairThreadsModel" "many" "I", .methodLink RX4 63 yX4_isSide, .static yX4_isSide, .initialized RX4, .code yX4_isSide cX4_isSide 1 (some .boolean), .methodLink RX4 67 yX4_own, .instanceMethod yX4_own, .selects RX4 yX4_own yX4_own, .code yX4_own cX4_own 3 (some .int), .fieldLink RX4 7 "PairThreadsModel" "lefts" "[I", .fieldLink RX4 13 "PairThreadsModel" "rights" "[I"] ++ wsX40)
def wsX4_drop : List Cond := .code yX4_drop cX4_drop 5 (some .int) :: ([.fieldLink RX4 47 "PairThreadsModel" "many" "I", .methodLink RX4 63 yX4_isSide, .static yX4_isSide, .initialized RX4, .code yX4_isSide cX4_isSide 1 (some .boolean), .methodLink RX4 67 yX4_own, .instanceMethod yX4_own, .selects RX4 yX4_own yX4_own, .code yX4_own cX4_own 3 (some .int), .fieldLink RX4 7 "PairThreadsModel" "lefts" "[I", .fieldLink RX4 13 "PairThreadsModel" "rights" "[I", .methodLink RX4 59 yX4_remove, .instanceMethod yX4_remove, .selects RX4 yX4_remove yX4_remove, .code yX4_remove cX4_remove 3 none] ++ wsX40)
def wsX4_rename_r1 : List Cond := [Cond.fieldLink RX4 47 "PairThreadsModel" "many" "I", Cond.fieldLink RX4 44 "PairThreadsModel" "kept" "[I", Cond.methodLink RX4 63 yX4_isSide, Cond.static yX4_isSide, Cond.initialized RX4, Cond.code yX4_isSide cX4_isSide 1 (some .boolean), Cond.methodLink RX4 67 yX4_own, Cond.instanceMethod yX4_own, Cond.selects RX4 yX4_own yX4_own, Cond.code yX4_own cX4_own 3 (some .int), Cond.fieldLink RX4 7 "PairThreadsModel" "lefts" "[I", Cond.fieldLink RX4 13 "PairThreadsModel" "rights" "[I", Cond.methodLink RX4 70 yX4_drop, Cond.instanceMethod yX4_drop, Cond.selects RX4 yX4_drop yX4_drop, Cond.code yX4_drop cX4_drop 5 (some .int), Cond.methodLink RX4 59 yX4_remove, Cond.instanceMethod yX4_remove, Cond.selects RX4 yX4_remove yX4_remove, Cond.code yX4_remove cX4_remove 3 none, Cond.methodLink RX4 51 yX4_find, Cond.instanceMethod yX4_find, Cond.selects RX4 yX4_find yX4_find, Cond.code yX4_find cX4_find 5 (some .int)]
def wsX4_rename_r2 : List Cond := [Cond.methodLink RX4 55 yX4_add, Cond.instanceMethod yX4_add, Cond.selects RX4 yX4_add yX4_add, Cond.code yX4_add cX4_add 3 none]
def wsX4_rename : List Cond := .code yX4_rename cX4_rename 9 (some .int) :: ((wsX4_rename_r1 ++ wsX4_rename_r2) ++ wsX40)
def wsX4_at : List Cond := .code yX4_at cX4_at 3 (some .int) :: ([.fieldLink RX4 47 "PairThreadsModel" "many" "I", .methodLink RX4 63 yX4_isSide, .static yX4_isSide, .initialized RX4, .code yX4_isSide cX4_isSide 1 (some .boolean), .methodLink RX4 67 yX4_own, .instanceMethod yX4_own, .selects RX4 yX4_own yX4_own, .code yX4_own cX4_own 3 (some .int), .fieldLink RX4 7 "PairThreadsModel" "lefts" "[I", .fieldLink RX4 13 "PairThreadsModel" "rights" "[I"] ++ wsX40)
def wsX4_number : List Cond := .code yX4_number cX4_number 5 none :: ([.fieldLink RX4 73 "PairThreadsModel" "leftMany" "I", .fieldLink RX4 76 "PairThreadsModel" "rightMany" "I", .fieldLink RX4 47 "PairThreadsModel" "many" "I", .fieldLink RX4 7 "PairThreadsModel" "lefts" "[I", .fieldLink RX4 16 "PairThreadsModel" "leftOf" "[I", .fieldLink RX4 13 "PairThreadsModel" "rights" "[I", .fieldLink RX4 19 "PairThreadsModel" "rightOf" "[I", .fieldLink RX4 22 "PairThreadsModel" "firstOf" "[I", .fieldLink RX4 25 "PairThreadsModel" "nextOf" "[I"] ++ wsX40)
def wsX4_turn : List Cond := .code yX4_turn cX4_turn 8 none :: ([.fieldLink RX4 38 "PairThreadsModel" "comesFrom" "[I", .fieldLink RX4 76 "PairThreadsModel" "rightMany" "I", .fieldLink RX4 28 "PairThreadsModel" "partner" "[I"] ++ wsX40)
def wsX4_grows : List Cond := .code yX4_grows cX4_grows 7 (some .boolean) :: ([.fieldLink RX4 76 "PairThreadsModel" "rightMany" "I", .fieldLink RX4 38 "PairThreadsModel" "comesFrom" "[I", .fieldLink RX4 35 "PairThreadsModel" "queue" "[I", .fieldLink RX4 22 "PairThreadsModel" "firstOf" "[I", .fieldLink RX4 19 "PairThreadsModel" "rightOf" "[I", .fieldLink RX4 28 "PairThreadsModel" "partner" "[I", .fieldLink RX4 25 "PairThreadsModel" "nextOf" "[I", .methodLink RX4 79 yX4_turn, .instanceMethod yX4_turn, .selects RX4 yX4_turn yX4_turn, .initialized RX4, .code yX4_turn cX4_turn 8 none] ++ wsX40)
def wsX4_matching_r1 : List Cond := [Cond.fieldLink RX4 76 "PairThreadsModel" "rightMany" "I", Cond.fieldLink RX4 28 "PairThreadsModel" "partner" "[I", Cond.fieldLink RX4 73 "PairThreadsModel" "leftMany" "I", Cond.methodLink RX4 82 yX4_number, Cond.instanceMethod yX4_number, Cond.selects RX4 yX4_number yX4_number, Cond.initialized RX4, Cond.code yX4_number cX4_number 5 none, Cond.fieldLink RX4 47 "PairThreadsModel" "many" "I", Cond.fieldLink RX4 7 "PairThreadsModel" "lefts" "[I", Cond.fieldLink RX4 16 "PairThreadsModel" "leftOf" "[I", Cond.fieldLink RX4 13 "PairThreadsModel" "rights" "[I", Cond.fieldLink RX4 19 "PairThreadsModel" "rightOf" "[I", Cond.fieldLink RX4 22 "PairThreadsModel" "firstOf" "[I", Cond.fieldLink RX4 25 "PairThreadsModel" "nextOf" "[I", Cond.methodLink RX4 85 yX4_grows, Cond.instanceMethod yX4_grows, Cond.selects RX4 yX4_grows yX4_grows, Cond.code yX4_grows cX4_grows 7 (some .boolean), Cond.fieldLink RX4 38 "PairThreadsModel" "comesFrom" "[I", Cond.fieldLink RX4 35 "PairThreadsModel" "queue" "[I", Cond.methodLink RX4 79 yX4_turn, Cond.instanceMethod yX4_turn, Cond.selects RX4 yX4_turn yX4_turn]
def wsX4_matching_r2 : List Cond := [Cond.code yX4_turn cX4_turn 8 none]
def wsX4_matching : List Cond := .code yX4_matching cX4_matching 3 (some .int) :: ((wsX4_matching_r1 ++ wsX4_matching_r2) ++ wsX40)
def wsX4_touch : List Cond := .code yX4_touch cX4_touch 3 (some .boolean) :: ([.fieldLink RX4 7 "PairThreadsModel" "lefts" "[I", .fieldLink RX4 13 "PairThreadsModel" "rights" "[I"] ++ wsX40)
def wsX4_reach : List Cond := .code yX4_reach cX4_reach 5 (some .int) :: ([.fieldLink RX4 47 "PairThreadsModel" "many" "I", .fieldLink RX4 41 "PairThreadsModel" "far" "[I", .fieldLink RX4 35 "PairThreadsModel" "queue" "[I", .methodLink RX4 88 yX4_touch, .instanceMethod yX4_touch, .selects RX4 yX4_touch yX4_touch, .initialized RX4, .code yX4_touch cX4_touch 3 (some .boolean), .fieldLink RX4 7 "PairThreadsModel" "lefts" "[I", .fieldLink RX4 13 "PairThreadsModel" "rights" "[I"] ++ wsX40)
def wsX4_clearFar : List Cond := .code yX4_clearFar cX4_clearFar 2 none :: ([.fieldLink RX4 47 "PairThreadsModel" "many" "I", .fieldLink RX4 41 "PairThreadsModel" "far" "[I"] ++ wsX40)
def wsX4_parts : List Cond := .code yX4_parts cX4_parts 3 (some .int) :: ([.fieldLink RX4 47 "PairThreadsModel" "many" "I", .fieldLink RX4 41 "PairThreadsModel" "far" "[I", .fieldLink RX4 35 "PairThreadsModel" "queue" "[I", .methodLink RX4 92 yX4_clearFar, .instanceMethod yX4_clearFar, .selects RX4 yX4_clearFar yX4_clearFar, .initialized RX4, .code yX4_clearFar cX4_clearFar 2 none, .methodLink RX4 95 yX4_reach, .instanceMethod yX4_reach, .selects RX4 yX4_reach yX4_reach, .code yX4_reach cX4_reach 5 (some .int), .methodLink RX4 88 yX4_touch, .instanceMethod yX4_touch, .selects RX4 yX4_touch yX4_touch, .code yX4_touch cX4_touch 3 (some .boolean), .fieldLink RX4 7 "PairThreadsModel" "lefts" "[I", .fieldLink RX4 13 "PairThreadsModel" "rights" "[I"] ++ wsX40)
def wsX4_begin : List Cond := .code yX4_begin cX4_begin 5 (some .int) :: ([.fieldLink RX4 47 "PairThreadsModel" "many" "I", .fieldLink RX4 41 "PairThreadsModel" "far" "[I", .fieldLink RX4 35 "PairThreadsModel" "queue" "[I", .methodLink RX4 92 yX4_clearFar, .instanceMethod yX4_clearFar, .selects RX4 yX4_clearFar yX4_clearFar, .initialized RX4, .code yX4_clearFar cX4_clearFar 2 none, .methodLink RX4 67 yX4_own, .instanceMethod yX4_own, .selects RX4 yX4_own yX4_own, .code yX4_own cX4_own 3 (some .int), .fieldLink RX4 7 "PairThreadsModel" "lefts" "[I", .fieldLink RX4 13 "PairThreadsModel" "rights" "[I"] ++ wsX40)
def wsX4_part_r1 : List Cond := [Cond.methodLink RX4 63 yX4_isSide, Cond.static yX4_isSide, Cond.initialized RX4, Cond.code yX4_isSide cX4_isSide 1 (some .boolean), Cond.methodLink RX4 99 yX4_begin, Cond.instanceMethod yX4_begin, Cond.selects RX4 yX4_begin yX4_begin, Cond.code yX4_begin cX4_begin 5 (some .int), Cond.fieldLink RX4 47 "PairThreadsModel" "many" "I", Cond.fieldLink RX4 41 "PairThreadsModel" "far" "[I", Cond.fieldLink RX4 35 "PairThreadsModel" "queue" "[I", Cond.methodLink RX4 92 yX4_clearFar, Cond.instanceMethod yX4_clearFar, Cond.selects RX4 yX4_clearFar yX4_clearFar, Cond.code yX4_clearFar cX4_clearFar 2 none, Cond.methodLink RX4 67 yX4_own, Cond.instanceMethod yX4_own, Cond.selects RX4 yX4_own yX4_own, Cond.code yX4_own cX4_own 3 (some .int), Cond.fieldLink RX4 7 "PairThreadsModel" "lefts" "[I", Cond.fieldLink RX4 13 "PairThreadsModel" "rights" "[I", Cond.methodLink RX4 95 yX4_reach, Cond.instanceMethod yX4_reach, Cond.selects RX4 yX4_reach yX4_reach]
def wsX4_part_r2 : List Cond := [Cond.code yX4_reach cX4_reach 5 (some .int), Cond.methodLink RX4 88 yX4_touch, Cond.instanceMethod yX4_touch, Cond.selects RX4 yX4_touch yX4_touch, Cond.code yX4_touch cX4_touch 3 (some .boolean)]
def wsX4_part : List Cond := .code yX4_part cX4_part 3 (some .int) :: ((wsX4_part_r1 ++ wsX4_part_r2) ++ wsX40)
def wsX4_way_r1 : List Cond := [Cond.fieldLink RX4 47 "PairThreadsModel" "many" "I", Cond.fieldLink RX4 41 "PairThreadsModel" "far" "[I", Cond.methodLink RX4 63 yX4_isSide, Cond.static yX4_isSide, Cond.initialized RX4, Cond.code yX4_isSide cX4_isSide 1 (some .boolean), Cond.methodLink RX4 99 yX4_begin, Cond.instanceMethod yX4_begin, Cond.selects RX4 yX4_begin yX4_begin, Cond.code yX4_begin cX4_begin 5 (some .int), Cond.fieldLink RX4 35 "PairThreadsModel" "queue" "[I", Cond.methodLink RX4 92 yX4_clearFar, Cond.instanceMethod yX4_clearFar, Cond.selects RX4 yX4_clearFar yX4_clearFar, Cond.code yX4_clearFar cX4_clearFar 2 none, Cond.methodLink RX4 67 yX4_own, Cond.instanceMethod yX4_own, Cond.selects RX4 yX4_own yX4_own, Cond.code yX4_own cX4_own 3 (some .int), Cond.fieldLink RX4 7 "PairThreadsModel" "lefts" "[I", Cond.fieldLink RX4 13 "PairThreadsModel" "rights" "[I", Cond.methodLink RX4 95 yX4_reach, Cond.instanceMethod yX4_reach, Cond.selects RX4 yX4_reach yX4_reach]
def wsX4_way_r2 : List Cond := [Cond.code yX4_reach cX4_reach 5 (some .int), Cond.methodLink RX4 88 yX4_touch, Cond.instanceMethod yX4_touch, Cond.selects RX4 yX4_touch yX4_touch, Cond.code yX4_touch cX4_touch 3 (some .boolean)]
def wsX4_way : List Cond := .code yX4_way cX4_way 7 (some .int) :: ((wsX4_way_r1 ++ wsX4_way_r2) ++ wsX40)
def wsX4_count_r1 : List Cond := [Cond.fieldLink RX4 47 "PairThreadsModel" "many" "I", Cond.fieldLink RX4 73 "PairThreadsModel" "leftMany" "I", Cond.fieldLink RX4 76 "PairThreadsModel" "rightMany" "I", Cond.methodLink RX4 82 yX4_number, Cond.instanceMethod yX4_number, Cond.selects RX4 yX4_number yX4_number, Cond.initialized RX4, Cond.code yX4_number cX4_number 5 none, Cond.fieldLink RX4 7 "PairThreadsModel" "lefts" "[I", Cond.fieldLink RX4 16 "PairThreadsModel" "leftOf" "[I", Cond.fieldLink RX4 13 "PairThreadsModel" "rights" "[I", Cond.fieldLink RX4 19 "PairThreadsModel" "rightOf" "[I", Cond.fieldLink RX4 22 "PairThreadsModel" "firstOf" "[I", Cond.fieldLink RX4 25 "PairThreadsModel" "nextOf" "[I", Cond.methodLink RX4 102 yX4_matching, Cond.instanceMethod yX4_matching, Cond.selects RX4 yX4_matching yX4_matching, Cond.code yX4_matching cX4_matching 3 (some .int), Cond.fieldLink RX4 28 "PairThreadsModel" "partner" "[I", Cond.methodLink RX4 85 yX4_grows, Cond.instanceMethod yX4_grows, Cond.selects RX4 yX4_grows yX4_grows, Cond.code yX4_grows cX4_grows 7 (some .boolean), Cond.fieldLink RX4 38 "PairThreadsModel" "comesFrom" "[I"]
def wsX4_count_r2 : List Cond := [Cond.fieldLink RX4 35 "PairThreadsModel" "queue" "[I", Cond.methodLink RX4 79 yX4_turn, Cond.instanceMethod yX4_turn, Cond.selects RX4 yX4_turn yX4_turn, Cond.code yX4_turn cX4_turn 8 none, Cond.methodLink RX4 106 yX4_parts, Cond.instanceMethod yX4_parts, Cond.selects RX4 yX4_parts yX4_parts, Cond.code yX4_parts cX4_parts 3 (some .int), Cond.fieldLink RX4 41 "PairThreadsModel" "far" "[I", Cond.methodLink RX4 92 yX4_clearFar, Cond.instanceMethod yX4_clearFar, Cond.selects RX4 yX4_clearFar yX4_clearFar, Cond.code yX4_clearFar cX4_clearFar 2 none, Cond.methodLink RX4 95 yX4_reach, Cond.instanceMethod yX4_reach, Cond.selects RX4 yX4_reach yX4_reach, Cond.code yX4_reach cX4_reach 5 (some .int), Cond.methodLink RX4 88 yX4_touch, Cond.instanceMethod yX4_touch, Cond.selects RX4 yX4_touch yX4_touch, Cond.code yX4_touch cX4_touch 3 (some .boolean)]
def wsX4_count : List Cond := .code yX4_count cX4_count 2 (some .int) :: ((wsX4_count_r1 ++ wsX4_count_r2) ++ wsX40)
def wsX4_clear : List Cond := .code yX4_clear cX4_clear 2 (some .int) :: ([.fieldLink RX4 47 "PairThreadsModel" "many" "I"] ++ wsX40)
def wsX4_check : List Cond := .code yX4_check cX4_check 1 (some .int) :: ([])
def wsL_law_r1 : List Cond := [Cond.classLink RL 7 RX3, Cond.instantiable RX3 3, Cond.initialized RX3, Cond.classLink RL 10 RX4, Cond.instantiable RX4 15, Cond.initialized RX4, Cond.methodLink RL 9 yX3_init, Cond.instanceMethod yX3_init, Cond.code yX3_init cX3_init 1 none, Cond.methodLink RX3 1 objectInit, Cond.instanceMethod objectInit, Cond.code objectInit ⟨#[0xb1]⟩ 1 none, Cond.classLink RX3 7 RX2, Cond.instantiable RX2 5, Cond.initialized RX2, Cond.fieldLink RX3 10 "PairThreads" "pairs" "LPairThreads$Threads;", Cond.classLink RX3 16 RX1, Cond.instantiable RX1 4, Cond.initialized RX1, Cond.fieldLink RX3 19 "PairThreads" "spread" "LPairThreads$Spread;", Cond.classLink RX3 23 RX0, Cond.instantiable RX0 6, Cond.initialized RX0, Cond.fieldLink RX3 26 "PairThreads" "matching" "LPairThreads$Matching;"]
def wsL_law_r2 : List Cond := [Cond.methodLink RX3 9 yX2_init, Cond.instanceMethod yX2_init, Cond.code yX2_init cX2_init 2 none, Cond.methodLink RX2 3 objectInit, Cond.arrayClass .int, Cond.fieldLink RX2 9 "PairThreads$Threads" "order" "[I", Cond.classLink RX2 15 "[[I", Cond.fieldLink RX2 17 "PairThreads$Threads" "number" "[[I", Cond.fieldLink RX2 20 "PairThreads$Threads" "before" "[[I", Cond.fieldLink RX2 23 "PairThreads$Threads" "after" "[[I", Cond.instanceMethod yX1_init, Cond.code yX1_init cX1_init 1 none, Cond.methodLink RX1 3 objectInit, Cond.fieldLink RX1 9 "PairThreads$Spread" "reached" "[I", Cond.fieldLink RX1 15 "PairThreads$Spread" "rowTo" "[I", Cond.classLink RX1 18 "[[I", Cond.fieldLink RX1 20 "PairThreads$Spread" "walked" "[[I", Cond.instanceMethod yX0_init, Cond.code yX0_init cX0_init 1 none, Cond.methodLink RX0 3 objectInit, Cond.classLink RX0 9 "[[I", Cond.fieldLink RX0 11 "PairThreads$Matching" "head" "[[I", Cond.fieldLink RX0 16 "PairThreads$Matching" "chosen" "[[I", Cond.fieldLink RX0 19 "PairThreads$Matching" "waiting" "[I"]
def wsL_law_r3 : List Cond := [Cond.fieldLink RX0 23 "PairThreads$Matching" "cause" "[I", Cond.fieldLink RX0 26 "PairThreads$Matching" "seen" "[I", Cond.methodLink RL 12 yX4_init, Cond.instanceMethod yX4_init, Cond.code yX4_init cX4_init 1 none, Cond.methodLink RX4 1 objectInit, Cond.fieldLink RX4 7 "PairThreadsModel" "lefts" "[I", Cond.fieldLink RX4 13 "PairThreadsModel" "rights" "[I", Cond.fieldLink RX4 16 "PairThreadsModel" "leftOf" "[I", Cond.fieldLink RX4 19 "PairThreadsModel" "rightOf" "[I", Cond.fieldLink RX4 22 "PairThreadsModel" "firstOf" "[I", Cond.fieldLink RX4 25 "PairThreadsModel" "nextOf" "[I", Cond.fieldLink RX4 28 "PairThreadsModel" "partner" "[I", Cond.arrayClass .boolean, Cond.fieldLink RX4 31 "PairThreadsModel" "matched" "[Z", Cond.fieldLink RX4 35 "PairThreadsModel" "queue" "[I", Cond.fieldLink RX4 38 "PairThreadsModel" "comesFrom" "[I", Cond.fieldLink RX4 41 "PairThreadsModel" "far" "[I", Cond.fieldLink RX4 44 "PairThreadsModel" "kept" "[I", Cond.fieldLink RX4 47 "PairThreadsModel" "many" "I", Cond.methodLink RL 13 yX3_link, Cond.instanceMethod yX3_link, Cond.selects RX3 yX3_link yX3_link, Cond.code yX3_link cX3_link 3 (some .int)]
def wsL_law_r4 : List Cond := [Cond.methodLink RX3 30 yX2_placeOf, Cond.instanceMethod yX2_placeOf, Cond.selects RX2 yX2_placeOf yX2_placeOf, Cond.code yX2_placeOf cX2_placeOf 5 (some .int), Cond.fieldLink RX2 26 "PairThreads$Threads" "size" "I", Cond.methodLink RX3 38 yX2_append, Cond.instanceMethod yX2_append, Cond.selects RX2 yX2_append yX2_append, Cond.code yX2_append cX2_append 4 none, Cond.methodLink RX2 34 yX2_tieOn, Cond.instanceMethod yX2_tieOn, Cond.selects RX2 yX2_tieOn yX2_tieOn, Cond.code yX2_tieOn cX2_tieOn 5 none, Cond.methodLink RX2 38 yX2_lastOf, Cond.instanceMethod yX2_lastOf, Cond.selects RX2 yX2_lastOf yX2_lastOf, Cond.code yX2_lastOf cX2_lastOf 4 (some .int), Cond.methodLink RL 17 yX4_link, Cond.instanceMethod yX4_link, Cond.selects RX4 yX4_link yX4_link, Cond.code yX4_link cX4_link 3 (some .int), Cond.methodLink RX4 51 yX4_find, Cond.instanceMethod yX4_find, Cond.selects RX4 yX4_find yX4_find]
def wsL_law_r5 : List Cond := [Cond.code yX4_find cX4_find 5 (some .int), Cond.methodLink RX4 55 yX4_add, Cond.instanceMethod yX4_add, Cond.selects RX4 yX4_add yX4_add, Cond.code yX4_add cX4_add 3 none, Cond.methodLink RL 18 yX3_unlink, Cond.instanceMethod yX3_unlink, Cond.selects RX3 yX3_unlink yX3_unlink, Cond.code yX3_unlink cX3_unlink 4 (some .int), Cond.methodLink RX3 42 yX2_takeOut, Cond.instanceMethod yX2_takeOut, Cond.selects RX2 yX2_takeOut yX2_takeOut, Cond.code yX2_takeOut cX2_takeOut 3 none, Cond.methodLink RX2 45 arraycopyName, Cond.native arraycopyName, Cond.static arraycopyName, Cond.initialized "java/lang/System", Cond.methodLink RX2 41 yX2_untie, Cond.instanceMethod yX2_untie, Cond.selects RX2 yX2_untie yX2_untie, Cond.code yX2_untie cX2_untie 5 none, Cond.methodLink RL 21 yX4_unlink, Cond.instanceMethod yX4_unlink, Cond.selects RX4 yX4_unlink yX4_unlink]
def wsL_law_r6 : List Cond := [Cond.code yX4_unlink cX4_unlink 4 (some .int), Cond.methodLink RX4 59 yX4_remove, Cond.instanceMethod yX4_remove, Cond.selects RX4 yX4_remove yX4_remove, Cond.code yX4_remove cX4_remove 3 none, Cond.methodLink RL 22 yX3_place, Cond.instanceMethod yX3_place, Cond.selects RX3 yX3_place yX3_place, Cond.code yX3_place cX3_place 3 (some .int), Cond.methodLink RL 25 yX4_place, Cond.instanceMethod yX4_place, Cond.selects RX4 yX4_place yX4_place, Cond.code yX4_place cX4_place 3 (some .int), Cond.methodLink RL 26 yX3_degree, Cond.instanceMethod yX3_degree, Cond.selects RX3 yX3_degree yX3_degree, Cond.code yX3_degree cX3_degree 3 (some .int), Cond.methodLink RX3 46 yX3_isSide, Cond.static yX3_isSide, Cond.code yX3_isSide cX3_isSide 1 (some .boolean), Cond.methodLink RX3 50 yX2_lengthOf, Cond.instanceMethod yX2_lengthOf, Cond.selects RX2 yX2_lengthOf yX2_lengthOf, Cond.code yX2_lengthOf cX2_lengthOf 6 (some .int)]
def wsL_law_r7 : List Cond := [Cond.methodLink RX2 30 yX2_firstOf, Cond.instanceMethod yX2_firstOf, Cond.selects RX2 yX2_firstOf yX2_firstOf, Cond.code yX2_firstOf cX2_firstOf 4 (some .int), Cond.methodLink RL 29 yX4_degree, Cond.instanceMethod yX4_degree, Cond.selects RX4 yX4_degree yX4_degree, Cond.code yX4_degree cX4_degree 5 (some .int), Cond.methodLink RX4 63 yX4_isSide, Cond.static yX4_isSide, Cond.code yX4_isSide cX4_isSide 1 (some .boolean), Cond.methodLink RX4 67 yX4_own, Cond.instanceMethod yX4_own, Cond.selects RX4 yX4_own yX4_own, Cond.code yX4_own cX4_own 3 (some .int), Cond.methodLink RL 30 yX3_other, Cond.instanceMethod yX3_other, Cond.selects RX3 yX3_other yX3_other, Cond.code yX3_other cX3_other 5 (some .int), Cond.methodLink RX3 53 yX2_inThread, Cond.instanceMethod yX2_inThread, Cond.selects RX2 yX2_inThread yX2_inThread, Cond.code yX2_inThread cX2_inThread 6 (some .int), Cond.methodLink RL 34 yX4_other]
def wsL_law_r8 : List Cond := [Cond.instanceMethod yX4_other, Cond.selects RX4 yX4_other yX4_other, Cond.code yX4_other cX4_other 6 (some .int), Cond.methodLink RL 35 yX3_drop, Cond.instanceMethod yX3_drop, Cond.selects RX3 yX3_drop yX3_drop, Cond.code yX3_drop cX3_drop 3 (some .int), Cond.methodLink RX3 61 yX2_takeOutAll, Cond.instanceMethod yX2_takeOutAll, Cond.selects RX2 yX2_takeOutAll yX2_takeOutAll, Cond.code yX2_takeOutAll cX2_takeOutAll 5 (some .int), Cond.methodLink RX2 51 yX2_takeOut, Cond.methodLink RL 38 yX4_drop, Cond.instanceMethod yX4_drop, Cond.selects RX4 yX4_drop yX4_drop, Cond.code yX4_drop cX4_drop 5 (some .int), Cond.methodLink RL 39 yX3_rename, Cond.instanceMethod yX3_rename, Cond.selects RX3 yX3_rename yX3_rename, Cond.code yX3_rename cX3_rename 4 (some .int), Cond.methodLink RX3 64 yX2_moveAll, Cond.instanceMethod yX2_moveAll, Cond.selects RX2 yX2_moveAll yX2_moveAll, Cond.code yX2_moveAll cX2_moveAll 11 (some .int)]
def wsL_law_r9 : List Cond := [Cond.methodLink RX2 55 yX2_placeOf, Cond.methodLink RX2 58 yX2_append, Cond.methodLink RL 42 yX4_rename, Cond.instanceMethod yX4_rename, Cond.selects RX4 yX4_rename yX4_rename, Cond.code yX4_rename cX4_rename 9 (some .int), Cond.methodLink RX4 70 yX4_drop, Cond.methodLink RL 43 yX3_at, Cond.instanceMethod yX3_at, Cond.selects RX3 yX3_at yX3_at, Cond.code yX3_at cX3_at 3 (some .int), Cond.methodLink RL 46 yX4_at, Cond.instanceMethod yX4_at, Cond.selects RX4 yX4_at yX4_at, Cond.code yX4_at cX4_at 3 (some .int), Cond.methodLink RL 47 yX3_count, Cond.instanceMethod yX3_count, Cond.selects RX3 yX3_count yX3_count, Cond.code yX3_count cX3_count 2 (some .int), Cond.methodLink RX3 71 yX2_threadsOn, Cond.instanceMethod yX2_threadsOn, Cond.selects RX2 yX2_threadsOn yX2_threadsOn, Cond.code yX2_threadsOn cX2_threadsOn 4 (some .int), Cond.methodLink RX3 75 yX0_largest]
def wsL_law_r10 : List Cond := [Cond.instanceMethod yX0_largest, Cond.selects RX0 yX0_largest yX0_largest, Cond.code yX0_largest cX0_largest 4 (some .int), Cond.methodLink RX0 29 yX0_findHeads, Cond.instanceMethod yX0_findHeads, Cond.selects RX0 yX0_findHeads yX0_findHeads, Cond.code yX0_findHeads cX0_findHeads 6 none, Cond.methodLink RX0 33 yX0_takeFree, Cond.instanceMethod yX0_takeFree, Cond.selects RX0 yX0_takeFree yX0_takeFree, Cond.code yX0_takeFree cX0_takeFree 5 (some .int), Cond.methodLink RX0 53 yJ7_fill_53178, Cond.static yJ7_fill_53178, Cond.initialized RJ7, Cond.code yJ7_fill_53178 cJ7_fill_53178 4 none, Cond.methodLink RX0 59 yX0_chosenOf, Cond.instanceMethod yX0_chosenOf, Cond.selects RX0 yX0_chosenOf yX0_chosenOf, Cond.code yX0_chosenOf cX0_chosenOf 3 (some .int), Cond.methodLink RX0 63 yX0_choose, Cond.instanceMethod yX0_choose, Cond.selects RX0 yX0_choose yX0_choose, Cond.code yX0_choose cX0_choose 2 none, Cond.methodLink RX0 43 yX0_grow]
def wsL_law_r11 : List Cond := [Cond.instanceMethod yX0_grow, Cond.selects RX0 yX0_grow yX0_grow, Cond.code yX0_grow cX0_grow 5 (some .boolean), Cond.fieldLink RX0 71 "PairThreads$Matching" "found" "I", Cond.methodLink RX0 67 yX0_awaitFree, Cond.instanceMethod yX0_awaitFree, Cond.selects RX0 yX0_awaitFree yX0_awaitFree, Cond.code yX0_awaitFree cX0_awaitFree 4 none, Cond.methodLink RX0 82 yX0_await, Cond.instanceMethod yX0_await, Cond.selects RX0 yX0_await yX0_await, Cond.code yX0_await cX0_await 3 none, Cond.methodLink RX0 74 yX0_turn, Cond.instanceMethod yX0_turn, Cond.selects RX0 yX0_turn yX0_turn, Cond.code yX0_turn cX0_turn 5 none, Cond.methodLink RX0 78 yX0_awaitInstead, Cond.instanceMethod yX0_awaitInstead, Cond.selects RX0 yX0_awaitInstead yX0_awaitInstead, Cond.code yX0_awaitInstead cX0_awaitInstead 6 none, Cond.methodLink RX3 79 yX1_allParts, Cond.instanceMethod yX1_allParts, Cond.selects RX1 yX1_allParts yX1_allParts, Cond.code yX1_allParts cX1_allParts 5 (some .int)]
def wsL_law_r12 : List Cond := [Cond.methodLink RX1 36 yX1_forget, Cond.instanceMethod yX1_forget, Cond.selects RX1 yX1_forget yX1_forget, Cond.code yX1_forget cX1_forget 1 none, Cond.fieldLink RX1 27 "PairThreads$Spread" "found" "I", Cond.methodLink RX1 52 yJ7_fill_53178, Cond.methodLink RX1 45 yX1_spreadFrom, Cond.instanceMethod yX1_spreadFrom, Cond.selects RX1 yX1_spreadFrom yX1_spreadFrom, Cond.code yX1_spreadFrom cX1_spreadFrom 7 none, Cond.methodLink RX1 58 yX1_walk, Cond.instanceMethod yX1_walk, Cond.selects RX1 yX1_walk yX1_walk, Cond.code yX1_walk cX1_walk 7 none, Cond.methodLink RX1 62 yX2_headOf, Cond.instanceMethod yX2_headOf, Cond.selects RX2 yX2_headOf yX2_headOf, Cond.code yX2_headOf cX2_headOf 5 (some .int), Cond.methodLink RX1 65 yX1_reach, Cond.instanceMethod yX1_reach, Cond.selects RX1 yX1_reach yX1_reach, Cond.code yX1_reach cX1_reach 3 none, Cond.methodLink RL 51 yX4_count, Cond.instanceMethod yX4_count]
def wsL_law_r13 : List Cond := [Cond.selects RX4 yX4_count yX4_count, Cond.code yX4_count cX4_count 2 (some .int), Cond.fieldLink RX4 73 "PairThreadsModel" "leftMany" "I", Cond.fieldLink RX4 76 "PairThreadsModel" "rightMany" "I", Cond.methodLink RX4 82 yX4_number, Cond.instanceMethod yX4_number, Cond.selects RX4 yX4_number yX4_number, Cond.code yX4_number cX4_number 5 none, Cond.methodLink RX4 102 yX4_matching, Cond.instanceMethod yX4_matching, Cond.selects RX4 yX4_matching yX4_matching, Cond.code yX4_matching cX4_matching 3 (some .int), Cond.methodLink RX4 85 yX4_grows, Cond.instanceMethod yX4_grows, Cond.selects RX4 yX4_grows yX4_grows, Cond.code yX4_grows cX4_grows 7 (some .boolean), Cond.methodLink RX4 79 yX4_turn, Cond.instanceMethod yX4_turn, Cond.selects RX4 yX4_turn yX4_turn, Cond.code yX4_turn cX4_turn 8 none, Cond.methodLink RX4 106 yX4_parts, Cond.instanceMethod yX4_parts, Cond.selects RX4 yX4_parts yX4_parts, Cond.code yX4_parts cX4_parts 3 (some .int)]
def wsL_law_r14 : List Cond := [Cond.methodLink RX4 92 yX4_clearFar, Cond.instanceMethod yX4_clearFar, Cond.selects RX4 yX4_clearFar yX4_clearFar, Cond.code yX4_clearFar cX4_clearFar 2 none, Cond.methodLink RX4 95 yX4_reach, Cond.instanceMethod yX4_reach, Cond.selects RX4 yX4_reach yX4_reach, Cond.code yX4_reach cX4_reach 5 (some .int), Cond.methodLink RX4 88 yX4_touch, Cond.instanceMethod yX4_touch, Cond.selects RX4 yX4_touch yX4_touch, Cond.code yX4_touch cX4_touch 3 (some .boolean), Cond.methodLink RL 52 yX3_part, Cond.instanceMethod yX3_part, Cond.selects RX3 yX3_part yX3_part, Cond.code yX3_part cX3_part 3 (some .int), Cond.methodLink RX3 82 yX1_partOf, Cond.instanceMethod yX1_partOf, Cond.selects RX1 yX1_partOf yX1_partOf, Cond.code yX1_partOf cX1_partOf 4 (some .int), Cond.methodLink RX1 23 yX1_start, Cond.instanceMethod yX1_start, Cond.selects RX1 yX1_start yX1_start, Cond.code yX1_start cX1_start 5 none]
def wsL_law_r15 : List Cond := [Cond.methodLink RX1 48 yX2_firstOf, Cond.methodLink RL 55 yX4_part, Cond.instanceMethod yX4_part, Cond.selects RX4 yX4_part yX4_part, Cond.code yX4_part cX4_part 3 (some .int), Cond.methodLink RX4 99 yX4_begin, Cond.instanceMethod yX4_begin, Cond.selects RX4 yX4_begin yX4_begin, Cond.code yX4_begin cX4_begin 5 (some .int), Cond.methodLink RL 56 yX3_way, Cond.instanceMethod yX3_way, Cond.selects RX3 yX3_way yX3_way, Cond.code yX3_way cX3_way 5 (some .int), Cond.methodLink RX3 86 yX1_leastRow, Cond.instanceMethod yX1_leastRow, Cond.selects RX1 yX1_leastRow yX1_leastRow, Cond.code yX1_leastRow cX1_leastRow 7 (some .int), Cond.methodLink RL 60 yX4_way, Cond.instanceMethod yX4_way, Cond.selects RX4 yX4_way yX4_way, Cond.code yX4_way cX4_way 7 (some .int), Cond.methodLink RL 61 yX3_clear, Cond.instanceMethod yX3_clear, Cond.selects RX3 yX3_clear yX3_clear]
def wsL_law_r16 : List Cond := [Cond.code yX3_clear cX3_clear 2 (some .int), Cond.methodLink RL 65 yX4_clear, Cond.instanceMethod yX4_clear, Cond.selects RX4 yX4_clear yX4_clear, Cond.code yX4_clear cX4_clear 2 (some .int), Cond.methodLink RL 66 yX3_check, Cond.instanceMethod yX3_check, Cond.selects RX3 yX3_check yX3_check, Cond.code yX3_check cX3_check 1 (some .int), Cond.methodLink RX3 90 yX2_areSound, Cond.instanceMethod yX2_areSound, Cond.selects RX2 yX2_areSound yX2_areSound, Cond.code yX2_areSound cX2_areSound 4 (some .boolean), Cond.methodLink RX2 61 yX2_isSoundFrom, Cond.instanceMethod yX2_isSoundFrom, Cond.selects RX2 yX2_isSoundFrom yX2_isSoundFrom, Cond.code yX2_isSoundFrom cX2_isSoundFrom 8 (some .boolean), Cond.methodLink RL 69 yX4_check, Cond.instanceMethod yX4_check, Cond.selects RX4 yX4_check yX4_check, Cond.code yX4_check cX4_check 1 (some .int)]
def wsL_law : List Cond := (wsL_law_r1 ++ (wsL_law_r2 ++ (wsL_law_r3 ++ (wsL_law_r4 ++ (wsL_law_r5 ++ (wsL_law_r6 ++ (wsL_law_r7 ++ (wsL_law_r8 ++ (wsL_law_r9 ++ (wsL_law_r10 ++ (wsL_law_r11 ++ (wsL_law_r12 ++ (wsL_law_r13 ++ (wsL_law_r14 ++ (wsL_law_r15 ++ wsL_law_r16))))))))))))))) ++ wsX30 ++ wsX40 ++ wsX20 ++ wsX10 ++ wsX00 ++ ([] : List Cond)
set_option maxRecDepth 20000 in
theorem wsL_law_in : ∀ w ∈ wsL_law, w ∈ lw_tbl := fun w h => (goodIn_p wsL_law [43, 46, 51, 87, 107, 341, 142, 146, 150, 154, 158, 393, 397, 401, 162, 166, 170, 405, 409, 177, 413, 181, 184, 188, 192, 417, 420, 424, 196, 200, 428, 204, 208, 432, 213, 217, 436, 223, 441, 227, 231, 235, 239, 243, 246, 250, 254, 258, 262, 266, 270, 274, 278, 282, 287, 291, 295, 299, 469, 473, 477, 481, 485, 489, 453, 457, 461, 303, 307, 311, 445, 449, 316, 320, 465, 324, 493, 328, 332, 336, 497] (by decide +kernel) (by decide +kernel) w h).1
theorem inlX0 : ∀ w ∈ wsX00, w ∈ wsL_law := fun _ h => List.mem_append_left _ (List.mem_append_right _ h)
theorem inX0 : ∀ w ∈ wsX00, w ∈ lw_tbl := fun w h => wsL_law_in w (inlX0 w h)
theorem inlX1 : ∀ w ∈ wsX10, w ∈ wsL_law := fun _ h => List.mem_append_left _ (List.mem_append_left _ (List.mem_append_right _ h))
theorem inX1 : ∀ w ∈ wsX10, w ∈ lw_tbl := fun w h => wsL_law_in w (inlX1 w h)
theorem inlX2 : ∀ w ∈ wsX20, w ∈ wsL_law := fun _ h => List.mem_append_left _ (List.mem_append_left _ (List.mem_append_left _ (List.mem_append_right _ h)))
theorem inX2 : ∀ w ∈ wsX20, w ∈ lw_tbl := fun w h => wsL_law_in w (inlX2 w h)
theorem inlX3 : ∀ w ∈ wsX30, w ∈ wsL_law := fun _ h => List.mem_append_left _ (List.mem_append_left _ (List.mem_append_left _ (List.mem_append_left _ (List.mem_append_left _ (List.mem_append_right _ h)))))
theorem inX3 : ∀ w ∈ wsX30, w ∈ lw_tbl := fun w h => wsL_law_in w (inlX3 w h)
theorem inlX4 : ∀ w ∈ wsX40, w ∈ wsL_law := fun _ h => List.mem_append_left _ (List.mem_append_left _ (List.mem_append_left _ (List.mem_append_left _ (List.mem_append_right _ h))))
theorem inX4 : ∀ w ∈ wsX40, w ∈ lw_tbl := fun w h => wsL_law_in w (inlX4 w h)
theorem inJ10 : ∀ w ∈ wsJ100, w ∈ lw_tbl := by decide +kernel
theorem inJ7 : ∀ w ∈ wsJ70, w ∈ lw_tbl := by decide +kernel
theorem dX0_init_0 : decode cX0_init 0 = .ok (.aload_n 0, 1) := by decide +kernel
theorem dX0_init_1 : decode cX0_init 1 = .ok (.invokespecial 3, 3) := by decide +kernel
theorem dX0_init_4 : decode cX0_init 4 = .ok (.aload_n 0, 1) := by decide +kernel
theorem dX0_init_5 : decode cX0_init 5 = .ok (.iconst 2, 1) := by decide +kernel
theorem dX0_init_6 : decode cX0_init 6 = .ok (.sipush 300, 3) := by decide +kernel
theorem dX0_init_9 : decode cX0_init 9 = .ok (.multianewarray 9 2, 4) := by decide +kernel
theorem dX0_init_13 : decode cX0_init 13 = .ok (.putfield 11, 3) := by decide +kernel
theorem dX0_init_16 : decode cX0_init 16 = .ok (.aload_n 0, 1) := by decide +kernel
theorem dX0_init_17 : decode cX0_init 17 = .ok (.iconst 2, 1) := by decide +kernel
theorem dX0_init_18 : decode cX0_init 18 = .ok (.sipush 300, 3) := by decide +kernel
theorem dX0_init_21 : decode cX0_init 21 = .ok (.multianewarray 9 2, 4) := by decide +kernel
theorem dX0_init_25 : decode cX0_init 25 = .ok (.putfield 16, 3) := by decide +kernel
theorem dX0_init_28 : decode cX0_init 28 = .ok (.aload_n 0, 1) := by decide +kernel
theorem dX0_init_29 : decode cX0_init 29 = .ok (.sipush 300, 3) := by decide +kernel
theorem dX0_init_32 : decode cX0_init 32 = .ok (.newarray .int, 2) := by decide +kernel
theorem dX0_init_34 : decode cX0_init 34 = .ok (.putfield 19, 3) := by decide +kernel
theorem dX0_init_37 : decode cX0_init 37 = .ok (.aload_n 0, 1) := by decide +kernel
theorem dX0_init_38 : decode cX0_init 38 = .ok (.sipush 300, 3) := by decide +kernel
theorem dX0_init_41 : decode cX0_init 41 = .ok (.newarray .int, 2) := by decide +kernel
theorem dX0_init_43 : decode cX0_init 43 = .ok (.putfield 23, 3) := by decide +kernel
theorem dX0_init_46 : decode cX0_init 46 = .ok (.aload_n 0, 1) := by decide +kernel
theorem dX0_init_47 : decode cX0_init 47 = .ok (.sipush 300, 3) := by decide +kernel
theorem dX0_init_50 : decode cX0_init 50 = .ok (.newarray .int, 2) := by decide +kernel
theorem dX0_init_52 : decode cX0_init 52 = .ok (.putfield 26, 3) := by decide +kernel
theorem dX0_init_55 : decode cX0_init 55 = .ok (.return_, 1) := by decide +kernel
set_option maxRecDepth 20000 in
theorem ggX0_largest_X0_findHeads : GoodIn wsX0_largest wsX0_findHeads := goodIn_r _ [5, 6, 48, 49, 50, 51, 52, 53, 54, 55, 56, 57, 58] (by decide +kernel) (by decide +kernel)
set_option maxRecDepth 20000 in
theorem gX0_largest_X0_findHeads : GoodIn wsX0_largest (wsV RX0 29 RX0 yX0_findHeads wsX0_findHeads) := goodIn_app (goodIn_of _ (by decide +kernel)) ggX0_largest_X0_findHeads
set_option maxRecDepth 20000 in
theorem ggX0_largest_X0_takeFree : GoodIn wsX0_largest wsX0_takeFree := goodIn_r _ [10, 11, 12, 13, 14, 15, 16, 17, 18, 4, 19, 6, 20, 21, 22, 23, 53, 54, 55, 56, 57, 58, 48, 49, 50, 51, 52] (by decide +kernel) (by decide +kernel)
set_option maxRecDepth 20000 in
theorem gX0_largest_X0_takeFree : GoodIn wsX0_largest (wsV RX0 33 RX0 yX0_takeFree wsX0_takeFree) := goodIn_app (goodIn_of _ (by decide +kernel)) ggX0_largest_X0_takeFree
set_option maxRecDepth 20000 in
theorem ggX0_largest_X0_grow : GoodIn wsX0_largest wsX0_grow := goodIn_r _ [27, 28, 29, 30, 6, 11, 12, 13, 14, 15, 31, 32, 33, 4, 34, 16, 17, 18, 19, 35, 36, 37, 38, 39, 40, 41, 42, 43, 20, 21, 22, 23, 44, 45, 46, 47, 53, 54, 55, 56, 57, 58, 48, 49, 50, 51, 52] (by decide +kernel) (by decide +kernel)
set_option maxRecDepth 20000 in
theorem gX0_largest_X0_grow : GoodIn wsX0_largest (wsV RX0 43 RX0 yX0_grow wsX0_grow) := goodIn_app (goodIn_of _ (by decide +kernel)) ggX0_largest_X0_grow
theorem dX0_largest_0 : decode cX0_largest 0 = .ok (.aload_n 0, 1) := by decide +kernel
theorem dX0_largest_1 : decode cX0_largest 1 = .ok (.aload_n 1, 1) := by decide +kernel
theorem dX0_largest_2 : decode cX0_largest 2 = .ok (.iconst 0, 1) := by decide +kernel
theorem dX0_largest_3 : decode cX0_largest 3 = .ok (.invokevirtual 29, 3) := by decide +kernel
theorem dX0_largest_6 : decode cX0_largest 6 = .ok (.aload_n 0, 1) := by decide +kernel
theorem dX0_largest_7 : decode cX0_largest 7 = .ok (.aload_n 1, 1) := by decide +kernel
theorem dX0_largest_8 : decode cX0_largest 8 = .ok (.iconst 1, 1) := by decide +kernel
theorem dX0_largest_9 : decode cX0_largest 9 = .ok (.invokevirtual 29, 3) := by decide +kernel
theorem dX0_largest_12 : decode cX0_largest 12 = .ok (.aload_n 0, 1) := by decide +kernel
theorem dX0_largest_13 : decode cX0_largest 13 = .ok (.aload_n 1, 1) := by decide +kernel
theorem dX0_largest_14 : decode cX0_largest 14 = .ok (.invokevirtual 33, 3) := by decide +kernel
theorem dX0_largest_17 : decode cX0_largest 17 = .ok (.istore_n 2, 1) := by decide +kernel
theorem dX0_largest_18 : decode cX0_largest 18 = .ok (.iload_n 2, 1) := by decide +kernel
theorem dX0_largest_19 : decode cX0_largest 19 = .ok (.istore_n 3, 1) := by decide +kernel
theorem dX0_largest_20 : decode cX0_largest 20 = .ok (.iload_n 3, 1) := by decide +kernel
theorem dX0_largest_21 : decode cX0_largest 21 = .ok (.aload_n 1, 1) := by decide +kernel
theorem dX0_largest_22 : decode cX0_largest 22 = .ok (.getfield 37, 3) := by decide +kernel
theorem dX0_largest_25 : decode cX0_largest 25 = .ok (.if_icmp .ge 20, 3) := by decide +kernel
theorem dX0_largest_28 : decode cX0_largest 28 = .ok (.aload_n 0, 1) := by decide +kernel
theorem dX0_largest_29 : decode cX0_largest 29 = .ok (.aload_n 1, 1) := by decide +kernel
theorem dX0_largest_30 : decode cX0_largest 30 = .ok (.invokevirtual 43, 3) := by decide +kernel
theorem dX0_largest_33 : decode cX0_largest 33 = .ok (.ifCond .eq 12, 3) := by decide +kernel
theorem dX0_largest_36 : decode cX0_largest 36 = .ok (.iinc 2 1, 3) := by decide +kernel
theorem dX0_largest_39 : decode cX0_largest 39 = .ok (.iinc 3 1, 3) := by decide +kernel
theorem dX0_largest_42 : decode cX0_largest 42 = .ok (.goto (-22), 3) := by decide +kernel
theorem dX0_largest_45 : decode cX0_largest 45 = .ok (.iload_n 2, 1) := by decide +kernel
theorem dX0_largest_46 : decode cX0_largest 46 = .ok (.ireturn, 1) := by decide +kernel
theorem dX0_findHeads_0 : decode cX0_findHeads 0 = .ok (.iconst 0, 1) := by decide +kernel
theorem dX0_findHeads_1 : decode cX0_findHeads 1 = .ok (.istore_n 3, 1) := by decide +kernel
theorem dX0_findHeads_2 : decode cX0_findHeads 2 = .ok (.iload_n 3, 1) := by decide +kernel
theorem dX0_findHeads_3 : decode cX0_findHeads 3 = .ok (.aload_n 1, 1) := by decide +kernel
theorem dX0_findHeads_4 : decode cX0_findHeads 4 = .ok (.getfield 37, 3) := by decide +kernel
theorem dX0_findHeads_7 : decode cX0_findHeads 7 = .ok (.if_icmp .ge 57, 3) := by decide +kernel
theorem dX0_findHeads_10 : decode cX0_findHeads 10 = .ok (.aload_n 1, 1) := by decide +kernel
theorem dX0_findHeads_11 : decode cX0_findHeads 11 = .ok (.getfield 47, 3) := by decide +kernel
theorem dX0_findHeads_14 : decode cX0_findHeads 14 = .ok (.iload_n 3, 1) := by decide +kernel
theorem dX0_findHeads_15 : decode cX0_findHeads 15 = .ok (.iaload, 1) := by decide +kernel
theorem dX0_findHeads_16 : decode cX0_findHeads 16 = .ok (.istore 4, 2) := by decide +kernel
theorem dX0_findHeads_18 : decode cX0_findHeads 18 = .ok (.aload_n 1, 1) := by decide +kernel
theorem dX0_findHeads_19 : decode cX0_findHeads 19 = .ok (.getfield 50, 3) := by decide +kernel
theorem dX0_findHeads_22 : decode cX0_findHeads 22 = .ok (.iload_n 2, 1) := by decide +kernel
theorem dX0_findHeads_23 : decode cX0_findHeads 23 = .ok (.aaload, 1) := by decide +kernel
theorem dX0_findHeads_24 : decode cX0_findHeads 24 = .ok (.iload 4, 2) := by decide +kernel
theorem dX0_findHeads_26 : decode cX0_findHeads 26 = .ok (.iaload, 1) := by decide +kernel
theorem dX0_findHeads_27 : decode cX0_findHeads 27 = .ok (.istore 5, 2) := by decide +kernel
theorem dX0_findHeads_29 : decode cX0_findHeads 29 = .ok (.aload_n 0, 1) := by decide +kernel
theorem dX0_findHeads_30 : decode cX0_findHeads 30 = .ok (.getfield 11, 3) := by decide +kernel
theorem dX0_findHeads_33 : decode cX0_findHeads 33 = .ok (.iload_n 2, 1) := by decide +kernel
theorem dX0_findHeads_34 : decode cX0_findHeads 34 = .ok (.aaload, 1) := by decide +kernel
theorem dX0_findHeads_35 : decode cX0_findHeads 35 = .ok (.iload 4, 2) := by decide +kernel
theorem dX0_findHeads_37 : decode cX0_findHeads 37 = .ok (.iload 5, 2) := by decide +kernel
theorem dX0_findHeads_39 : decode cX0_findHeads 39 = .ok (.iconst (-1), 1) := by decide +kernel
theorem dX0_findHeads_40 : decode cX0_findHeads 40 = .ok (.if_icmp .ne 8, 3) := by decide +kernel
theorem dX0_findHeads_43 : decode cX0_findHeads 43 = .ok (.iload 4, 2) := by decide +kernel
theorem dX0_findHeads_45 : decode cX0_findHeads 45 = .ok (.goto 12, 3) := by decide +kernel
theorem dX0_findHeads_48 : decode cX0_findHeads 48 = .ok (.aload_n 0, 1) := by decide +kernel
theorem dX0_findHeads_49 : decode cX0_findHeads 49 = .ok (.getfield 11, 3) := by decide +kernel
theorem dX0_findHeads_52 : decode cX0_findHeads 52 = .ok (.iload_n 2, 1) := by decide +kernel
theorem dX0_findHeads_53 : decode cX0_findHeads 53 = .ok (.aaload, 1) := by decide +kernel
theorem dX0_findHeads_54 : decode cX0_findHeads 54 = .ok (.iload 5, 2) := by decide +kernel
theorem dX0_findHeads_56 : decode cX0_findHeads 56 = .ok (.iaload, 1) := by decide +kernel
theorem dX0_findHeads_57 : decode cX0_findHeads 57 = .ok (.iastore, 1) := by decide +kernel
theorem dX0_findHeads_58 : decode cX0_findHeads 58 = .ok (.iinc 3 1, 3) := by decide +kernel
theorem dX0_findHeads_61 : decode cX0_findHeads 61 = .ok (.goto (-59), 3) := by decide +kernel
theorem dX0_findHeads_64 : decode cX0_findHeads 64 = .ok (.return_, 1) := by decide +kernel
set_option maxRecDepth 20000 in
theorem ggX0_takeFree_J7_fill_53178 : GoodIn wsX0_takeFree wsJ7_fill_53178 := goodIn_r _ [5] (by decide +kernel) (by decide +kernel)
set_option maxRecDepth 20000 in
theorem gX0_takeFree_J7_fill_53178 : GoodIn wsX0_takeFree (va_wsS RX0 53 yJ7_fill_53178 wsJ7_fill_53178) := goodIn_app (goodIn_of _ (by decide +kernel)) ggX0_takeFree_J7_fill_53178
set_option maxRecDepth 20000 in
theorem ggX0_takeFree_X0_chosenOf : GoodIn wsX0_takeFree wsX0_chosenOf := goodIn_r _ [10, 1, 11, 16, 17, 18, 19, 20, 21] (by decide +kernel) (by decide +kernel)
set_option maxRecDepth 20000 in
theorem gX0_takeFree_X0_chosenOf : GoodIn wsX0_takeFree (wsV RX0 59 RX0 yX0_chosenOf wsX0_chosenOf) := goodIn_app (goodIn_of _ (by decide +kernel)) ggX0_takeFree_X0_chosenOf
set_option maxRecDepth 20000 in
theorem ggX0_takeFree_X0_choose : GoodIn wsX0_takeFree wsX0_choose := goodIn_r _ [15, 1, 11, 16, 17, 18, 19, 20, 21] (by decide +kernel) (by decide +kernel)
set_option maxRecDepth 20000 in
theorem gX0_takeFree_X0_choose : GoodIn wsX0_takeFree (wsV RX0 63 RX0 yX0_choose wsX0_choose) := goodIn_app (goodIn_of _ (by decide +kernel)) ggX0_takeFree_X0_choose
theorem dX0_takeFree_0 : decode cX0_takeFree 0 = .ok (.iconst 0, 1) := by decide +kernel
theorem dX0_takeFree_1 : decode cX0_takeFree 1 = .ok (.istore_n 2, 1) := by decide +kernel
theorem dX0_takeFree_2 : decode cX0_takeFree 2 = .ok (.aload_n 0, 1) := by decide +kernel
theorem dX0_takeFree_3 : decode cX0_takeFree 3 = .ok (.getfield 16, 3) := by decide +kernel
theorem dX0_takeFree_6 : decode cX0_takeFree 6 = .ok (.iconst 0, 1) := by decide +kernel
theorem dX0_takeFree_7 : decode cX0_takeFree 7 = .ok (.aaload, 1) := by decide +kernel
theorem dX0_takeFree_8 : decode cX0_takeFree 8 = .ok (.iconst (-1), 1) := by decide +kernel
theorem dX0_takeFree_9 : decode cX0_takeFree 9 = .ok (.invokestatic 53, 3) := by decide +kernel
theorem dX0_takeFree_12 : decode cX0_takeFree 12 = .ok (.aload_n 0, 1) := by decide +kernel
theorem dX0_takeFree_13 : decode cX0_takeFree 13 = .ok (.getfield 16, 3) := by decide +kernel
theorem dX0_takeFree_16 : decode cX0_takeFree 16 = .ok (.iconst 1, 1) := by decide +kernel
theorem dX0_takeFree_17 : decode cX0_takeFree 17 = .ok (.aaload, 1) := by decide +kernel
theorem dX0_takeFree_18 : decode cX0_takeFree 18 = .ok (.iconst (-1), 1) := by decide +kernel
theorem dX0_takeFree_19 : decode cX0_takeFree 19 = .ok (.invokestatic 53, 3) := by decide +kernel
theorem dX0_takeFree_22 : decode cX0_takeFree 22 = .ok (.iconst 0, 1) := by decide +kernel
theorem dX0_takeFree_23 : decode cX0_takeFree 23 = .ok (.istore_n 3, 1) := by decide +kernel
theorem dX0_takeFree_24 : decode cX0_takeFree 24 = .ok (.iload_n 3, 1) := by decide +kernel
theorem dX0_takeFree_25 : decode cX0_takeFree 25 = .ok (.aload_n 1, 1) := by decide +kernel
theorem dX0_takeFree_26 : decode cX0_takeFree 26 = .ok (.getfield 37, 3) := by decide +kernel
theorem dX0_takeFree_29 : decode cX0_takeFree 29 = .ok (.if_icmp .ge 48, 3) := by decide +kernel
theorem dX0_takeFree_32 : decode cX0_takeFree 32 = .ok (.aload_n 1, 1) := by decide +kernel
theorem dX0_takeFree_33 : decode cX0_takeFree 33 = .ok (.getfield 47, 3) := by decide +kernel
theorem dX0_takeFree_36 : decode cX0_takeFree 36 = .ok (.iload_n 3, 1) := by decide +kernel
theorem dX0_takeFree_37 : decode cX0_takeFree 37 = .ok (.iaload, 1) := by decide +kernel
theorem dX0_takeFree_38 : decode cX0_takeFree 38 = .ok (.istore 4, 2) := by decide +kernel
theorem dX0_takeFree_40 : decode cX0_takeFree 40 = .ok (.aload_n 0, 1) := by decide +kernel
theorem dX0_takeFree_41 : decode cX0_takeFree 41 = .ok (.iconst 0, 1) := by decide +kernel
theorem dX0_takeFree_42 : decode cX0_takeFree 42 = .ok (.iload 4, 2) := by decide +kernel
theorem dX0_takeFree_44 : decode cX0_takeFree 44 = .ok (.invokevirtual 59, 3) := by decide +kernel
theorem dX0_takeFree_47 : decode cX0_takeFree 47 = .ok (.iconst (-1), 1) := by decide +kernel
theorem dX0_takeFree_48 : decode cX0_takeFree 48 = .ok (.if_icmp .ne 23, 3) := by decide +kernel
theorem dX0_takeFree_51 : decode cX0_takeFree 51 = .ok (.aload_n 0, 1) := by decide +kernel
theorem dX0_takeFree_52 : decode cX0_takeFree 52 = .ok (.iconst 1, 1) := by decide +kernel
theorem dX0_takeFree_53 : decode cX0_takeFree 53 = .ok (.iload 4, 2) := by decide +kernel
theorem dX0_takeFree_55 : decode cX0_takeFree 55 = .ok (.invokevirtual 59, 3) := by decide +kernel
theorem dX0_takeFree_58 : decode cX0_takeFree 58 = .ok (.iconst (-1), 1) := by decide +kernel
theorem dX0_takeFree_59 : decode cX0_takeFree 59 = .ok (.if_icmp .ne 12, 3) := by decide +kernel
theorem dX0_takeFree_62 : decode cX0_takeFree 62 = .ok (.aload_n 0, 1) := by decide +kernel
theorem dX0_takeFree_63 : decode cX0_takeFree 63 = .ok (.iload 4, 2) := by decide +kernel
theorem dX0_takeFree_65 : decode cX0_takeFree 65 = .ok (.invokevirtual 63, 3) := by decide +kernel
theorem dX0_takeFree_68 : decode cX0_takeFree 68 = .ok (.iinc 2 1, 3) := by decide +kernel
theorem dX0_takeFree_71 : decode cX0_takeFree 71 = .ok (.iinc 3 1, 3) := by decide +kernel
theorem dX0_takeFree_74 : decode cX0_takeFree 74 = .ok (.goto (-50), 3) := by decide +kernel
theorem dX0_takeFree_77 : decode cX0_takeFree 77 = .ok (.iload_n 2, 1) := by decide +kernel
theorem dX0_takeFree_78 : decode cX0_takeFree 78 = .ok (.ireturn, 1) := by decide +kernel
theorem dX0_chosenOf_0 : decode cX0_chosenOf 0 = .ok (.aload_n 0, 1) := by decide +kernel
theorem dX0_chosenOf_1 : decode cX0_chosenOf 1 = .ok (.getfield 16, 3) := by decide +kernel
theorem dX0_chosenOf_4 : decode cX0_chosenOf 4 = .ok (.iload_n 1, 1) := by decide +kernel
theorem dX0_chosenOf_5 : decode cX0_chosenOf 5 = .ok (.aaload, 1) := by decide +kernel
theorem dX0_chosenOf_6 : decode cX0_chosenOf 6 = .ok (.aload_n 0, 1) := by decide +kernel
theorem dX0_chosenOf_7 : decode cX0_chosenOf 7 = .ok (.getfield 11, 3) := by decide +kernel
theorem dX0_chosenOf_10 : decode cX0_chosenOf 10 = .ok (.iload_n 1, 1) := by decide +kernel
theorem dX0_chosenOf_11 : decode cX0_chosenOf 11 = .ok (.aaload, 1) := by decide +kernel
theorem dX0_chosenOf_12 : decode cX0_chosenOf 12 = .ok (.iload_n 2, 1) := by decide +kernel
theorem dX0_chosenOf_13 : decode cX0_chosenOf 13 = .ok (.iaload, 1) := by decide +kernel
theorem dX0_chosenOf_14 : decode cX0_chosenOf 14 = .ok (.iaload, 1) := by decide +kernel
theorem dX0_chosenOf_15 : decode cX0_chosenOf 15 = .ok (.ireturn, 1) := by decide +kernel
theorem dX0_choose_0 : decode cX0_choose 0 = .ok (.aload_n 0, 1) := by decide +kernel
theorem dX0_choose_1 : decode cX0_choose 1 = .ok (.getfield 16, 3) := by decide +kernel
theorem dX0_choose_4 : decode cX0_choose 4 = .ok (.iconst 0, 1) := by decide +kernel
theorem dX0_choose_5 : decode cX0_choose 5 = .ok (.aaload, 1) := by decide +kernel
theorem dX0_choose_6 : decode cX0_choose 6 = .ok (.aload_n 0, 1) := by decide +kernel
theorem dX0_choose_7 : decode cX0_choose 7 = .ok (.getfield 11, 3) := by decide +kernel
theorem dX0_choose_10 : decode cX0_choose 10 = .ok (.iconst 0, 1) := by decide +kernel
theorem dX0_choose_11 : decode cX0_choose 11 = .ok (.aaload, 1) := by decide +kernel
theorem dX0_choose_12 : decode cX0_choose 12 = .ok (.iload_n 1, 1) := by decide +kernel
theorem dX0_choose_13 : decode cX0_choose 13 = .ok (.iaload, 1) := by decide +kernel
theorem dX0_choose_14 : decode cX0_choose 14 = .ok (.iload_n 1, 1) := by decide +kernel
theorem dX0_choose_15 : decode cX0_choose 15 = .ok (.iastore, 1) := by decide +kernel
theorem dX0_choose_16 : decode cX0_choose 16 = .ok (.aload_n 0, 1) := by decide +kernel
theorem dX0_choose_17 : decode cX0_choose 17 = .ok (.getfield 16, 3) := by decide +kernel
theorem dX0_choose_20 : decode cX0_choose 20 = .ok (.iconst 1, 1) := by decide +kernel
theorem dX0_choose_21 : decode cX0_choose 21 = .ok (.aaload, 1) := by decide +kernel
theorem dX0_choose_22 : decode cX0_choose 22 = .ok (.aload_n 0, 1) := by decide +kernel
theorem dX0_choose_23 : decode cX0_choose 23 = .ok (.getfield 11, 3) := by decide +kernel
theorem dX0_choose_26 : decode cX0_choose 26 = .ok (.iconst 1, 1) := by decide +kernel
theorem dX0_choose_27 : decode cX0_choose 27 = .ok (.aaload, 1) := by decide +kernel
theorem dX0_choose_28 : decode cX0_choose 28 = .ok (.iload_n 1, 1) := by decide +kernel
theorem dX0_choose_29 : decode cX0_choose 29 = .ok (.iaload, 1) := by decide +kernel
theorem dX0_choose_30 : decode cX0_choose 30 = .ok (.iload_n 1, 1) := by decide +kernel
theorem dX0_choose_31 : decode cX0_choose 31 = .ok (.iastore, 1) := by decide +kernel
theorem dX0_choose_32 : decode cX0_choose 32 = .ok (.return_, 1) := by decide +kernel
set_option maxRecDepth 20000 in
theorem ggX0_grow_J7_fill_53178 : GoodIn wsX0_grow wsJ7_fill_53178 := goodIn_r _ [9] (by decide +kernel) (by decide +kernel)
set_option maxRecDepth 20000 in
theorem gX0_grow_J7_fill_53178 : GoodIn wsX0_grow (va_wsS RX0 53 yJ7_fill_53178 wsJ7_fill_53178) := goodIn_app (goodIn_of _ (by decide +kernel)) ggX0_grow_J7_fill_53178
set_option maxRecDepth 20000 in
theorem ggX0_grow_X0_awaitFree : GoodIn wsX0_grow wsX0_awaitFree := goodIn_r _ [14, 2, 15, 16, 17, 13, 18, 5, 4, 19, 20, 21, 22, 23, 3, 36, 37, 38, 39, 40, 41, 42, 43, 44, 45, 46] (by decide +kernel) (by decide +kernel)
set_option maxRecDepth 20000 in
theorem gX0_grow_X0_awaitFree : GoodIn wsX0_grow (wsV RX0 67 RX0 yX0_awaitFree wsX0_awaitFree) := goodIn_app (goodIn_of _ (by decide +kernel)) ggX0_grow_X0_awaitFree
set_option maxRecDepth 20000 in
theorem ggX0_grow_X0_turn : GoodIn wsX0_grow wsX0_turn := goodIn_r _ [27, 23, 28, 29, 30, 13, 31, 5, 4, 36, 37, 38, 39, 40, 41] (by decide +kernel) (by decide +kernel)
set_option maxRecDepth 20000 in
theorem gX0_grow_X0_turn : GoodIn wsX0_grow (wsV RX0 74 RX0 yX0_turn wsX0_turn) := goodIn_app (goodIn_of _ (by decide +kernel)) ggX0_grow_X0_turn
set_option maxRecDepth 20000 in
theorem ggX0_grow_X0_awaitInstead : GoodIn wsX0_grow wsX0_awaitInstead := goodIn_r _ [35, 4, 19, 20, 21, 13, 22, 23, 3, 2, 36, 37, 38, 39, 40, 41, 42, 43, 44, 45, 46] (by decide +kernel) (by decide +kernel)
set_option maxRecDepth 20000 in
theorem gX0_grow_X0_awaitInstead : GoodIn wsX0_grow (wsV RX0 78 RX0 yX0_awaitInstead wsX0_awaitInstead) := goodIn_app (goodIn_of _ (by decide +kernel)) ggX0_grow_X0_awaitInstead
theorem dX0_grow_0 : decode cX0_grow 0 = .ok (.aload_n 0, 1) := by decide +kernel
theorem dX0_grow_1 : decode cX0_grow 1 = .ok (.getfield 26, 3) := by decide +kernel
theorem dX0_grow_4 : decode cX0_grow 4 = .ok (.iconst 0, 1) := by decide +kernel
theorem dX0_grow_5 : decode cX0_grow 5 = .ok (.invokestatic 53, 3) := by decide +kernel
theorem dX0_grow_8 : decode cX0_grow 8 = .ok (.aload_n 0, 1) := by decide +kernel
theorem dX0_grow_9 : decode cX0_grow 9 = .ok (.aload_n 1, 1) := by decide +kernel
theorem dX0_grow_10 : decode cX0_grow 10 = .ok (.invokevirtual 67, 3) := by decide +kernel
theorem dX0_grow_13 : decode cX0_grow 13 = .ok (.iconst 0, 1) := by decide +kernel
theorem dX0_grow_14 : decode cX0_grow 14 = .ok (.istore_n 2, 1) := by decide +kernel
theorem dX0_grow_15 : decode cX0_grow 15 = .ok (.iload_n 2, 1) := by decide +kernel
theorem dX0_grow_16 : decode cX0_grow 16 = .ok (.aload_n 0, 1) := by decide +kernel
theorem dX0_grow_17 : decode cX0_grow 17 = .ok (.getfield 71, 3) := by decide +kernel
theorem dX0_grow_20 : decode cX0_grow 20 = .ok (.if_icmp .ge 94, 3) := by decide +kernel
theorem dX0_grow_23 : decode cX0_grow 23 = .ok (.iload_n 2, 1) := by decide +kernel
theorem dX0_grow_24 : decode cX0_grow 24 = .ok (.sipush 300, 3) := by decide +kernel
theorem dX0_grow_27 : decode cX0_grow 27 = .ok (.if_icmp .ge 87, 3) := by decide +kernel
theorem dX0_grow_30 : decode cX0_grow 30 = .ok (.aload_n 0, 1) := by decide +kernel
theorem dX0_grow_31 : decode cX0_grow 31 = .ok (.getfield 19, 3) := by decide +kernel
theorem dX0_grow_34 : decode cX0_grow 34 = .ok (.iload_n 2, 1) := by decide +kernel
theorem dX0_grow_35 : decode cX0_grow 35 = .ok (.iaload, 1) := by decide +kernel
theorem dX0_grow_36 : decode cX0_grow 36 = .ok (.istore_n 3, 1) := by decide +kernel
theorem dX0_grow_37 : decode cX0_grow 37 = .ok (.aload_n 0, 1) := by decide +kernel
theorem dX0_grow_38 : decode cX0_grow 38 = .ok (.getfield 11, 3) := by decide +kernel
theorem dX0_grow_41 : decode cX0_grow 41 = .ok (.iconst 1, 1) := by decide +kernel
theorem dX0_grow_42 : decode cX0_grow 42 = .ok (.aaload, 1) := by decide +kernel
theorem dX0_grow_43 : decode cX0_grow 43 = .ok (.iload_n 3, 1) := by decide +kernel
theorem dX0_grow_44 : decode cX0_grow 44 = .ok (.iaload, 1) := by decide +kernel
theorem dX0_grow_45 : decode cX0_grow 45 = .ok (.istore 4, 2) := by decide +kernel
theorem dX0_grow_47 : decode cX0_grow 47 = .ok (.aload_n 0, 1) := by decide +kernel
theorem dX0_grow_48 : decode cX0_grow 48 = .ok (.getfield 26, 3) := by decide +kernel
theorem dX0_grow_51 : decode cX0_grow 51 = .ok (.iload 4, 2) := by decide +kernel
theorem dX0_grow_53 : decode cX0_grow 53 = .ok (.iaload, 1) := by decide +kernel
theorem dX0_grow_54 : decode cX0_grow 54 = .ok (.iconst 1, 1) := by decide +kernel
theorem dX0_grow_55 : decode cX0_grow 55 = .ok (.if_icmp .ne 6, 3) := by decide +kernel
theorem dX0_grow_58 : decode cX0_grow 58 = .ok (.goto 50, 3) := by decide +kernel
theorem dX0_grow_61 : decode cX0_grow 61 = .ok (.aload_n 0, 1) := by decide +kernel
theorem dX0_grow_62 : decode cX0_grow 62 = .ok (.getfield 26, 3) := by decide +kernel
theorem dX0_grow_65 : decode cX0_grow 65 = .ok (.iload 4, 2) := by decide +kernel
theorem dX0_grow_67 : decode cX0_grow 67 = .ok (.iconst 1, 1) := by decide +kernel
theorem dX0_grow_68 : decode cX0_grow 68 = .ok (.iastore, 1) := by decide +kernel
theorem dX0_grow_69 : decode cX0_grow 69 = .ok (.aload_n 0, 1) := by decide +kernel
theorem dX0_grow_70 : decode cX0_grow 70 = .ok (.getfield 16, 3) := by decide +kernel
theorem dX0_grow_73 : decode cX0_grow 73 = .ok (.iconst 1, 1) := by decide +kernel
theorem dX0_grow_74 : decode cX0_grow 74 = .ok (.aaload, 1) := by decide +kernel
theorem dX0_grow_75 : decode cX0_grow 75 = .ok (.iload 4, 2) := by decide +kernel
theorem dX0_grow_77 : decode cX0_grow 77 = .ok (.iaload, 1) := by decide +kernel
theorem dX0_grow_78 : decode cX0_grow 78 = .ok (.iconst (-1), 1) := by decide +kernel
theorem dX0_grow_79 : decode cX0_grow 79 = .ok (.if_icmp .ne 14, 3) := by decide +kernel
theorem dX0_grow_82 : decode cX0_grow 82 = .ok (.aload_n 0, 1) := by decide +kernel
theorem dX0_grow_83 : decode cX0_grow 83 = .ok (.iload_n 3, 1) := by decide +kernel
theorem dX0_grow_84 : decode cX0_grow 84 = .ok (.aload_n 1, 1) := by decide +kernel
theorem dX0_grow_85 : decode cX0_grow 85 = .ok (.getfield 37, 3) := by decide +kernel
theorem dX0_grow_88 : decode cX0_grow 88 = .ok (.invokevirtual 74, 3) := by decide +kernel
theorem dX0_grow_91 : decode cX0_grow 91 = .ok (.iconst 1, 1) := by decide +kernel
theorem dX0_grow_92 : decode cX0_grow 92 = .ok (.ireturn, 1) := by decide +kernel
theorem dX0_grow_93 : decode cX0_grow 93 = .ok (.aload_n 0, 1) := by decide +kernel
theorem dX0_grow_94 : decode cX0_grow 94 = .ok (.aload_n 1, 1) := by decide +kernel
theorem dX0_grow_95 : decode cX0_grow 95 = .ok (.aload_n 0, 1) := by decide +kernel
theorem dX0_grow_96 : decode cX0_grow 96 = .ok (.getfield 16, 3) := by decide +kernel
theorem dX0_grow_99 : decode cX0_grow 99 = .ok (.iconst 1, 1) := by decide +kernel
theorem dX0_grow_100 : decode cX0_grow 100 = .ok (.aaload, 1) := by decide +kernel
theorem dX0_grow_101 : decode cX0_grow 101 = .ok (.iload 4, 2) := by decide +kernel
theorem dX0_grow_103 : decode cX0_grow 103 = .ok (.iaload, 1) := by decide +kernel
theorem dX0_grow_104 : decode cX0_grow 104 = .ok (.iload_n 3, 1) := by decide +kernel
theorem dX0_grow_105 : decode cX0_grow 105 = .ok (.invokevirtual 78, 3) := by decide +kernel
theorem dX0_grow_108 : decode cX0_grow 108 = .ok (.iinc 2 1, 3) := by decide +kernel
theorem dX0_grow_111 : decode cX0_grow 111 = .ok (.goto (-96), 3) := by decide +kernel
theorem dX0_grow_114 : decode cX0_grow 114 = .ok (.iconst 0, 1) := by decide +kernel
theorem dX0_grow_115 : decode cX0_grow 115 = .ok (.ireturn, 1) := by decide +kernel
end
section
set_option maxRecDepth 20000 in
theorem ggX0_awaitFree_X0_chosenOf : GoodIn wsX0_awaitFree wsX0_chosenOf := goodIn_r _ [6, 7, 8, 15, 16, 17, 18, 19, 20] (by decide +kernel) (by decide +kernel)
set_option maxRecDepth 20000 in
theorem gX0_awaitFree_X0_chosenOf : GoodIn wsX0_awaitFree (wsV RX0 59 RX0 yX0_chosenOf wsX0_chosenOf) := goodIn_app (goodIn_of _ (by decide +kernel)) ggX0_awaitFree_X0_chosenOf
set_option maxRecDepth 20000 in
theorem ggX0_awaitFree_X0_await : GoodIn wsX0_awaitFree wsX0_await := goodIn_r _ [12, 13, 14, 1, 15, 16, 17, 18, 19, 20] (by decide +kernel) (by decide +kernel)
set_option maxRecDepth 20000 in
theorem gX0_awaitFree_X0_await : GoodIn wsX0_awaitFree (wsV RX0 82 RX0 yX0_await wsX0_await) := goodIn_app (goodIn_of _ (by decide +kernel)) ggX0_awaitFree_X0_await
theorem dX0_awaitFree_0 : decode cX0_awaitFree 0 = .ok (.aload_n 0, 1) := by decide +kernel
theorem dX0_awaitFree_1 : decode cX0_awaitFree 1 = .ok (.iconst 0, 1) := by decide +kernel
theorem dX0_awaitFree_2 : decode cX0_awaitFree 2 = .ok (.putfield 71, 3) := by decide +kernel
theorem dX0_awaitFree_5 : decode cX0_awaitFree 5 = .ok (.iconst 0, 1) := by decide +kernel
theorem dX0_awaitFree_6 : decode cX0_awaitFree 6 = .ok (.istore_n 2, 1) := by decide +kernel
theorem dX0_awaitFree_7 : decode cX0_awaitFree 7 = .ok (.iload_n 2, 1) := by decide +kernel
theorem dX0_awaitFree_8 : decode cX0_awaitFree 8 = .ok (.aload_n 1, 1) := by decide +kernel
theorem dX0_awaitFree_9 : decode cX0_awaitFree 9 = .ok (.getfield 37, 3) := by decide +kernel
theorem dX0_awaitFree_12 : decode cX0_awaitFree 12 = .ok (.if_icmp .ge 32, 3) := by decide +kernel
theorem dX0_awaitFree_15 : decode cX0_awaitFree 15 = .ok (.aload_n 1, 1) := by decide +kernel
theorem dX0_awaitFree_16 : decode cX0_awaitFree 16 = .ok (.getfield 47, 3) := by decide +kernel
theorem dX0_awaitFree_19 : decode cX0_awaitFree 19 = .ok (.iload_n 2, 1) := by decide +kernel
theorem dX0_awaitFree_20 : decode cX0_awaitFree 20 = .ok (.iaload, 1) := by decide +kernel
theorem dX0_awaitFree_21 : decode cX0_awaitFree 21 = .ok (.istore_n 3, 1) := by decide +kernel
theorem dX0_awaitFree_22 : decode cX0_awaitFree 22 = .ok (.aload_n 0, 1) := by decide +kernel
theorem dX0_awaitFree_23 : decode cX0_awaitFree 23 = .ok (.iconst 0, 1) := by decide +kernel
theorem dX0_awaitFree_24 : decode cX0_awaitFree 24 = .ok (.iload_n 3, 1) := by decide +kernel
theorem dX0_awaitFree_25 : decode cX0_awaitFree 25 = .ok (.invokevirtual 59, 3) := by decide +kernel
theorem dX0_awaitFree_28 : decode cX0_awaitFree 28 = .ok (.iconst (-1), 1) := by decide +kernel
theorem dX0_awaitFree_29 : decode cX0_awaitFree 29 = .ok (.if_icmp .ne 9, 3) := by decide +kernel
theorem dX0_awaitFree_32 : decode cX0_awaitFree 32 = .ok (.aload_n 0, 1) := by decide +kernel
theorem dX0_awaitFree_33 : decode cX0_awaitFree 33 = .ok (.iload_n 3, 1) := by decide +kernel
theorem dX0_awaitFree_34 : decode cX0_awaitFree 34 = .ok (.iconst (-1), 1) := by decide +kernel
theorem dX0_awaitFree_35 : decode cX0_awaitFree 35 = .ok (.invokevirtual 82, 3) := by decide +kernel
theorem dX0_awaitFree_38 : decode cX0_awaitFree 38 = .ok (.iinc 2 1, 3) := by decide +kernel
theorem dX0_awaitFree_41 : decode cX0_awaitFree 41 = .ok (.goto (-34), 3) := by decide +kernel
theorem dX0_awaitFree_44 : decode cX0_awaitFree 44 = .ok (.return_, 1) := by decide +kernel
set_option maxRecDepth 20000 in
theorem ggX0_awaitInstead_X0_await : GoodIn wsX0_awaitInstead wsX0_await := goodIn_r _ [6, 7, 8, 9, 10, 11, 12, 13, 14, 15] (by decide +kernel) (by decide +kernel)
set_option maxRecDepth 20000 in
theorem gX0_awaitInstead_X0_await : GoodIn wsX0_awaitInstead (wsV RX0 82 RX0 yX0_await wsX0_await) := goodIn_app (goodIn_of _ (by decide +kernel)) ggX0_awaitInstead_X0_await
theorem dX0_awaitInstead_0 : decode cX0_awaitInstead 0 = .ok (.aload_n 0, 1) := by decide +kernel
theorem dX0_awaitInstead_1 : decode cX0_awaitInstead 1 = .ok (.getfield 11, 3) := by decide +kernel
theorem dX0_awaitInstead_4 : decode cX0_awaitInstead 4 = .ok (.iconst 0, 1) := by decide +kernel
theorem dX0_awaitInstead_5 : decode cX0_awaitInstead 5 = .ok (.aaload, 1) := by decide +kernel
theorem dX0_awaitInstead_6 : decode cX0_awaitInstead 6 = .ok (.iload_n 2, 1) := by decide +kernel
theorem dX0_awaitInstead_7 : decode cX0_awaitInstead 7 = .ok (.iaload, 1) := by decide +kernel
theorem dX0_awaitInstead_8 : decode cX0_awaitInstead 8 = .ok (.istore 4, 2) := by decide +kernel
theorem dX0_awaitInstead_10 : decode cX0_awaitInstead 10 = .ok (.iconst 0, 1) := by decide +kernel
theorem dX0_awaitInstead_11 : decode cX0_awaitInstead 11 = .ok (.istore 5, 2) := by decide +kernel
theorem dX0_awaitInstead_13 : decode cX0_awaitInstead 13 = .ok (.iload 5, 2) := by decide +kernel
theorem dX0_awaitInstead_15 : decode cX0_awaitInstead 15 = .ok (.aload_n 1, 1) := by decide +kernel
theorem dX0_awaitInstead_16 : decode cX0_awaitInstead 16 = .ok (.getfield 37, 3) := by decide +kernel
theorem dX0_awaitInstead_19 : decode cX0_awaitInstead 19 = .ok (.if_icmp .ge 39, 3) := by decide +kernel
theorem dX0_awaitInstead_22 : decode cX0_awaitInstead 22 = .ok (.iload 4, 2) := by decide +kernel
theorem dX0_awaitInstead_24 : decode cX0_awaitInstead 24 = .ok (.iconst (-1), 1) := by decide +kernel
theorem dX0_awaitInstead_25 : decode cX0_awaitInstead 25 = .ok (.if_icmp .eq 33, 3) := by decide +kernel
theorem dX0_awaitInstead_28 : decode cX0_awaitInstead 28 = .ok (.iload 4, 2) := by decide +kernel
theorem dX0_awaitInstead_30 : decode cX0_awaitInstead 30 = .ok (.iload_n 2, 1) := by decide +kernel
theorem dX0_awaitInstead_31 : decode cX0_awaitInstead 31 = .ok (.if_icmp .eq 10, 3) := by decide +kernel
theorem dX0_awaitInstead_34 : decode cX0_awaitInstead 34 = .ok (.aload_n 0, 1) := by decide +kernel
theorem dX0_awaitInstead_35 : decode cX0_awaitInstead 35 = .ok (.iload 4, 2) := by decide +kernel
theorem dX0_awaitInstead_37 : decode cX0_awaitInstead 37 = .ok (.iload_n 3, 1) := by decide +kernel
theorem dX0_awaitInstead_38 : decode cX0_awaitInstead 38 = .ok (.invokevirtual 82, 3) := by decide +kernel
theorem dX0_awaitInstead_41 : decode cX0_awaitInstead 41 = .ok (.aload_n 1, 1) := by decide +kernel
theorem dX0_awaitInstead_42 : decode cX0_awaitInstead 42 = .ok (.getfield 85, 3) := by decide +kernel
theorem dX0_awaitInstead_45 : decode cX0_awaitInstead 45 = .ok (.iconst 0, 1) := by decide +kernel
theorem dX0_awaitInstead_46 : decode cX0_awaitInstead 46 = .ok (.aaload, 1) := by decide +kernel
theorem dX0_awaitInstead_47 : decode cX0_awaitInstead 47 = .ok (.iload 4, 2) := by decide +kernel
theorem dX0_awaitInstead_49 : decode cX0_awaitInstead 49 = .ok (.iaload, 1) := by decide +kernel
theorem dX0_awaitInstead_50 : decode cX0_awaitInstead 50 = .ok (.istore 4, 2) := by decide +kernel
theorem dX0_awaitInstead_52 : decode cX0_awaitInstead 52 = .ok (.iinc 5 1, 3) := by decide +kernel
theorem dX0_awaitInstead_55 : decode cX0_awaitInstead 55 = .ok (.goto (-42), 3) := by decide +kernel
theorem dX0_awaitInstead_58 : decode cX0_awaitInstead 58 = .ok (.return_, 1) := by decide +kernel
theorem dX0_await_0 : decode cX0_await 0 = .ok (.aload_n 0, 1) := by decide +kernel
theorem dX0_await_1 : decode cX0_await 1 = .ok (.getfield 23, 3) := by decide +kernel
theorem dX0_await_4 : decode cX0_await 4 = .ok (.iload_n 1, 1) := by decide +kernel
theorem dX0_await_5 : decode cX0_await 5 = .ok (.iload_n 2, 1) := by decide +kernel
theorem dX0_await_6 : decode cX0_await 6 = .ok (.iastore, 1) := by decide +kernel
theorem dX0_await_7 : decode cX0_await 7 = .ok (.aload_n 0, 1) := by decide +kernel
theorem dX0_await_8 : decode cX0_await 8 = .ok (.getfield 19, 3) := by decide +kernel
theorem dX0_await_11 : decode cX0_await 11 = .ok (.aload_n 0, 1) := by decide +kernel
theorem dX0_await_12 : decode cX0_await 12 = .ok (.getfield 71, 3) := by decide +kernel
theorem dX0_await_15 : decode cX0_await 15 = .ok (.iload_n 1, 1) := by decide +kernel
theorem dX0_await_16 : decode cX0_await 16 = .ok (.iastore, 1) := by decide +kernel
theorem dX0_await_17 : decode cX0_await 17 = .ok (.aload_n 0, 1) := by decide +kernel
theorem dX0_await_18 : decode cX0_await 18 = .ok (.dup, 1) := by decide +kernel
theorem dX0_await_19 : decode cX0_await 19 = .ok (.getfield 71, 3) := by decide +kernel
theorem dX0_await_22 : decode cX0_await 22 = .ok (.iconst 1, 1) := by decide +kernel
theorem dX0_await_23 : decode cX0_await 23 = .ok (.iadd, 1) := by decide +kernel
theorem dX0_await_24 : decode cX0_await 24 = .ok (.putfield 71, 3) := by decide +kernel
theorem dX0_await_27 : decode cX0_await 27 = .ok (.return_, 1) := by decide +kernel
set_option maxRecDepth 20000 in
theorem ggX0_turn_X0_choose : GoodIn wsX0_turn wsX0_choose := goodIn_r _ [6, 7, 8, 9, 10, 11, 12, 13, 14] (by decide +kernel) (by decide +kernel)
set_option maxRecDepth 20000 in
theorem gX0_turn_X0_choose : GoodIn wsX0_turn (wsV RX0 63 RX0 yX0_choose wsX0_choose) := goodIn_app (goodIn_of _ (by decide +kernel)) ggX0_turn_X0_choose
theorem dX0_turn_0 : decode cX0_turn 0 = .ok (.iload_n 1, 1) := by decide +kernel
theorem dX0_turn_1 : decode cX0_turn 1 = .ok (.istore_n 3, 1) := by decide +kernel
theorem dX0_turn_2 : decode cX0_turn 2 = .ok (.iconst 0, 1) := by decide +kernel
theorem dX0_turn_3 : decode cX0_turn 3 = .ok (.istore 4, 2) := by decide +kernel
theorem dX0_turn_5 : decode cX0_turn 5 = .ok (.iload 4, 2) := by decide +kernel
theorem dX0_turn_7 : decode cX0_turn 7 = .ok (.iload_n 2, 1) := by decide +kernel
theorem dX0_turn_8 : decode cX0_turn 8 = .ok (.if_icmp .ge 26, 3) := by decide +kernel
theorem dX0_turn_11 : decode cX0_turn 11 = .ok (.iload_n 3, 1) := by decide +kernel
theorem dX0_turn_12 : decode cX0_turn 12 = .ok (.iconst (-1), 1) := by decide +kernel
theorem dX0_turn_13 : decode cX0_turn 13 = .ok (.if_icmp .eq 21, 3) := by decide +kernel
theorem dX0_turn_16 : decode cX0_turn 16 = .ok (.aload_n 0, 1) := by decide +kernel
theorem dX0_turn_17 : decode cX0_turn 17 = .ok (.iload_n 3, 1) := by decide +kernel
theorem dX0_turn_18 : decode cX0_turn 18 = .ok (.invokevirtual 63, 3) := by decide +kernel
theorem dX0_turn_21 : decode cX0_turn 21 = .ok (.aload_n 0, 1) := by decide +kernel
theorem dX0_turn_22 : decode cX0_turn 22 = .ok (.getfield 23, 3) := by decide +kernel
theorem dX0_turn_25 : decode cX0_turn 25 = .ok (.iload_n 3, 1) := by decide +kernel
theorem dX0_turn_26 : decode cX0_turn 26 = .ok (.iaload, 1) := by decide +kernel
theorem dX0_turn_27 : decode cX0_turn 27 = .ok (.istore_n 3, 1) := by decide +kernel
theorem dX0_turn_28 : decode cX0_turn 28 = .ok (.iinc 4 1, 3) := by decide +kernel
theorem dX0_turn_31 : decode cX0_turn 31 = .ok (.goto (-26), 3) := by decide +kernel
theorem dX0_turn_34 : decode cX0_turn 34 = .ok (.return_, 1) := by decide +kernel
theorem dX1_init_0 : decode cX1_init 0 = .ok (.aload_n 0, 1) := by decide +kernel
theorem dX1_init_1 : decode cX1_init 1 = .ok (.invokespecial 3, 3) := by decide +kernel
theorem dX1_init_4 : decode cX1_init 4 = .ok (.aload_n 0, 1) := by decide +kernel
theorem dX1_init_5 : decode cX1_init 5 = .ok (.sipush 300, 3) := by decide +kernel
theorem dX1_init_8 : decode cX1_init 8 = .ok (.newarray .int, 2) := by decide +kernel
theorem dX1_init_10 : decode cX1_init 10 = .ok (.putfield 9, 3) := by decide +kernel
theorem dX1_init_13 : decode cX1_init 13 = .ok (.aload_n 0, 1) := by decide +kernel
theorem dX1_init_14 : decode cX1_init 14 = .ok (.sipush 300, 3) := by decide +kernel
theorem dX1_init_17 : decode cX1_init 17 = .ok (.newarray .int, 2) := by decide +kernel
theorem dX1_init_19 : decode cX1_init 19 = .ok (.putfield 15, 3) := by decide +kernel
theorem dX1_init_22 : decode cX1_init 22 = .ok (.aload_n 0, 1) := by decide +kernel
theorem dX1_init_23 : decode cX1_init 23 = .ok (.iconst 2, 1) := by decide +kernel
theorem dX1_init_24 : decode cX1_init 24 = .ok (.sipush 300, 3) := by decide +kernel
theorem dX1_init_27 : decode cX1_init 27 = .ok (.multianewarray 18 2, 4) := by decide +kernel
theorem dX1_init_31 : decode cX1_init 31 = .ok (.putfield 20, 3) := by decide +kernel
theorem dX1_init_34 : decode cX1_init 34 = .ok (.return_, 1) := by decide +kernel
set_option maxRecDepth 20000 in
theorem ggX1_partOf_X1_start : GoodIn wsX1_partOf wsX1_start := goodIn_r _ [6, 7, 8, 9, 5, 10, 1, 11, 12, 13, 14, 15, 16, 17, 18, 19, 20, 21, 22, 23, 24, 25, 26, 27, 28, 29, 30, 31, 32, 33, 34, 35, 36, 37, 38, 39, 40, 41, 42, 43, 44, 45, 46, 47, 48, 49, 50, 51] (by decide +kernel) (by decide +kernel)
set_option maxRecDepth 20000 in
theorem gX1_partOf_X1_start : GoodIn wsX1_partOf (wsV RX1 23 RX1 yX1_start wsX1_start) := goodIn_app (goodIn_of _ (by decide +kernel)) ggX1_partOf_X1_start
theorem dX1_partOf_0 : decode cX1_partOf 0 = .ok (.aload_n 0, 1) := by decide +kernel
theorem dX1_partOf_1 : decode cX1_partOf 1 = .ok (.aload_n 1, 1) := by decide +kernel
theorem dX1_partOf_2 : decode cX1_partOf 2 = .ok (.iload_n 2, 1) := by decide +kernel
theorem dX1_partOf_3 : decode cX1_partOf 3 = .ok (.iload_n 3, 1) := by decide +kernel
theorem dX1_partOf_4 : decode cX1_partOf 4 = .ok (.invokevirtual 23, 3) := by decide +kernel
theorem dX1_partOf_7 : decode cX1_partOf 7 = .ok (.aload_n 0, 1) := by decide +kernel
theorem dX1_partOf_8 : decode cX1_partOf 8 = .ok (.getfield 27, 3) := by decide +kernel
theorem dX1_partOf_11 : decode cX1_partOf 11 = .ok (.ireturn, 1) := by decide +kernel
set_option maxRecDepth 20000 in
theorem ggX1_leastRow_X1_start : GoodIn wsX1_leastRow wsX1_start := goodIn_r _ [8, 9, 10, 11, 7, 12, 1, 3, 13, 14, 15, 16, 17, 18, 19, 20, 21, 22, 23, 24, 25, 26, 27, 28, 29, 2, 30, 31, 32, 33, 34, 35, 36, 37, 38, 39, 40, 41, 42, 43, 44, 45, 46, 47, 48, 49, 50, 51] (by decide +kernel) (by decide +kernel)
set_option maxRecDepth 20000 in
theorem gX1_leastRow_X1_start : GoodIn wsX1_leastRow (wsV RX1 23 RX1 yX1_start wsX1_start) := goodIn_app (goodIn_of _ (by decide +kernel)) ggX1_leastRow_X1_start
theorem dX1_leastRow_0 : decode cX1_leastRow 0 = .ok (.aload_n 0, 1) := by decide +kernel
theorem dX1_leastRow_1 : decode cX1_leastRow 1 = .ok (.aload_n 1, 1) := by decide +kernel
theorem dX1_leastRow_2 : decode cX1_leastRow 2 = .ok (.iload_n 2, 1) := by decide +kernel
theorem dX1_leastRow_3 : decode cX1_leastRow 3 = .ok (.iload_n 3, 1) := by decide +kernel
theorem dX1_leastRow_4 : decode cX1_leastRow 4 = .ok (.invokevirtual 23, 3) := by decide +kernel
theorem dX1_leastRow_7 : decode cX1_leastRow 7 = .ok (.iconst 0, 1) := by decide +kernel
theorem dX1_leastRow_8 : decode cX1_leastRow 8 = .ok (.istore 6, 2) := by decide +kernel
theorem dX1_leastRow_10 : decode cX1_leastRow 10 = .ok (.iload 6, 2) := by decide +kernel
theorem dX1_leastRow_12 : decode cX1_leastRow 12 = .ok (.aload_n 0, 1) := by decide +kernel
theorem dX1_leastRow_13 : decode cX1_leastRow 13 = .ok (.getfield 27, 3) := by decide +kernel
theorem dX1_leastRow_16 : decode cX1_leastRow 16 = .ok (.if_icmp .ge 42, 3) := by decide +kernel
theorem dX1_leastRow_19 : decode cX1_leastRow 19 = .ok (.aload_n 1, 1) := by decide +kernel
theorem dX1_leastRow_20 : decode cX1_leastRow 20 = .ok (.getfield 31, 3) := by decide +kernel
theorem dX1_leastRow_23 : decode cX1_leastRow 23 = .ok (.iload 4, 2) := by decide +kernel
theorem dX1_leastRow_25 : decode cX1_leastRow 25 = .ok (.aaload, 1) := by decide +kernel
theorem dX1_leastRow_26 : decode cX1_leastRow 26 = .ok (.aload_n 0, 1) := by decide +kernel
theorem dX1_leastRow_27 : decode cX1_leastRow 27 = .ok (.getfield 9, 3) := by decide +kernel
theorem dX1_leastRow_30 : decode cX1_leastRow 30 = .ok (.iload 6, 2) := by decide +kernel
theorem dX1_leastRow_32 : decode cX1_leastRow 32 = .ok (.iaload, 1) := by decide +kernel
theorem dX1_leastRow_33 : decode cX1_leastRow 33 = .ok (.iaload, 1) := by decide +kernel
theorem dX1_leastRow_34 : decode cX1_leastRow 34 = .ok (.iload 5, 2) := by decide +kernel
theorem dX1_leastRow_36 : decode cX1_leastRow 36 = .ok (.if_icmp .ne 16, 3) := by decide +kernel
theorem dX1_leastRow_39 : decode cX1_leastRow 39 = .ok (.aload_n 0, 1) := by decide +kernel
theorem dX1_leastRow_40 : decode cX1_leastRow 40 = .ok (.getfield 15, 3) := by decide +kernel
theorem dX1_leastRow_43 : decode cX1_leastRow 43 = .ok (.aload_n 0, 1) := by decide +kernel
theorem dX1_leastRow_44 : decode cX1_leastRow 44 = .ok (.getfield 9, 3) := by decide +kernel
theorem dX1_leastRow_47 : decode cX1_leastRow 47 = .ok (.iload 6, 2) := by decide +kernel
theorem dX1_leastRow_49 : decode cX1_leastRow 49 = .ok (.iaload, 1) := by decide +kernel
theorem dX1_leastRow_50 : decode cX1_leastRow 50 = .ok (.iaload, 1) := by decide +kernel
theorem dX1_leastRow_51 : decode cX1_leastRow 51 = .ok (.ireturn, 1) := by decide +kernel
theorem dX1_leastRow_52 : decode cX1_leastRow 52 = .ok (.iinc 6 1, 3) := by decide +kernel
theorem dX1_leastRow_55 : decode cX1_leastRow 55 = .ok (.goto (-45), 3) := by decide +kernel
theorem dX1_leastRow_58 : decode cX1_leastRow 58 = .ok (.iconst 0, 1) := by decide +kernel
theorem dX1_leastRow_59 : decode cX1_leastRow 59 = .ok (.ireturn, 1) := by decide +kernel
set_option maxRecDepth 20000 in
theorem ggX1_allParts_X1_forget : GoodIn wsX1_allParts wsX1_forget := goodIn_r _ [6, 7, 1, 8, 9, 10, 11, 12, 38, 39, 40, 41] (by decide +kernel) (by decide +kernel)
set_option maxRecDepth 20000 in
theorem gX1_allParts_X1_forget : GoodIn wsX1_allParts (wsV RX1 36 RX1 yX1_forget wsX1_forget) := goodIn_app (goodIn_of _ (by decide +kernel)) ggX1_allParts_X1_forget
set_option maxRecDepth 20000 in
theorem ggX1_allParts_X1_spreadFrom : GoodIn wsX1_allParts wsX1_spreadFrom := goodIn_r _ [16, 7, 17, 1, 18, 19, 20, 5, 21, 8, 22, 23, 24, 25, 26, 27, 28, 29, 30, 31, 32, 38, 39, 40, 41, 33, 34, 35, 36, 37] (by decide +kernel) (by decide +kernel)
set_option maxRecDepth 20000 in
theorem gX1_allParts_X1_spreadFrom : GoodIn wsX1_allParts (wsV RX1 45 RX1 yX1_spreadFrom wsX1_spreadFrom) := goodIn_app (goodIn_of _ (by decide +kernel)) ggX1_allParts_X1_spreadFrom
theorem dX1_allParts_0 : decode cX1_allParts 0 = .ok (.iconst 0, 1) := by decide +kernel
theorem dX1_allParts_1 : decode cX1_allParts 1 = .ok (.istore_n 2, 1) := by decide +kernel
theorem dX1_allParts_2 : decode cX1_allParts 2 = .ok (.aload_n 0, 1) := by decide +kernel
theorem dX1_allParts_3 : decode cX1_allParts 3 = .ok (.invokevirtual 36, 3) := by decide +kernel
theorem dX1_allParts_6 : decode cX1_allParts 6 = .ok (.iconst 0, 1) := by decide +kernel
theorem dX1_allParts_7 : decode cX1_allParts 7 = .ok (.istore_n 3, 1) := by decide +kernel
theorem dX1_allParts_8 : decode cX1_allParts 8 = .ok (.iload_n 3, 1) := by decide +kernel
theorem dX1_allParts_9 : decode cX1_allParts 9 = .ok (.aload_n 1, 1) := by decide +kernel
theorem dX1_allParts_10 : decode cX1_allParts 10 = .ok (.getfield 39, 3) := by decide +kernel
theorem dX1_allParts_13 : decode cX1_allParts 13 = .ok (.if_icmp .ge 38, 3) := by decide +kernel
theorem dX1_allParts_16 : decode cX1_allParts 16 = .ok (.aload_n 1, 1) := by decide +kernel
theorem dX1_allParts_17 : decode cX1_allParts 17 = .ok (.getfield 42, 3) := by decide +kernel
theorem dX1_allParts_20 : decode cX1_allParts 20 = .ok (.iload_n 3, 1) := by decide +kernel
theorem dX1_allParts_21 : decode cX1_allParts 21 = .ok (.iaload, 1) := by decide +kernel
theorem dX1_allParts_22 : decode cX1_allParts 22 = .ok (.istore 4, 2) := by decide +kernel
theorem dX1_allParts_24 : decode cX1_allParts 24 = .ok (.aload_n 0, 1) := by decide +kernel
theorem dX1_allParts_25 : decode cX1_allParts 25 = .ok (.getfield 15, 3) := by decide +kernel
theorem dX1_allParts_28 : decode cX1_allParts 28 = .ok (.iload 4, 2) := by decide +kernel
theorem dX1_allParts_30 : decode cX1_allParts 30 = .ok (.iaload, 1) := by decide +kernel
theorem dX1_allParts_31 : decode cX1_allParts 31 = .ok (.ifCond .ne 14, 3) := by decide +kernel
theorem dX1_allParts_34 : decode cX1_allParts 34 = .ok (.iinc 2 1, 3) := by decide +kernel
theorem dX1_allParts_37 : decode cX1_allParts 37 = .ok (.aload_n 0, 1) := by decide +kernel
theorem dX1_allParts_38 : decode cX1_allParts 38 = .ok (.aload_n 1, 1) := by decide +kernel
theorem dX1_allParts_39 : decode cX1_allParts 39 = .ok (.iconst 0, 1) := by decide +kernel
theorem dX1_allParts_40 : decode cX1_allParts 40 = .ok (.iload 4, 2) := by decide +kernel
theorem dX1_allParts_42 : decode cX1_allParts 42 = .ok (.invokevirtual 45, 3) := by decide +kernel
theorem dX1_allParts_45 : decode cX1_allParts 45 = .ok (.iinc 3 1, 3) := by decide +kernel
theorem dX1_allParts_48 : decode cX1_allParts 48 = .ok (.goto (-40), 3) := by decide +kernel
theorem dX1_allParts_51 : decode cX1_allParts 51 = .ok (.iload_n 2, 1) := by decide +kernel
theorem dX1_allParts_52 : decode cX1_allParts 52 = .ok (.ireturn, 1) := by decide +kernel
set_option maxRecDepth 20000 in
theorem ggX1_start_X1_forget : GoodIn wsX1_start wsX1_forget := goodIn_r _ [5, 6, 7, 8, 9, 10, 11, 12, 39, 40, 41, 42] (by decide +kernel) (by decide +kernel)
set_option maxRecDepth 20000 in
theorem gX1_start_X1_forget : GoodIn wsX1_start (wsV RX1 36 RX1 yX1_forget wsX1_forget) := goodIn_app (goodIn_of _ (by decide +kernel)) ggX1_start_X1_forget
set_option maxRecDepth 20000 in
theorem ggX1_start_X2_firstOf : GoodIn wsX1_start wsX2_firstOf := goodIn_r _ [17, 18, 19, 20, 43, 44, 45, 46, 47] (by decide +kernel) (by decide +kernel)
set_option maxRecDepth 20000 in
theorem gX1_start_X2_firstOf : GoodIn wsX1_start (wsV RX1 48 RX2 yX2_firstOf wsX2_firstOf) := goodIn_app (goodIn_of _ (by decide +kernel)) ggX1_start_X2_firstOf
set_option maxRecDepth 20000 in
theorem ggX1_start_X1_spreadFrom : GoodIn wsX1_start wsX1_spreadFrom := goodIn_r _ [24, 6, 25, 7, 26, 27, 28, 4, 29, 8, 30, 31, 32, 16, 33, 18, 34, 35, 36, 37, 38, 39, 40, 41, 42, 43, 44, 45, 46, 47] (by decide +kernel) (by decide +kernel)
set_option maxRecDepth 20000 in
theorem gX1_start_X1_spreadFrom : GoodIn wsX1_start (wsV RX1 45 RX1 yX1_spreadFrom wsX1_spreadFrom) := goodIn_app (goodIn_of _ (by decide +kernel)) ggX1_start_X1_spreadFrom
theorem dX1_start_0 : decode cX1_start 0 = .ok (.aload_n 0, 1) := by decide +kernel
theorem dX1_start_1 : decode cX1_start 1 = .ok (.invokevirtual 36, 3) := by decide +kernel
theorem dX1_start_4 : decode cX1_start 4 = .ok (.aload_n 1, 1) := by decide +kernel
theorem dX1_start_5 : decode cX1_start 5 = .ok (.iload_n 2, 1) := by decide +kernel
theorem dX1_start_6 : decode cX1_start 6 = .ok (.iload_n 3, 1) := by decide +kernel
theorem dX1_start_7 : decode cX1_start 7 = .ok (.invokevirtual 48, 3) := by decide +kernel
theorem dX1_start_10 : decode cX1_start 10 = .ok (.istore 4, 2) := by decide +kernel
theorem dX1_start_12 : decode cX1_start 12 = .ok (.iload 4, 2) := by decide +kernel
theorem dX1_start_14 : decode cX1_start 14 = .ok (.iconst (-1), 1) := by decide +kernel
theorem dX1_start_15 : decode cX1_start 15 = .ok (.if_icmp .eq 11, 3) := by decide +kernel
theorem dX1_start_18 : decode cX1_start 18 = .ok (.aload_n 0, 1) := by decide +kernel
theorem dX1_start_19 : decode cX1_start 19 = .ok (.aload_n 1, 1) := by decide +kernel
theorem dX1_start_20 : decode cX1_start 20 = .ok (.iload_n 2, 1) := by decide +kernel
theorem dX1_start_21 : decode cX1_start 21 = .ok (.iload 4, 2) := by decide +kernel
theorem dX1_start_23 : decode cX1_start 23 = .ok (.invokevirtual 45, 3) := by decide +kernel
theorem dX1_start_26 : decode cX1_start 26 = .ok (.return_, 1) := by decide +kernel
set_option maxRecDepth 20000 in
theorem ggX1_forget_J7_fill_53178 : GoodIn wsX1_forget wsJ7_fill_53178 := goodIn_r _ [7] (by decide +kernel) (by decide +kernel)
set_option maxRecDepth 20000 in
theorem gX1_forget_J7_fill_53178 : GoodIn wsX1_forget (va_wsS RX1 52 yJ7_fill_53178 wsJ7_fill_53178) := goodIn_app (goodIn_of _ (by decide +kernel)) ggX1_forget_J7_fill_53178
theorem dX1_forget_0 : decode cX1_forget 0 = .ok (.aload_n 0, 1) := by decide +kernel
theorem dX1_forget_1 : decode cX1_forget 1 = .ok (.iconst 0, 1) := by decide +kernel
theorem dX1_forget_2 : decode cX1_forget 2 = .ok (.putfield 27, 3) := by decide +kernel
theorem dX1_forget_5 : decode cX1_forget 5 = .ok (.aload_n 0, 1) := by decide +kernel
theorem dX1_forget_6 : decode cX1_forget 6 = .ok (.getfield 15, 3) := by decide +kernel
theorem dX1_forget_9 : decode cX1_forget 9 = .ok (.iconst 0, 1) := by decide +kernel
theorem dX1_forget_10 : decode cX1_forget 10 = .ok (.invokestatic 52, 3) := by decide +kernel
theorem dX1_forget_13 : decode cX1_forget 13 = .ok (.aload_n 0, 1) := by decide +kernel
theorem dX1_forget_14 : decode cX1_forget 14 = .ok (.getfield 20, 3) := by decide +kernel
theorem dX1_forget_17 : decode cX1_forget 17 = .ok (.iconst 0, 1) := by decide +kernel
theorem dX1_forget_18 : decode cX1_forget 18 = .ok (.aaload, 1) := by decide +kernel
theorem dX1_forget_19 : decode cX1_forget 19 = .ok (.iconst 0, 1) := by decide +kernel
theorem dX1_forget_20 : decode cX1_forget 20 = .ok (.invokestatic 52, 3) := by decide +kernel
theorem dX1_forget_23 : decode cX1_forget 23 = .ok (.aload_n 0, 1) := by decide +kernel
theorem dX1_forget_24 : decode cX1_forget 24 = .ok (.getfield 20, 3) := by decide +kernel
theorem dX1_forget_27 : decode cX1_forget 27 = .ok (.iconst 1, 1) := by decide +kernel
theorem dX1_forget_28 : decode cX1_forget 28 = .ok (.aaload, 1) := by decide +kernel
theorem dX1_forget_29 : decode cX1_forget 29 = .ok (.iconst 0, 1) := by decide +kernel
theorem dX1_forget_30 : decode cX1_forget 30 = .ok (.invokestatic 52, 3) := by decide +kernel
theorem dX1_forget_33 : decode cX1_forget 33 = .ok (.return_, 1) := by decide +kernel
set_option maxRecDepth 20000 in
theorem ggX1_spreadFrom_X1_walk : GoodIn wsX1_spreadFrom wsX1_walk := goodIn_r _ [8, 9, 10, 11, 12, 13, 14, 15, 16, 17, 18, 19, 7, 20, 3, 2, 1, 21, 22, 23, 24, 25, 26, 27, 28, 29] (by decide +kernel) (by decide +kernel)
set_option maxRecDepth 20000 in
theorem gX1_spreadFrom_X1_walk : GoodIn wsX1_spreadFrom (wsV RX1 58 RX1 yX1_walk wsX1_walk) := goodIn_app (goodIn_of _ (by decide +kernel)) ggX1_spreadFrom_X1_walk
theorem dX1_spreadFrom_0 : decode cX1_spreadFrom 0 = .ok (.aload_n 0, 1) := by decide +kernel
theorem dX1_spreadFrom_1 : decode cX1_spreadFrom 1 = .ok (.getfield 27, 3) := by decide +kernel
theorem dX1_spreadFrom_4 : decode cX1_spreadFrom 4 = .ok (.istore 4, 2) := by decide +kernel
theorem dX1_spreadFrom_6 : decode cX1_spreadFrom 6 = .ok (.aload_n 0, 1) := by decide +kernel
theorem dX1_spreadFrom_7 : decode cX1_spreadFrom 7 = .ok (.aload_n 1, 1) := by decide +kernel
theorem dX1_spreadFrom_8 : decode cX1_spreadFrom 8 = .ok (.iload_n 2, 1) := by decide +kernel
theorem dX1_spreadFrom_9 : decode cX1_spreadFrom 9 = .ok (.iload_n 3, 1) := by decide +kernel
theorem dX1_spreadFrom_10 : decode cX1_spreadFrom 10 = .ok (.iconst 1, 1) := by decide +kernel
theorem dX1_spreadFrom_11 : decode cX1_spreadFrom 11 = .ok (.invokevirtual 58, 3) := by decide +kernel
theorem dX1_spreadFrom_14 : decode cX1_spreadFrom 14 = .ok (.iload 4, 2) := by decide +kernel
theorem dX1_spreadFrom_16 : decode cX1_spreadFrom 16 = .ok (.istore 5, 2) := by decide +kernel
theorem dX1_spreadFrom_18 : decode cX1_spreadFrom 18 = .ok (.iload 5, 2) := by decide +kernel
theorem dX1_spreadFrom_20 : decode cX1_spreadFrom 20 = .ok (.aload_n 0, 1) := by decide +kernel
theorem dX1_spreadFrom_21 : decode cX1_spreadFrom 21 = .ok (.getfield 27, 3) := by decide +kernel
theorem dX1_spreadFrom_24 : decode cX1_spreadFrom 24 = .ok (.if_icmp .ge 60, 3) := by decide +kernel
theorem dX1_spreadFrom_27 : decode cX1_spreadFrom 27 = .ok (.iload 5, 2) := by decide +kernel
theorem dX1_spreadFrom_29 : decode cX1_spreadFrom 29 = .ok (.sipush 300, 3) := by decide +kernel
theorem dX1_spreadFrom_32 : decode cX1_spreadFrom 32 = .ok (.if_icmp .ge 52, 3) := by decide +kernel
theorem dX1_spreadFrom_35 : decode cX1_spreadFrom 35 = .ok (.aload_n 0, 1) := by decide +kernel
theorem dX1_spreadFrom_36 : decode cX1_spreadFrom 36 = .ok (.getfield 9, 3) := by decide +kernel
theorem dX1_spreadFrom_39 : decode cX1_spreadFrom 39 = .ok (.iload 5, 2) := by decide +kernel
theorem dX1_spreadFrom_41 : decode cX1_spreadFrom 41 = .ok (.iaload, 1) := by decide +kernel
theorem dX1_spreadFrom_42 : decode cX1_spreadFrom 42 = .ok (.istore 6, 2) := by decide +kernel
theorem dX1_spreadFrom_44 : decode cX1_spreadFrom 44 = .ok (.aload_n 0, 1) := by decide +kernel
theorem dX1_spreadFrom_45 : decode cX1_spreadFrom 45 = .ok (.aload_n 1, 1) := by decide +kernel
theorem dX1_spreadFrom_46 : decode cX1_spreadFrom 46 = .ok (.iconst 0, 1) := by decide +kernel
theorem dX1_spreadFrom_47 : decode cX1_spreadFrom 47 = .ok (.iload 6, 2) := by decide +kernel
theorem dX1_spreadFrom_49 : decode cX1_spreadFrom 49 = .ok (.aload_n 0, 1) := by decide +kernel
theorem dX1_spreadFrom_50 : decode cX1_spreadFrom 50 = .ok (.getfield 15, 3) := by decide +kernel
theorem dX1_spreadFrom_53 : decode cX1_spreadFrom 53 = .ok (.iload 6, 2) := by decide +kernel
theorem dX1_spreadFrom_55 : decode cX1_spreadFrom 55 = .ok (.iaload, 1) := by decide +kernel
theorem dX1_spreadFrom_56 : decode cX1_spreadFrom 56 = .ok (.iconst 1, 1) := by decide +kernel
theorem dX1_spreadFrom_57 : decode cX1_spreadFrom 57 = .ok (.iadd, 1) := by decide +kernel
theorem dX1_spreadFrom_58 : decode cX1_spreadFrom 58 = .ok (.invokevirtual 58, 3) := by decide +kernel
theorem dX1_spreadFrom_61 : decode cX1_spreadFrom 61 = .ok (.aload_n 0, 1) := by decide +kernel
theorem dX1_spreadFrom_62 : decode cX1_spreadFrom 62 = .ok (.aload_n 1, 1) := by decide +kernel
theorem dX1_spreadFrom_63 : decode cX1_spreadFrom 63 = .ok (.iconst 1, 1) := by decide +kernel
theorem dX1_spreadFrom_64 : decode cX1_spreadFrom 64 = .ok (.iload 6, 2) := by decide +kernel
theorem dX1_spreadFrom_66 : decode cX1_spreadFrom 66 = .ok (.aload_n 0, 1) := by decide +kernel
theorem dX1_spreadFrom_67 : decode cX1_spreadFrom 67 = .ok (.getfield 15, 3) := by decide +kernel
theorem dX1_spreadFrom_70 : decode cX1_spreadFrom 70 = .ok (.iload 6, 2) := by decide +kernel
theorem dX1_spreadFrom_72 : decode cX1_spreadFrom 72 = .ok (.iaload, 1) := by decide +kernel
theorem dX1_spreadFrom_73 : decode cX1_spreadFrom 73 = .ok (.iconst 1, 1) := by decide +kernel
theorem dX1_spreadFrom_74 : decode cX1_spreadFrom 74 = .ok (.iadd, 1) := by decide +kernel
theorem dX1_spreadFrom_75 : decode cX1_spreadFrom 75 = .ok (.invokevirtual 58, 3) := by decide +kernel
theorem dX1_spreadFrom_78 : decode cX1_spreadFrom 78 = .ok (.iinc 5 1, 3) := by decide +kernel
theorem dX1_spreadFrom_81 : decode cX1_spreadFrom 81 = .ok (.goto (-63), 3) := by decide +kernel
theorem dX1_spreadFrom_84 : decode cX1_spreadFrom 84 = .ok (.return_, 1) := by decide +kernel
set_option maxRecDepth 20000 in
theorem ggX1_walk_X2_headOf : GoodIn wsX1_walk wsX2_headOf := goodIn_r _ [6, 7, 8, 21, 22, 23, 24, 25] (by decide +kernel) (by decide +kernel)
set_option maxRecDepth 20000 in
theorem gX1_walk_X2_headOf : GoodIn wsX1_walk (wsV RX1 62 RX2 yX2_headOf wsX2_headOf) := goodIn_app (goodIn_of _ (by decide +kernel)) ggX1_walk_X2_headOf
set_option maxRecDepth 20000 in
theorem ggX1_walk_X1_reach : GoodIn wsX1_walk wsX1_reach := goodIn_r _ [13, 14, 15, 16, 17, 18, 19, 20] (by decide +kernel) (by decide +kernel)
set_option maxRecDepth 20000 in
theorem gX1_walk_X1_reach : GoodIn wsX1_walk (wsV RX1 65 RX1 yX1_reach wsX1_reach) := goodIn_app (goodIn_of _ (by decide +kernel)) ggX1_walk_X1_reach
theorem dX1_walk_0 : decode cX1_walk 0 = .ok (.aload_n 0, 1) := by decide +kernel
theorem dX1_walk_1 : decode cX1_walk 1 = .ok (.getfield 20, 3) := by decide +kernel
theorem dX1_walk_4 : decode cX1_walk 4 = .ok (.iload_n 2, 1) := by decide +kernel
theorem dX1_walk_5 : decode cX1_walk 5 = .ok (.aaload, 1) := by decide +kernel
theorem dX1_walk_6 : decode cX1_walk 6 = .ok (.iload_n 3, 1) := by decide +kernel
theorem dX1_walk_7 : decode cX1_walk 7 = .ok (.iaload, 1) := by decide +kernel
theorem dX1_walk_8 : decode cX1_walk 8 = .ok (.iconst 1, 1) := by decide +kernel
theorem dX1_walk_9 : decode cX1_walk 9 = .ok (.if_icmp .ne 4, 3) := by decide +kernel
theorem dX1_walk_12 : decode cX1_walk 12 = .ok (.return_, 1) := by decide +kernel
theorem dX1_walk_13 : decode cX1_walk 13 = .ok (.aload_n 1, 1) := by decide +kernel
theorem dX1_walk_14 : decode cX1_walk 14 = .ok (.iload_n 2, 1) := by decide +kernel
theorem dX1_walk_15 : decode cX1_walk 15 = .ok (.iload_n 3, 1) := by decide +kernel
theorem dX1_walk_16 : decode cX1_walk 16 = .ok (.invokevirtual 62, 3) := by decide +kernel
theorem dX1_walk_19 : decode cX1_walk 19 = .ok (.istore 5, 2) := by decide +kernel
theorem dX1_walk_21 : decode cX1_walk 21 = .ok (.iconst 0, 1) := by decide +kernel
theorem dX1_walk_22 : decode cX1_walk 22 = .ok (.istore 6, 2) := by decide +kernel
theorem dX1_walk_24 : decode cX1_walk 24 = .ok (.iload 6, 2) := by decide +kernel
theorem dX1_walk_26 : decode cX1_walk 26 = .ok (.aload_n 1, 1) := by decide +kernel
theorem dX1_walk_27 : decode cX1_walk 27 = .ok (.getfield 39, 3) := by decide +kernel
theorem dX1_walk_30 : decode cX1_walk 30 = .ok (.if_icmp .ge 44, 3) := by decide +kernel
theorem dX1_walk_33 : decode cX1_walk 33 = .ok (.iload 5, 2) := by decide +kernel
theorem dX1_walk_35 : decode cX1_walk 35 = .ok (.iconst (-1), 1) := by decide +kernel
theorem dX1_walk_36 : decode cX1_walk 36 = .ok (.if_icmp .eq 38, 3) := by decide +kernel
theorem dX1_walk_39 : decode cX1_walk 39 = .ok (.aload_n 0, 1) := by decide +kernel
theorem dX1_walk_40 : decode cX1_walk 40 = .ok (.getfield 20, 3) := by decide +kernel
theorem dX1_walk_43 : decode cX1_walk 43 = .ok (.iload_n 2, 1) := by decide +kernel
theorem dX1_walk_44 : decode cX1_walk 44 = .ok (.aaload, 1) := by decide +kernel
theorem dX1_walk_45 : decode cX1_walk 45 = .ok (.iload 5, 2) := by decide +kernel
theorem dX1_walk_47 : decode cX1_walk 47 = .ok (.iconst 1, 1) := by decide +kernel
theorem dX1_walk_48 : decode cX1_walk 48 = .ok (.iastore, 1) := by decide +kernel
theorem dX1_walk_49 : decode cX1_walk 49 = .ok (.aload_n 0, 1) := by decide +kernel
theorem dX1_walk_50 : decode cX1_walk 50 = .ok (.iload 5, 2) := by decide +kernel
theorem dX1_walk_52 : decode cX1_walk 52 = .ok (.iload 4, 2) := by decide +kernel
theorem dX1_walk_54 : decode cX1_walk 54 = .ok (.invokevirtual 65, 3) := by decide +kernel
theorem dX1_walk_57 : decode cX1_walk 57 = .ok (.aload_n 1, 1) := by decide +kernel
theorem dX1_walk_58 : decode cX1_walk 58 = .ok (.getfield 69, 3) := by decide +kernel
theorem dX1_walk_61 : decode cX1_walk 61 = .ok (.iload_n 2, 1) := by decide +kernel
theorem dX1_walk_62 : decode cX1_walk 62 = .ok (.aaload, 1) := by decide +kernel
theorem dX1_walk_63 : decode cX1_walk 63 = .ok (.iload 5, 2) := by decide +kernel
theorem dX1_walk_65 : decode cX1_walk 65 = .ok (.iaload, 1) := by decide +kernel
theorem dX1_walk_66 : decode cX1_walk 66 = .ok (.istore 5, 2) := by decide +kernel
theorem dX1_walk_68 : decode cX1_walk 68 = .ok (.iinc 6 1, 3) := by decide +kernel
theorem dX1_walk_71 : decode cX1_walk 71 = .ok (.goto (-47), 3) := by decide +kernel
theorem dX1_walk_74 : decode cX1_walk 74 = .ok (.return_, 1) := by decide +kernel
theorem dX1_reach_0 : decode cX1_reach 0 = .ok (.aload_n 0, 1) := by decide +kernel
theorem dX1_reach_1 : decode cX1_reach 1 = .ok (.getfield 15, 3) := by decide +kernel
theorem dX1_reach_4 : decode cX1_reach 4 = .ok (.iload_n 1, 1) := by decide +kernel
theorem dX1_reach_5 : decode cX1_reach 5 = .ok (.iaload, 1) := by decide +kernel
theorem dX1_reach_6 : decode cX1_reach 6 = .ok (.ifCond .ne 30, 3) := by decide +kernel
theorem dX1_reach_9 : decode cX1_reach 9 = .ok (.aload_n 0, 1) := by decide +kernel
theorem dX1_reach_10 : decode cX1_reach 10 = .ok (.getfield 15, 3) := by decide +kernel
theorem dX1_reach_13 : decode cX1_reach 13 = .ok (.iload_n 1, 1) := by decide +kernel
theorem dX1_reach_14 : decode cX1_reach 14 = .ok (.iload_n 2, 1) := by decide +kernel
theorem dX1_reach_15 : decode cX1_reach 15 = .ok (.iastore, 1) := by decide +kernel
theorem dX1_reach_16 : decode cX1_reach 16 = .ok (.aload_n 0, 1) := by decide +kernel
theorem dX1_reach_17 : decode cX1_reach 17 = .ok (.getfield 9, 3) := by decide +kernel
theorem dX1_reach_20 : decode cX1_reach 20 = .ok (.aload_n 0, 1) := by decide +kernel
theorem dX1_reach_21 : decode cX1_reach 21 = .ok (.getfield 27, 3) := by decide +kernel
theorem dX1_reach_24 : decode cX1_reach 24 = .ok (.iload_n 1, 1) := by decide +kernel
theorem dX1_reach_25 : decode cX1_reach 25 = .ok (.iastore, 1) := by decide +kernel
theorem dX1_reach_26 : decode cX1_reach 26 = .ok (.aload_n 0, 1) := by decide +kernel
theorem dX1_reach_27 : decode cX1_reach 27 = .ok (.dup, 1) := by decide +kernel
theorem dX1_reach_28 : decode cX1_reach 28 = .ok (.getfield 27, 3) := by decide +kernel
theorem dX1_reach_31 : decode cX1_reach 31 = .ok (.iconst 1, 1) := by decide +kernel
theorem dX1_reach_32 : decode cX1_reach 32 = .ok (.iadd, 1) := by decide +kernel
theorem dX1_reach_33 : decode cX1_reach 33 = .ok (.putfield 27, 3) := by decide +kernel
theorem dX1_reach_36 : decode cX1_reach 36 = .ok (.return_, 1) := by decide +kernel
theorem dX2_init_0 : decode cX2_init 0 = .ok (.aload_n 0, 1) := by decide +kernel
theorem dX2_init_1 : decode cX2_init 1 = .ok (.invokespecial 3, 3) := by decide +kernel
theorem dX2_init_4 : decode cX2_init 4 = .ok (.aload_n 0, 1) := by decide +kernel
theorem dX2_init_5 : decode cX2_init 5 = .ok (.sipush 300, 3) := by decide +kernel
theorem dX2_init_8 : decode cX2_init 8 = .ok (.newarray .int, 2) := by decide +kernel
theorem dX2_init_10 : decode cX2_init 10 = .ok (.putfield 9, 3) := by decide +kernel
theorem dX2_init_13 : decode cX2_init 13 = .ok (.aload_n 0, 1) := by decide +kernel
theorem dX2_init_14 : decode cX2_init 14 = .ok (.iconst 2, 1) := by decide +kernel
theorem dX2_init_15 : decode cX2_init 15 = .ok (.sipush 300, 3) := by decide +kernel
theorem dX2_init_18 : decode cX2_init 18 = .ok (.multianewarray 15 2, 4) := by decide +kernel
theorem dX2_init_22 : decode cX2_init 22 = .ok (.putfield 17, 3) := by decide +kernel
theorem dX2_init_25 : decode cX2_init 25 = .ok (.aload_n 0, 1) := by decide +kernel
theorem dX2_init_26 : decode cX2_init 26 = .ok (.iconst 2, 1) := by decide +kernel
theorem dX2_init_27 : decode cX2_init 27 = .ok (.sipush 300, 3) := by decide +kernel
theorem dX2_init_30 : decode cX2_init 30 = .ok (.multianewarray 15 2, 4) := by decide +kernel
theorem dX2_init_34 : decode cX2_init 34 = .ok (.putfield 20, 3) := by decide +kernel
theorem dX2_init_37 : decode cX2_init 37 = .ok (.aload_n 0, 1) := by decide +kernel
theorem dX2_init_38 : decode cX2_init 38 = .ok (.iconst 2, 1) := by decide +kernel
theorem dX2_init_39 : decode cX2_init 39 = .ok (.sipush 300, 3) := by decide +kernel
theorem dX2_init_42 : decode cX2_init 42 = .ok (.multianewarray 15 2, 4) := by decide +kernel
theorem dX2_init_46 : decode cX2_init 46 = .ok (.putfield 23, 3) := by decide +kernel
theorem dX2_init_49 : decode cX2_init 49 = .ok (.iconst 0, 1) := by decide +kernel
theorem dX2_init_50 : decode cX2_init 50 = .ok (.istore_n 1, 1) := by decide +kernel
theorem dX2_init_51 : decode cX2_init 51 = .ok (.iload_n 1, 1) := by decide +kernel
theorem dX2_init_52 : decode cX2_init 52 = .ok (.sipush 300, 3) := by decide +kernel
theorem dX2_init_55 : decode cX2_init 55 = .ok (.if_icmp .ge 16, 3) := by decide +kernel
theorem dX2_init_58 : decode cX2_init 58 = .ok (.aload_n 0, 1) := by decide +kernel
theorem dX2_init_59 : decode cX2_init 59 = .ok (.getfield 9, 3) := by decide +kernel
theorem dX2_init_62 : decode cX2_init 62 = .ok (.iload_n 1, 1) := by decide +kernel
theorem dX2_init_63 : decode cX2_init 63 = .ok (.iload_n 1, 1) := by decide +kernel
theorem dX2_init_64 : decode cX2_init 64 = .ok (.iastore, 1) := by decide +kernel
theorem dX2_init_65 : decode cX2_init 65 = .ok (.iinc 1 1, 3) := by decide +kernel
theorem dX2_init_68 : decode cX2_init 68 = .ok (.goto (-17), 3) := by decide +kernel
theorem dX2_init_71 : decode cX2_init 71 = .ok (.return_, 1) := by decide +kernel
theorem dX2_placeOf_0 : decode cX2_placeOf 0 = .ok (.iconst 0, 1) := by decide +kernel
theorem dX2_placeOf_1 : decode cX2_placeOf 1 = .ok (.istore_n 3, 1) := by decide +kernel
theorem dX2_placeOf_2 : decode cX2_placeOf 2 = .ok (.iload_n 3, 1) := by decide +kernel
theorem dX2_placeOf_3 : decode cX2_placeOf 3 = .ok (.aload_n 0, 1) := by decide +kernel
theorem dX2_placeOf_4 : decode cX2_placeOf 4 = .ok (.getfield 26, 3) := by decide +kernel
theorem dX2_placeOf_7 : decode cX2_placeOf 7 = .ok (.if_icmp .ge 45, 3) := by decide +kernel
theorem dX2_placeOf_10 : decode cX2_placeOf 10 = .ok (.aload_n 0, 1) := by decide +kernel
theorem dX2_placeOf_11 : decode cX2_placeOf 11 = .ok (.getfield 9, 3) := by decide +kernel
theorem dX2_placeOf_14 : decode cX2_placeOf 14 = .ok (.iload_n 3, 1) := by decide +kernel
theorem dX2_placeOf_15 : decode cX2_placeOf 15 = .ok (.iaload, 1) := by decide +kernel
theorem dX2_placeOf_16 : decode cX2_placeOf 16 = .ok (.istore 4, 2) := by decide +kernel
theorem dX2_placeOf_18 : decode cX2_placeOf 18 = .ok (.aload_n 0, 1) := by decide +kernel
theorem dX2_placeOf_19 : decode cX2_placeOf 19 = .ok (.getfield 17, 3) := by decide +kernel
theorem dX2_placeOf_22 : decode cX2_placeOf 22 = .ok (.iconst 0, 1) := by decide +kernel
theorem dX2_placeOf_23 : decode cX2_placeOf 23 = .ok (.aaload, 1) := by decide +kernel
theorem dX2_placeOf_24 : decode cX2_placeOf 24 = .ok (.iload 4, 2) := by decide +kernel
theorem dX2_placeOf_26 : decode cX2_placeOf 26 = .ok (.iaload, 1) := by decide +kernel
theorem dX2_placeOf_27 : decode cX2_placeOf 27 = .ok (.iload_n 1, 1) := by decide +kernel
theorem dX2_placeOf_28 : decode cX2_placeOf 28 = .ok (.if_icmp .ne 18, 3) := by decide +kernel
theorem dX2_placeOf_31 : decode cX2_placeOf 31 = .ok (.aload_n 0, 1) := by decide +kernel
theorem dX2_placeOf_32 : decode cX2_placeOf 32 = .ok (.getfield 17, 3) := by decide +kernel
theorem dX2_placeOf_35 : decode cX2_placeOf 35 = .ok (.iconst 1, 1) := by decide +kernel
theorem dX2_placeOf_36 : decode cX2_placeOf 36 = .ok (.aaload, 1) := by decide +kernel
theorem dX2_placeOf_37 : decode cX2_placeOf 37 = .ok (.iload 4, 2) := by decide +kernel
theorem dX2_placeOf_39 : decode cX2_placeOf 39 = .ok (.iaload, 1) := by decide +kernel
theorem dX2_placeOf_40 : decode cX2_placeOf 40 = .ok (.iload_n 2, 1) := by decide +kernel
theorem dX2_placeOf_41 : decode cX2_placeOf 41 = .ok (.if_icmp .ne 5, 3) := by decide +kernel
theorem dX2_placeOf_44 : decode cX2_placeOf 44 = .ok (.iload_n 3, 1) := by decide +kernel
theorem dX2_placeOf_45 : decode cX2_placeOf 45 = .ok (.ireturn, 1) := by decide +kernel
theorem dX2_placeOf_46 : decode cX2_placeOf 46 = .ok (.iinc 3 1, 3) := by decide +kernel
theorem dX2_placeOf_49 : decode cX2_placeOf 49 = .ok (.goto (-47), 3) := by decide +kernel
theorem dX2_placeOf_52 : decode cX2_placeOf 52 = .ok (.iconst (-1), 1) := by decide +kernel
theorem dX2_placeOf_53 : decode cX2_placeOf 53 = .ok (.ireturn, 1) := by decide +kernel
theorem dX2_firstOf_0 : decode cX2_firstOf 0 = .ok (.iconst 0, 1) := by decide +kernel
theorem dX2_firstOf_1 : decode cX2_firstOf 1 = .ok (.istore_n 3, 1) := by decide +kernel
theorem dX2_firstOf_2 : decode cX2_firstOf 2 = .ok (.iload_n 3, 1) := by decide +kernel
theorem dX2_firstOf_3 : decode cX2_firstOf 3 = .ok (.aload_n 0, 1) := by decide +kernel
theorem dX2_firstOf_4 : decode cX2_firstOf 4 = .ok (.getfield 26, 3) := by decide +kernel
theorem dX2_firstOf_7 : decode cX2_firstOf 7 = .ok (.if_icmp .ge 33, 3) := by decide +kernel
theorem dX2_firstOf_10 : decode cX2_firstOf 10 = .ok (.aload_n 0, 1) := by decide +kernel
theorem dX2_firstOf_11 : decode cX2_firstOf 11 = .ok (.getfield 17, 3) := by decide +kernel
theorem dX2_firstOf_14 : decode cX2_firstOf 14 = .ok (.iload_n 1, 1) := by decide +kernel
theorem dX2_firstOf_15 : decode cX2_firstOf 15 = .ok (.aaload, 1) := by decide +kernel
theorem dX2_firstOf_16 : decode cX2_firstOf 16 = .ok (.aload_n 0, 1) := by decide +kernel
theorem dX2_firstOf_17 : decode cX2_firstOf 17 = .ok (.getfield 9, 3) := by decide +kernel
theorem dX2_firstOf_20 : decode cX2_firstOf 20 = .ok (.iload_n 3, 1) := by decide +kernel
theorem dX2_firstOf_21 : decode cX2_firstOf 21 = .ok (.iaload, 1) := by decide +kernel
theorem dX2_firstOf_22 : decode cX2_firstOf 22 = .ok (.iaload, 1) := by decide +kernel
theorem dX2_firstOf_23 : decode cX2_firstOf 23 = .ok (.iload_n 2, 1) := by decide +kernel
theorem dX2_firstOf_24 : decode cX2_firstOf 24 = .ok (.if_icmp .ne 10, 3) := by decide +kernel
theorem dX2_firstOf_27 : decode cX2_firstOf 27 = .ok (.aload_n 0, 1) := by decide +kernel
theorem dX2_firstOf_28 : decode cX2_firstOf 28 = .ok (.getfield 9, 3) := by decide +kernel
theorem dX2_firstOf_31 : decode cX2_firstOf 31 = .ok (.iload_n 3, 1) := by decide +kernel
theorem dX2_firstOf_32 : decode cX2_firstOf 32 = .ok (.iaload, 1) := by decide +kernel
theorem dX2_firstOf_33 : decode cX2_firstOf 33 = .ok (.ireturn, 1) := by decide +kernel
theorem dX2_firstOf_34 : decode cX2_firstOf 34 = .ok (.iinc 3 1, 3) := by decide +kernel
theorem dX2_firstOf_37 : decode cX2_firstOf 37 = .ok (.goto (-35), 3) := by decide +kernel
theorem dX2_firstOf_40 : decode cX2_firstOf 40 = .ok (.iconst (-1), 1) := by decide +kernel
theorem dX2_firstOf_41 : decode cX2_firstOf 41 = .ok (.ireturn, 1) := by decide +kernel
theorem dX2_lastOf_0 : decode cX2_lastOf 0 = .ok (.aload_n 0, 1) := by decide +kernel
theorem dX2_lastOf_1 : decode cX2_lastOf 1 = .ok (.getfield 26, 3) := by decide +kernel
theorem dX2_lastOf_4 : decode cX2_lastOf 4 = .ok (.iconst 1, 1) := by decide +kernel
theorem dX2_lastOf_5 : decode cX2_lastOf 5 = .ok (.isub, 1) := by decide +kernel
theorem dX2_lastOf_6 : decode cX2_lastOf 6 = .ok (.istore_n 3, 1) := by decide +kernel
theorem dX2_lastOf_7 : decode cX2_lastOf 7 = .ok (.iload_n 3, 1) := by decide +kernel
theorem dX2_lastOf_8 : decode cX2_lastOf 8 = .ok (.ifCond .lt 33, 3) := by decide +kernel
theorem dX2_lastOf_11 : decode cX2_lastOf 11 = .ok (.aload_n 0, 1) := by decide +kernel
theorem dX2_lastOf_12 : decode cX2_lastOf 12 = .ok (.getfield 17, 3) := by decide +kernel
theorem dX2_lastOf_15 : decode cX2_lastOf 15 = .ok (.iload_n 1, 1) := by decide +kernel
theorem dX2_lastOf_16 : decode cX2_lastOf 16 = .ok (.aaload, 1) := by decide +kernel
theorem dX2_lastOf_17 : decode cX2_lastOf 17 = .ok (.aload_n 0, 1) := by decide +kernel
theorem dX2_lastOf_18 : decode cX2_lastOf 18 = .ok (.getfield 9, 3) := by decide +kernel
theorem dX2_lastOf_21 : decode cX2_lastOf 21 = .ok (.iload_n 3, 1) := by decide +kernel
theorem dX2_lastOf_22 : decode cX2_lastOf 22 = .ok (.iaload, 1) := by decide +kernel
theorem dX2_lastOf_23 : decode cX2_lastOf 23 = .ok (.iaload, 1) := by decide +kernel
theorem dX2_lastOf_24 : decode cX2_lastOf 24 = .ok (.iload_n 2, 1) := by decide +kernel
theorem dX2_lastOf_25 : decode cX2_lastOf 25 = .ok (.if_icmp .ne 10, 3) := by decide +kernel
theorem dX2_lastOf_28 : decode cX2_lastOf 28 = .ok (.aload_n 0, 1) := by decide +kernel
theorem dX2_lastOf_29 : decode cX2_lastOf 29 = .ok (.getfield 9, 3) := by decide +kernel
theorem dX2_lastOf_32 : decode cX2_lastOf 32 = .ok (.iload_n 3, 1) := by decide +kernel
theorem dX2_lastOf_33 : decode cX2_lastOf 33 = .ok (.iaload, 1) := by decide +kernel
theorem dX2_lastOf_34 : decode cX2_lastOf 34 = .ok (.ireturn, 1) := by decide +kernel
theorem dX2_lastOf_35 : decode cX2_lastOf 35 = .ok (.iinc 3 (-1), 3) := by decide +kernel
theorem dX2_lastOf_38 : decode cX2_lastOf 38 = .ok (.goto (-31), 3) := by decide +kernel
theorem dX2_lastOf_41 : decode cX2_lastOf 41 = .ok (.iconst (-1), 1) := by decide +kernel
theorem dX2_lastOf_42 : decode cX2_lastOf 42 = .ok (.ireturn, 1) := by decide +kernel
theorem dX2_headOf_0 : decode cX2_headOf 0 = .ok (.iload_n 2, 1) := by decide +kernel
theorem dX2_headOf_1 : decode cX2_headOf 1 = .ok (.istore_n 3, 1) := by decide +kernel
theorem dX2_headOf_2 : decode cX2_headOf 2 = .ok (.iconst 0, 1) := by decide +kernel
theorem dX2_headOf_3 : decode cX2_headOf 3 = .ok (.istore 4, 2) := by decide +kernel
theorem dX2_headOf_5 : decode cX2_headOf 5 = .ok (.iload 4, 2) := by decide +kernel
theorem dX2_headOf_7 : decode cX2_headOf 7 = .ok (.aload_n 0, 1) := by decide +kernel
theorem dX2_headOf_8 : decode cX2_headOf 8 = .ok (.getfield 26, 3) := by decide +kernel
theorem dX2_headOf_11 : decode cX2_headOf 11 = .ok (.if_icmp .ge 30, 3) := by decide +kernel
theorem dX2_headOf_14 : decode cX2_headOf 14 = .ok (.aload_n 0, 1) := by decide +kernel
theorem dX2_headOf_15 : decode cX2_headOf 15 = .ok (.getfield 20, 3) := by decide +kernel
theorem dX2_headOf_18 : decode cX2_headOf 18 = .ok (.iload_n 1, 1) := by decide +kernel
theorem dX2_headOf_19 : decode cX2_headOf 19 = .ok (.aaload, 1) := by decide +kernel
theorem dX2_headOf_20 : decode cX2_headOf 20 = .ok (.iload_n 3, 1) := by decide +kernel
theorem dX2_headOf_21 : decode cX2_headOf 21 = .ok (.iaload, 1) := by decide +kernel
theorem dX2_headOf_22 : decode cX2_headOf 22 = .ok (.iconst (-1), 1) := by decide +kernel
theorem dX2_headOf_23 : decode cX2_headOf 23 = .ok (.if_icmp .eq 18, 3) := by decide +kernel
theorem dX2_headOf_26 : decode cX2_headOf 26 = .ok (.aload_n 0, 1) := by decide +kernel
theorem dX2_headOf_27 : decode cX2_headOf 27 = .ok (.getfield 20, 3) := by decide +kernel
theorem dX2_headOf_30 : decode cX2_headOf 30 = .ok (.iload_n 1, 1) := by decide +kernel
theorem dX2_headOf_31 : decode cX2_headOf 31 = .ok (.aaload, 1) := by decide +kernel
theorem dX2_headOf_32 : decode cX2_headOf 32 = .ok (.iload_n 3, 1) := by decide +kernel
theorem dX2_headOf_33 : decode cX2_headOf 33 = .ok (.iaload, 1) := by decide +kernel
theorem dX2_headOf_34 : decode cX2_headOf 34 = .ok (.istore_n 3, 1) := by decide +kernel
theorem dX2_headOf_35 : decode cX2_headOf 35 = .ok (.iinc 4 1, 3) := by decide +kernel
theorem dX2_headOf_38 : decode cX2_headOf 38 = .ok (.goto (-33), 3) := by decide +kernel
theorem dX2_headOf_41 : decode cX2_headOf 41 = .ok (.iload_n 3, 1) := by decide +kernel
theorem dX2_headOf_42 : decode cX2_headOf 42 = .ok (.ireturn, 1) := by decide +kernel
set_option maxRecDepth 20000 in
theorem ggX2_lengthOf_X2_firstOf : GoodIn wsX2_lengthOf wsX2_firstOf := goodIn_r _ [7, 1, 8, 9, 10, 11, 12, 13, 14] (by decide +kernel) (by decide +kernel)
set_option maxRecDepth 20000 in
theorem gX2_lengthOf_X2_firstOf : GoodIn wsX2_lengthOf (wsV RX2 30 RX2 yX2_firstOf wsX2_firstOf) := goodIn_app (goodIn_of _ (by decide +kernel)) ggX2_lengthOf_X2_firstOf
theorem dX2_lengthOf_0 : decode cX2_lengthOf 0 = .ok (.iconst 0, 1) := by decide +kernel
theorem dX2_lengthOf_1 : decode cX2_lengthOf 1 = .ok (.istore_n 3, 1) := by decide +kernel
theorem dX2_lengthOf_2 : decode cX2_lengthOf 2 = .ok (.aload_n 0, 1) := by decide +kernel
theorem dX2_lengthOf_3 : decode cX2_lengthOf 3 = .ok (.iload_n 1, 1) := by decide +kernel
theorem dX2_lengthOf_4 : decode cX2_lengthOf 4 = .ok (.iload_n 2, 1) := by decide +kernel
theorem dX2_lengthOf_5 : decode cX2_lengthOf 5 = .ok (.invokevirtual 30, 3) := by decide +kernel
theorem dX2_lengthOf_8 : decode cX2_lengthOf 8 = .ok (.istore 4, 2) := by decide +kernel
theorem dX2_lengthOf_10 : decode cX2_lengthOf 10 = .ok (.iconst 0, 1) := by decide +kernel
theorem dX2_lengthOf_11 : decode cX2_lengthOf 11 = .ok (.istore 5, 2) := by decide +kernel
theorem dX2_lengthOf_13 : decode cX2_lengthOf 13 = .ok (.iload 5, 2) := by decide +kernel
theorem dX2_lengthOf_15 : decode cX2_lengthOf 15 = .ok (.aload_n 0, 1) := by decide +kernel
theorem dX2_lengthOf_16 : decode cX2_lengthOf 16 = .ok (.getfield 26, 3) := by decide +kernel
theorem dX2_lengthOf_19 : decode cX2_lengthOf 19 = .ok (.if_icmp .ge 29, 3) := by decide +kernel
theorem dX2_lengthOf_22 : decode cX2_lengthOf 22 = .ok (.iload 4, 2) := by decide +kernel
theorem dX2_lengthOf_24 : decode cX2_lengthOf 24 = .ok (.iconst (-1), 1) := by decide +kernel
theorem dX2_lengthOf_25 : decode cX2_lengthOf 25 = .ok (.if_icmp .eq 23, 3) := by decide +kernel
theorem dX2_lengthOf_28 : decode cX2_lengthOf 28 = .ok (.iinc 3 1, 3) := by decide +kernel
theorem dX2_lengthOf_31 : decode cX2_lengthOf 31 = .ok (.aload_n 0, 1) := by decide +kernel
theorem dX2_lengthOf_32 : decode cX2_lengthOf 32 = .ok (.getfield 23, 3) := by decide +kernel
theorem dX2_lengthOf_35 : decode cX2_lengthOf 35 = .ok (.iload_n 1, 1) := by decide +kernel
theorem dX2_lengthOf_36 : decode cX2_lengthOf 36 = .ok (.aaload, 1) := by decide +kernel
theorem dX2_lengthOf_37 : decode cX2_lengthOf 37 = .ok (.iload 4, 2) := by decide +kernel
theorem dX2_lengthOf_39 : decode cX2_lengthOf 39 = .ok (.iaload, 1) := by decide +kernel
theorem dX2_lengthOf_40 : decode cX2_lengthOf 40 = .ok (.istore 4, 2) := by decide +kernel
theorem dX2_lengthOf_42 : decode cX2_lengthOf 42 = .ok (.iinc 5 1, 3) := by decide +kernel
theorem dX2_lengthOf_45 : decode cX2_lengthOf 45 = .ok (.goto (-32), 3) := by decide +kernel
theorem dX2_lengthOf_48 : decode cX2_lengthOf 48 = .ok (.iload_n 3, 1) := by decide +kernel
theorem dX2_lengthOf_49 : decode cX2_lengthOf 49 = .ok (.ireturn, 1) := by decide +kernel
set_option maxRecDepth 20000 in
theorem ggX2_inThread_X2_firstOf : GoodIn wsX2_inThread wsX2_firstOf := goodIn_r _ [7, 1, 8, 9, 10, 11, 12, 13, 14] (by decide +kernel) (by decide +kernel)
set_option maxRecDepth 20000 in
theorem gX2_inThread_X2_firstOf : GoodIn wsX2_inThread (wsV RX2 30 RX2 yX2_firstOf wsX2_firstOf) := goodIn_app (goodIn_of _ (by decide +kernel)) ggX2_inThread_X2_firstOf
theorem dX2_inThread_0 : decode cX2_inThread 0 = .ok (.iload_n 3, 1) := by decide +kernel
theorem dX2_inThread_1 : decode cX2_inThread 1 = .ok (.ifCond .lt 11, 3) := by decide +kernel
theorem dX2_inThread_4 : decode cX2_inThread 4 = .ok (.iload_n 3, 1) := by decide +kernel
theorem dX2_inThread_5 : decode cX2_inThread 5 = .ok (.aload_n 0, 1) := by decide +kernel
theorem dX2_inThread_6 : decode cX2_inThread 6 = .ok (.getfield 26, 3) := by decide +kernel
theorem dX2_inThread_9 : decode cX2_inThread 9 = .ok (.if_icmp .lt 5, 3) := by decide +kernel
theorem dX2_inThread_12 : decode cX2_inThread 12 = .ok (.iconst (-1), 1) := by decide +kernel
theorem dX2_inThread_13 : decode cX2_inThread 13 = .ok (.ireturn, 1) := by decide +kernel
theorem dX2_inThread_14 : decode cX2_inThread 14 = .ok (.aload_n 0, 1) := by decide +kernel
theorem dX2_inThread_15 : decode cX2_inThread 15 = .ok (.iload_n 1, 1) := by decide +kernel
theorem dX2_inThread_16 : decode cX2_inThread 16 = .ok (.iload_n 2, 1) := by decide +kernel
theorem dX2_inThread_17 : decode cX2_inThread 17 = .ok (.invokevirtual 30, 3) := by decide +kernel
theorem dX2_inThread_20 : decode cX2_inThread 20 = .ok (.istore 4, 2) := by decide +kernel
theorem dX2_inThread_22 : decode cX2_inThread 22 = .ok (.iconst 0, 1) := by decide +kernel
theorem dX2_inThread_23 : decode cX2_inThread 23 = .ok (.istore 5, 2) := by decide +kernel
theorem dX2_inThread_25 : decode cX2_inThread 25 = .ok (.iload 5, 2) := by decide +kernel
theorem dX2_inThread_27 : decode cX2_inThread 27 = .ok (.iload_n 3, 1) := by decide +kernel
theorem dX2_inThread_28 : decode cX2_inThread 28 = .ok (.if_icmp .ge 26, 3) := by decide +kernel
theorem dX2_inThread_31 : decode cX2_inThread 31 = .ok (.iload 4, 2) := by decide +kernel
theorem dX2_inThread_33 : decode cX2_inThread 33 = .ok (.iconst (-1), 1) := by decide +kernel
theorem dX2_inThread_34 : decode cX2_inThread 34 = .ok (.if_icmp .eq 20, 3) := by decide +kernel
theorem dX2_inThread_37 : decode cX2_inThread 37 = .ok (.aload_n 0, 1) := by decide +kernel
theorem dX2_inThread_38 : decode cX2_inThread 38 = .ok (.getfield 23, 3) := by decide +kernel
theorem dX2_inThread_41 : decode cX2_inThread 41 = .ok (.iload_n 1, 1) := by decide +kernel
theorem dX2_inThread_42 : decode cX2_inThread 42 = .ok (.aaload, 1) := by decide +kernel
theorem dX2_inThread_43 : decode cX2_inThread 43 = .ok (.iload 4, 2) := by decide +kernel
theorem dX2_inThread_45 : decode cX2_inThread 45 = .ok (.iaload, 1) := by decide +kernel
theorem dX2_inThread_46 : decode cX2_inThread 46 = .ok (.istore 4, 2) := by decide +kernel
theorem dX2_inThread_48 : decode cX2_inThread 48 = .ok (.iinc 5 1, 3) := by decide +kernel
theorem dX2_inThread_51 : decode cX2_inThread 51 = .ok (.goto (-26), 3) := by decide +kernel
theorem dX2_inThread_54 : decode cX2_inThread 54 = .ok (.iload 4, 2) := by decide +kernel
theorem dX2_inThread_56 : decode cX2_inThread 56 = .ok (.ireturn, 1) := by decide +kernel
theorem dX2_threadsOn_0 : decode cX2_threadsOn 0 = .ok (.iconst 0, 1) := by decide +kernel
theorem dX2_threadsOn_1 : decode cX2_threadsOn 1 = .ok (.istore_n 2, 1) := by decide +kernel
theorem dX2_threadsOn_2 : decode cX2_threadsOn 2 = .ok (.iconst 0, 1) := by decide +kernel
theorem dX2_threadsOn_3 : decode cX2_threadsOn 3 = .ok (.istore_n 3, 1) := by decide +kernel
theorem dX2_threadsOn_4 : decode cX2_threadsOn 4 = .ok (.iload_n 3, 1) := by decide +kernel
theorem dX2_threadsOn_5 : decode cX2_threadsOn 5 = .ok (.aload_n 0, 1) := by decide +kernel
theorem dX2_threadsOn_6 : decode cX2_threadsOn 6 = .ok (.getfield 26, 3) := by decide +kernel
theorem dX2_threadsOn_9 : decode cX2_threadsOn 9 = .ok (.if_icmp .ge 29, 3) := by decide +kernel
theorem dX2_threadsOn_12 : decode cX2_threadsOn 12 = .ok (.aload_n 0, 1) := by decide +kernel
theorem dX2_threadsOn_13 : decode cX2_threadsOn 13 = .ok (.getfield 20, 3) := by decide +kernel
theorem dX2_threadsOn_16 : decode cX2_threadsOn 16 = .ok (.iload_n 1, 1) := by decide +kernel
theorem dX2_threadsOn_17 : decode cX2_threadsOn 17 = .ok (.aaload, 1) := by decide +kernel
theorem dX2_threadsOn_18 : decode cX2_threadsOn 18 = .ok (.aload_n 0, 1) := by decide +kernel
theorem dX2_threadsOn_19 : decode cX2_threadsOn 19 = .ok (.getfield 9, 3) := by decide +kernel
theorem dX2_threadsOn_22 : decode cX2_threadsOn 22 = .ok (.iload_n 3, 1) := by decide +kernel
theorem dX2_threadsOn_23 : decode cX2_threadsOn 23 = .ok (.iaload, 1) := by decide +kernel
theorem dX2_threadsOn_24 : decode cX2_threadsOn 24 = .ok (.iaload, 1) := by decide +kernel
theorem dX2_threadsOn_25 : decode cX2_threadsOn 25 = .ok (.iconst (-1), 1) := by decide +kernel
theorem dX2_threadsOn_26 : decode cX2_threadsOn 26 = .ok (.if_icmp .ne 6, 3) := by decide +kernel
theorem dX2_threadsOn_29 : decode cX2_threadsOn 29 = .ok (.iinc 2 1, 3) := by decide +kernel
theorem dX2_threadsOn_32 : decode cX2_threadsOn 32 = .ok (.iinc 3 1, 3) := by decide +kernel
theorem dX2_threadsOn_35 : decode cX2_threadsOn 35 = .ok (.goto (-31), 3) := by decide +kernel
theorem dX2_threadsOn_38 : decode cX2_threadsOn 38 = .ok (.iload_n 2, 1) := by decide +kernel
theorem dX2_threadsOn_39 : decode cX2_threadsOn 39 = .ok (.ireturn, 1) := by decide +kernel
set_option maxRecDepth 20000 in
theorem ggX2_append_X2_tieOn : GoodIn wsX2_append wsX2_tieOn := goodIn_r _ [7, 8, 9, 10, 11, 12, 13, 6, 14, 2, 1, 15, 16, 17, 18, 19] (by decide +kernel) (by decide +kernel)
set_option maxRecDepth 20000 in
theorem gX2_append_X2_tieOn : GoodIn wsX2_append (wsV RX2 34 RX2 yX2_tieOn wsX2_tieOn) := goodIn_app (goodIn_of _ (by decide +kernel)) ggX2_append_X2_tieOn
theorem dX2_append_0 : decode cX2_append 0 = .ok (.aload_n 0, 1) := by decide +kernel
theorem dX2_append_1 : decode cX2_append 1 = .ok (.getfield 9, 3) := by decide +kernel
theorem dX2_append_4 : decode cX2_append 4 = .ok (.aload_n 0, 1) := by decide +kernel
theorem dX2_append_5 : decode cX2_append 5 = .ok (.getfield 26, 3) := by decide +kernel
theorem dX2_append_8 : decode cX2_append 8 = .ok (.iaload, 1) := by decide +kernel
theorem dX2_append_9 : decode cX2_append 9 = .ok (.istore_n 3, 1) := by decide +kernel
theorem dX2_append_10 : decode cX2_append 10 = .ok (.aload_n 0, 1) := by decide +kernel
theorem dX2_append_11 : decode cX2_append 11 = .ok (.iconst 0, 1) := by decide +kernel
theorem dX2_append_12 : decode cX2_append 12 = .ok (.iload_n 3, 1) := by decide +kernel
theorem dX2_append_13 : decode cX2_append 13 = .ok (.iload_n 1, 1) := by decide +kernel
theorem dX2_append_14 : decode cX2_append 14 = .ok (.invokevirtual 34, 3) := by decide +kernel
theorem dX2_append_17 : decode cX2_append 17 = .ok (.aload_n 0, 1) := by decide +kernel
theorem dX2_append_18 : decode cX2_append 18 = .ok (.iconst 1, 1) := by decide +kernel
theorem dX2_append_19 : decode cX2_append 19 = .ok (.iload_n 3, 1) := by decide +kernel
theorem dX2_append_20 : decode cX2_append 20 = .ok (.iload_n 2, 1) := by decide +kernel
theorem dX2_append_21 : decode cX2_append 21 = .ok (.invokevirtual 34, 3) := by decide +kernel
theorem dX2_append_24 : decode cX2_append 24 = .ok (.aload_n 0, 1) := by decide +kernel
theorem dX2_append_25 : decode cX2_append 25 = .ok (.dup, 1) := by decide +kernel
theorem dX2_append_26 : decode cX2_append 26 = .ok (.getfield 26, 3) := by decide +kernel
theorem dX2_append_29 : decode cX2_append 29 = .ok (.iconst 1, 1) := by decide +kernel
theorem dX2_append_30 : decode cX2_append 30 = .ok (.iadd, 1) := by decide +kernel
theorem dX2_append_31 : decode cX2_append 31 = .ok (.putfield 26, 3) := by decide +kernel
theorem dX2_append_34 : decode cX2_append 34 = .ok (.return_, 1) := by decide +kernel
set_option maxRecDepth 20000 in
theorem ggX2_tieOn_X2_lastOf : GoodIn wsX2_tieOn wsX2_lastOf := goodIn_r _ [8, 9, 1, 10, 11, 12, 13, 14, 15] (by decide +kernel) (by decide +kernel)
set_option maxRecDepth 20000 in
theorem gX2_tieOn_X2_lastOf : GoodIn wsX2_tieOn (wsV RX2 38 RX2 yX2_lastOf wsX2_lastOf) := goodIn_app (goodIn_of _ (by decide +kernel)) ggX2_tieOn_X2_lastOf
theorem dX2_tieOn_0 : decode cX2_tieOn 0 = .ok (.aload_n 0, 1) := by decide +kernel
theorem dX2_tieOn_1 : decode cX2_tieOn 1 = .ok (.iload_n 1, 1) := by decide +kernel
theorem dX2_tieOn_2 : decode cX2_tieOn 2 = .ok (.iload_n 3, 1) := by decide +kernel
theorem dX2_tieOn_3 : decode cX2_tieOn 3 = .ok (.invokevirtual 38, 3) := by decide +kernel
theorem dX2_tieOn_6 : decode cX2_tieOn 6 = .ok (.istore 4, 2) := by decide +kernel
theorem dX2_tieOn_8 : decode cX2_tieOn 8 = .ok (.aload_n 0, 1) := by decide +kernel
theorem dX2_tieOn_9 : decode cX2_tieOn 9 = .ok (.getfield 17, 3) := by decide +kernel
theorem dX2_tieOn_12 : decode cX2_tieOn 12 = .ok (.iload_n 1, 1) := by decide +kernel
theorem dX2_tieOn_13 : decode cX2_tieOn 13 = .ok (.aaload, 1) := by decide +kernel
theorem dX2_tieOn_14 : decode cX2_tieOn 14 = .ok (.iload_n 2, 1) := by decide +kernel
theorem dX2_tieOn_15 : decode cX2_tieOn 15 = .ok (.iload_n 3, 1) := by decide +kernel
theorem dX2_tieOn_16 : decode cX2_tieOn 16 = .ok (.iastore, 1) := by decide +kernel
theorem dX2_tieOn_17 : decode cX2_tieOn 17 = .ok (.aload_n 0, 1) := by decide +kernel
theorem dX2_tieOn_18 : decode cX2_tieOn 18 = .ok (.getfield 20, 3) := by decide +kernel
theorem dX2_tieOn_21 : decode cX2_tieOn 21 = .ok (.iload_n 1, 1) := by decide +kernel
theorem dX2_tieOn_22 : decode cX2_tieOn 22 = .ok (.aaload, 1) := by decide +kernel
theorem dX2_tieOn_23 : decode cX2_tieOn 23 = .ok (.iload_n 2, 1) := by decide +kernel
theorem dX2_tieOn_24 : decode cX2_tieOn 24 = .ok (.iload 4, 2) := by decide +kernel
theorem dX2_tieOn_26 : decode cX2_tieOn 26 = .ok (.iastore, 1) := by decide +kernel
theorem dX2_tieOn_27 : decode cX2_tieOn 27 = .ok (.aload_n 0, 1) := by decide +kernel
theorem dX2_tieOn_28 : decode cX2_tieOn 28 = .ok (.getfield 23, 3) := by decide +kernel
theorem dX2_tieOn_31 : decode cX2_tieOn 31 = .ok (.iload_n 1, 1) := by decide +kernel
theorem dX2_tieOn_32 : decode cX2_tieOn 32 = .ok (.aaload, 1) := by decide +kernel
theorem dX2_tieOn_33 : decode cX2_tieOn 33 = .ok (.iload_n 2, 1) := by decide +kernel
theorem dX2_tieOn_34 : decode cX2_tieOn 34 = .ok (.iconst (-1), 1) := by decide +kernel
theorem dX2_tieOn_35 : decode cX2_tieOn 35 = .ok (.iastore, 1) := by decide +kernel
theorem dX2_tieOn_36 : decode cX2_tieOn 36 = .ok (.iload 4, 2) := by decide +kernel
theorem dX2_tieOn_38 : decode cX2_tieOn 38 = .ok (.iconst (-1), 1) := by decide +kernel
theorem dX2_tieOn_39 : decode cX2_tieOn 39 = .ok (.if_icmp .eq 13, 3) := by decide +kernel
theorem dX2_tieOn_42 : decode cX2_tieOn 42 = .ok (.aload_n 0, 1) := by decide +kernel
theorem dX2_tieOn_43 : decode cX2_tieOn 43 = .ok (.getfield 23, 3) := by decide +kernel
theorem dX2_tieOn_46 : decode cX2_tieOn 46 = .ok (.iload_n 1, 1) := by decide +kernel
theorem dX2_tieOn_47 : decode cX2_tieOn 47 = .ok (.aaload, 1) := by decide +kernel
theorem dX2_tieOn_48 : decode cX2_tieOn 48 = .ok (.iload 4, 2) := by decide +kernel
theorem dX2_tieOn_50 : decode cX2_tieOn 50 = .ok (.iload_n 2, 1) := by decide +kernel
theorem dX2_tieOn_51 : decode cX2_tieOn 51 = .ok (.iastore, 1) := by decide +kernel
theorem dX2_tieOn_52 : decode cX2_tieOn 52 = .ok (.return_, 1) := by decide +kernel
end
section
set_option maxRecDepth 20000 in
theorem ggX2_takeOut_X2_untie : GoodIn wsX2_takeOut wsX2_untie := goodIn_r _ [11, 12, 13, 14, 15, 16, 17, 18] (by decide +kernel) (by decide +kernel)
set_option maxRecDepth 20000 in
theorem gX2_takeOut_X2_untie : GoodIn wsX2_takeOut (wsV RX2 41 RX2 yX2_untie wsX2_untie) := goodIn_app (goodIn_of _ (by decide +kernel)) ggX2_takeOut_X2_untie
theorem dX2_takeOut_0 : decode cX2_takeOut 0 = .ok (.aload_n 0, 1) := by decide +kernel
theorem dX2_takeOut_1 : decode cX2_takeOut 1 = .ok (.getfield 9, 3) := by decide +kernel
theorem dX2_takeOut_4 : decode cX2_takeOut 4 = .ok (.iload_n 1, 1) := by decide +kernel
theorem dX2_takeOut_5 : decode cX2_takeOut 5 = .ok (.iaload, 1) := by decide +kernel
theorem dX2_takeOut_6 : decode cX2_takeOut 6 = .ok (.istore_n 2, 1) := by decide +kernel
theorem dX2_takeOut_7 : decode cX2_takeOut 7 = .ok (.aload_n 0, 1) := by decide +kernel
theorem dX2_takeOut_8 : decode cX2_takeOut 8 = .ok (.iconst 0, 1) := by decide +kernel
theorem dX2_takeOut_9 : decode cX2_takeOut 9 = .ok (.iload_n 2, 1) := by decide +kernel
theorem dX2_takeOut_10 : decode cX2_takeOut 10 = .ok (.invokevirtual 41, 3) := by decide +kernel
theorem dX2_takeOut_13 : decode cX2_takeOut 13 = .ok (.aload_n 0, 1) := by decide +kernel
theorem dX2_takeOut_14 : decode cX2_takeOut 14 = .ok (.iconst 1, 1) := by decide +kernel
theorem dX2_takeOut_15 : decode cX2_takeOut 15 = .ok (.iload_n 2, 1) := by decide +kernel
theorem dX2_takeOut_16 : decode cX2_takeOut 16 = .ok (.invokevirtual 41, 3) := by decide +kernel
theorem dX2_takeOut_19 : decode cX2_takeOut 19 = .ok (.aload_n 0, 1) := by decide +kernel
theorem dX2_takeOut_20 : decode cX2_takeOut 20 = .ok (.dup, 1) := by decide +kernel
theorem dX2_takeOut_21 : decode cX2_takeOut 21 = .ok (.getfield 26, 3) := by decide +kernel
theorem dX2_takeOut_24 : decode cX2_takeOut 24 = .ok (.iconst 1, 1) := by decide +kernel
theorem dX2_takeOut_25 : decode cX2_takeOut 25 = .ok (.isub, 1) := by decide +kernel
theorem dX2_takeOut_26 : decode cX2_takeOut 26 = .ok (.putfield 26, 3) := by decide +kernel
theorem dX2_takeOut_29 : decode cX2_takeOut 29 = .ok (.aload_n 0, 1) := by decide +kernel
theorem dX2_takeOut_30 : decode cX2_takeOut 30 = .ok (.getfield 9, 3) := by decide +kernel
theorem dX2_takeOut_33 : decode cX2_takeOut 33 = .ok (.iload_n 1, 1) := by decide +kernel
theorem dX2_takeOut_34 : decode cX2_takeOut 34 = .ok (.iconst 1, 1) := by decide +kernel
theorem dX2_takeOut_35 : decode cX2_takeOut 35 = .ok (.iadd, 1) := by decide +kernel
theorem dX2_takeOut_36 : decode cX2_takeOut 36 = .ok (.aload_n 0, 1) := by decide +kernel
theorem dX2_takeOut_37 : decode cX2_takeOut 37 = .ok (.getfield 9, 3) := by decide +kernel
theorem dX2_takeOut_40 : decode cX2_takeOut 40 = .ok (.iload_n 1, 1) := by decide +kernel
theorem dX2_takeOut_41 : decode cX2_takeOut 41 = .ok (.aload_n 0, 1) := by decide +kernel
theorem dX2_takeOut_42 : decode cX2_takeOut 42 = .ok (.getfield 26, 3) := by decide +kernel
theorem dX2_takeOut_45 : decode cX2_takeOut 45 = .ok (.iload_n 1, 1) := by decide +kernel
theorem dX2_takeOut_46 : decode cX2_takeOut 46 = .ok (.isub, 1) := by decide +kernel
theorem dX2_takeOut_47 : decode cX2_takeOut 47 = .ok (.invokestatic 45, 3) := by decide +kernel
theorem dX2_takeOut_50 : decode cX2_takeOut 50 = .ok (.aload_n 0, 1) := by decide +kernel
theorem dX2_takeOut_51 : decode cX2_takeOut 51 = .ok (.getfield 9, 3) := by decide +kernel
theorem dX2_takeOut_54 : decode cX2_takeOut 54 = .ok (.aload_n 0, 1) := by decide +kernel
theorem dX2_takeOut_55 : decode cX2_takeOut 55 = .ok (.getfield 26, 3) := by decide +kernel
theorem dX2_takeOut_58 : decode cX2_takeOut 58 = .ok (.iload_n 2, 1) := by decide +kernel
theorem dX2_takeOut_59 : decode cX2_takeOut 59 = .ok (.iastore, 1) := by decide +kernel
theorem dX2_takeOut_60 : decode cX2_takeOut 60 = .ok (.return_, 1) := by decide +kernel
theorem dX2_untie_0 : decode cX2_untie 0 = .ok (.aload_n 0, 1) := by decide +kernel
theorem dX2_untie_1 : decode cX2_untie 1 = .ok (.getfield 20, 3) := by decide +kernel
theorem dX2_untie_4 : decode cX2_untie 4 = .ok (.iload_n 1, 1) := by decide +kernel
theorem dX2_untie_5 : decode cX2_untie 5 = .ok (.aaload, 1) := by decide +kernel
theorem dX2_untie_6 : decode cX2_untie 6 = .ok (.iload_n 2, 1) := by decide +kernel
theorem dX2_untie_7 : decode cX2_untie 7 = .ok (.iaload, 1) := by decide +kernel
theorem dX2_untie_8 : decode cX2_untie 8 = .ok (.istore_n 3, 1) := by decide +kernel
theorem dX2_untie_9 : decode cX2_untie 9 = .ok (.aload_n 0, 1) := by decide +kernel
theorem dX2_untie_10 : decode cX2_untie 10 = .ok (.getfield 23, 3) := by decide +kernel
theorem dX2_untie_13 : decode cX2_untie 13 = .ok (.iload_n 1, 1) := by decide +kernel
theorem dX2_untie_14 : decode cX2_untie 14 = .ok (.aaload, 1) := by decide +kernel
theorem dX2_untie_15 : decode cX2_untie 15 = .ok (.iload_n 2, 1) := by decide +kernel
theorem dX2_untie_16 : decode cX2_untie 16 = .ok (.iaload, 1) := by decide +kernel
theorem dX2_untie_17 : decode cX2_untie 17 = .ok (.istore 4, 2) := by decide +kernel
theorem dX2_untie_19 : decode cX2_untie 19 = .ok (.iload_n 3, 1) := by decide +kernel
theorem dX2_untie_20 : decode cX2_untie 20 = .ok (.iconst (-1), 1) := by decide +kernel
theorem dX2_untie_21 : decode cX2_untie 21 = .ok (.if_icmp .eq 13, 3) := by decide +kernel
theorem dX2_untie_24 : decode cX2_untie 24 = .ok (.aload_n 0, 1) := by decide +kernel
theorem dX2_untie_25 : decode cX2_untie 25 = .ok (.getfield 23, 3) := by decide +kernel
theorem dX2_untie_28 : decode cX2_untie 28 = .ok (.iload_n 1, 1) := by decide +kernel
theorem dX2_untie_29 : decode cX2_untie 29 = .ok (.aaload, 1) := by decide +kernel
theorem dX2_untie_30 : decode cX2_untie 30 = .ok (.iload_n 3, 1) := by decide +kernel
theorem dX2_untie_31 : decode cX2_untie 31 = .ok (.iload 4, 2) := by decide +kernel
theorem dX2_untie_33 : decode cX2_untie 33 = .ok (.iastore, 1) := by decide +kernel
theorem dX2_untie_34 : decode cX2_untie 34 = .ok (.iload 4, 2) := by decide +kernel
theorem dX2_untie_36 : decode cX2_untie 36 = .ok (.iconst (-1), 1) := by decide +kernel
theorem dX2_untie_37 : decode cX2_untie 37 = .ok (.if_icmp .eq 13, 3) := by decide +kernel
theorem dX2_untie_40 : decode cX2_untie 40 = .ok (.aload_n 0, 1) := by decide +kernel
theorem dX2_untie_41 : decode cX2_untie 41 = .ok (.getfield 20, 3) := by decide +kernel
theorem dX2_untie_44 : decode cX2_untie 44 = .ok (.iload_n 1, 1) := by decide +kernel
theorem dX2_untie_45 : decode cX2_untie 45 = .ok (.aaload, 1) := by decide +kernel
theorem dX2_untie_46 : decode cX2_untie 46 = .ok (.iload 4, 2) := by decide +kernel
theorem dX2_untie_48 : decode cX2_untie 48 = .ok (.iload_n 3, 1) := by decide +kernel
theorem dX2_untie_49 : decode cX2_untie 49 = .ok (.iastore, 1) := by decide +kernel
theorem dX2_untie_50 : decode cX2_untie 50 = .ok (.return_, 1) := by decide +kernel
set_option maxRecDepth 20000 in
theorem ggX2_takeOutAll_X2_takeOut : GoodIn wsX2_takeOutAll wsX2_takeOut := goodIn_r _ [8, 3, 1, 9, 10, 11, 12, 13, 14, 15, 7, 16, 17, 18, 19, 20, 21, 22, 23] (by decide +kernel) (by decide +kernel)
set_option maxRecDepth 20000 in
theorem gX2_takeOutAll_X2_takeOut : GoodIn wsX2_takeOutAll (wsV RX2 51 RX2 yX2_takeOut wsX2_takeOut) := goodIn_app (goodIn_of _ (by decide +kernel)) ggX2_takeOutAll_X2_takeOut
theorem dX2_takeOutAll_0 : decode cX2_takeOutAll 0 = .ok (.iconst 0, 1) := by decide +kernel
theorem dX2_takeOutAll_1 : decode cX2_takeOutAll 1 = .ok (.istore_n 3, 1) := by decide +kernel
theorem dX2_takeOutAll_2 : decode cX2_takeOutAll 2 = .ok (.aload_n 0, 1) := by decide +kernel
theorem dX2_takeOutAll_3 : decode cX2_takeOutAll 3 = .ok (.getfield 26, 3) := by decide +kernel
theorem dX2_takeOutAll_6 : decode cX2_takeOutAll 6 = .ok (.iconst 1, 1) := by decide +kernel
theorem dX2_takeOutAll_7 : decode cX2_takeOutAll 7 = .ok (.isub, 1) := by decide +kernel
theorem dX2_takeOutAll_8 : decode cX2_takeOutAll 8 = .ok (.istore 4, 2) := by decide +kernel
theorem dX2_takeOutAll_10 : decode cX2_takeOutAll 10 = .ok (.iload 4, 2) := by decide +kernel
theorem dX2_takeOutAll_12 : decode cX2_takeOutAll 12 = .ok (.ifCond .lt 36, 3) := by decide +kernel
theorem dX2_takeOutAll_15 : decode cX2_takeOutAll 15 = .ok (.aload_n 0, 1) := by decide +kernel
theorem dX2_takeOutAll_16 : decode cX2_takeOutAll 16 = .ok (.getfield 17, 3) := by decide +kernel
theorem dX2_takeOutAll_19 : decode cX2_takeOutAll 19 = .ok (.iload_n 1, 1) := by decide +kernel
theorem dX2_takeOutAll_20 : decode cX2_takeOutAll 20 = .ok (.aaload, 1) := by decide +kernel
theorem dX2_takeOutAll_21 : decode cX2_takeOutAll 21 = .ok (.aload_n 0, 1) := by decide +kernel
theorem dX2_takeOutAll_22 : decode cX2_takeOutAll 22 = .ok (.getfield 9, 3) := by decide +kernel
theorem dX2_takeOutAll_25 : decode cX2_takeOutAll 25 = .ok (.iload 4, 2) := by decide +kernel
theorem dX2_takeOutAll_27 : decode cX2_takeOutAll 27 = .ok (.iaload, 1) := by decide +kernel
theorem dX2_takeOutAll_28 : decode cX2_takeOutAll 28 = .ok (.iaload, 1) := by decide +kernel
theorem dX2_takeOutAll_29 : decode cX2_takeOutAll 29 = .ok (.iload_n 2, 1) := by decide +kernel
theorem dX2_takeOutAll_30 : decode cX2_takeOutAll 30 = .ok (.if_icmp .ne 12, 3) := by decide +kernel
theorem dX2_takeOutAll_33 : decode cX2_takeOutAll 33 = .ok (.aload_n 0, 1) := by decide +kernel
theorem dX2_takeOutAll_34 : decode cX2_takeOutAll 34 = .ok (.iload 4, 2) := by decide +kernel
theorem dX2_takeOutAll_36 : decode cX2_takeOutAll 36 = .ok (.invokevirtual 51, 3) := by decide +kernel
theorem dX2_takeOutAll_39 : decode cX2_takeOutAll 39 = .ok (.iinc 3 1, 3) := by decide +kernel
theorem dX2_takeOutAll_42 : decode cX2_takeOutAll 42 = .ok (.iinc 4 (-1), 3) := by decide +kernel
theorem dX2_takeOutAll_45 : decode cX2_takeOutAll 45 = .ok (.goto (-35), 3) := by decide +kernel
theorem dX2_takeOutAll_48 : decode cX2_takeOutAll 48 = .ok (.iload_n 3, 1) := by decide +kernel
theorem dX2_takeOutAll_49 : decode cX2_takeOutAll 49 = .ok (.ireturn, 1) := by decide +kernel
set_option maxRecDepth 20000 in
theorem ggX2_moveAll_X2_takeOut : GoodIn wsX2_moveAll wsX2_takeOut := goodIn_r _ [8, 2, 1, 9, 10, 11, 12, 13, 14, 15, 7, 16, 17, 18, 35, 36, 37, 38, 39] (by decide +kernel) (by decide +kernel)
set_option maxRecDepth 20000 in
theorem gX2_moveAll_X2_takeOut : GoodIn wsX2_moveAll (wsV RX2 51 RX2 yX2_takeOut wsX2_takeOut) := goodIn_app (goodIn_of _ (by decide +kernel)) ggX2_moveAll_X2_takeOut
set_option maxRecDepth 20000 in
theorem ggX2_moveAll_X2_placeOf : GoodIn wsX2_moveAll wsX2_placeOf := goodIn_r _ [22, 1, 2, 3, 35, 36, 37, 38, 39] (by decide +kernel) (by decide +kernel)
set_option maxRecDepth 20000 in
theorem gX2_moveAll_X2_placeOf : GoodIn wsX2_moveAll (wsV RX2 55 RX2 yX2_placeOf wsX2_placeOf) := goodIn_app (goodIn_of _ (by decide +kernel)) ggX2_moveAll_X2_placeOf
set_option maxRecDepth 20000 in
theorem ggX2_moveAll_X2_append : GoodIn wsX2_moveAll wsX2_append := goodIn_r _ [26, 2, 1, 27, 28, 29, 7, 30, 3, 17, 18, 31, 32, 33, 34, 35, 36, 37, 38, 39] (by decide +kernel) (by decide +kernel)
set_option maxRecDepth 20000 in
theorem gX2_moveAll_X2_append : GoodIn wsX2_moveAll (wsV RX2 58 RX2 yX2_append wsX2_append) := goodIn_app (goodIn_of _ (by decide +kernel)) ggX2_moveAll_X2_append
theorem dX2_moveAll_0 : decode cX2_moveAll 0 = .ok (.iconst 0, 1) := by decide +kernel
theorem dX2_moveAll_1 : decode cX2_moveAll 1 = .ok (.istore 4, 2) := by decide +kernel
theorem dX2_moveAll_3 : decode cX2_moveAll 3 = .ok (.iconst 0, 1) := by decide +kernel
theorem dX2_moveAll_4 : decode cX2_moveAll 4 = .ok (.istore 5, 2) := by decide +kernel
theorem dX2_moveAll_6 : decode cX2_moveAll 6 = .ok (.aload_n 0, 1) := by decide +kernel
theorem dX2_moveAll_7 : decode cX2_moveAll 7 = .ok (.getfield 26, 3) := by decide +kernel
theorem dX2_moveAll_10 : decode cX2_moveAll 10 = .ok (.istore 6, 2) := by decide +kernel
theorem dX2_moveAll_12 : decode cX2_moveAll 12 = .ok (.iconst 0, 1) := by decide +kernel
theorem dX2_moveAll_13 : decode cX2_moveAll 13 = .ok (.istore 7, 2) := by decide +kernel
theorem dX2_moveAll_15 : decode cX2_moveAll 15 = .ok (.iload 7, 2) := by decide +kernel
theorem dX2_moveAll_17 : decode cX2_moveAll 17 = .ok (.iload 6, 2) := by decide +kernel
theorem dX2_moveAll_19 : decode cX2_moveAll 19 = .ok (.if_icmp .ge 105, 3) := by decide +kernel
theorem dX2_moveAll_22 : decode cX2_moveAll 22 = .ok (.aload_n 0, 1) := by decide +kernel
theorem dX2_moveAll_23 : decode cX2_moveAll 23 = .ok (.getfield 9, 3) := by decide +kernel
theorem dX2_moveAll_26 : decode cX2_moveAll 26 = .ok (.iload 5, 2) := by decide +kernel
theorem dX2_moveAll_28 : decode cX2_moveAll 28 = .ok (.iaload, 1) := by decide +kernel
theorem dX2_moveAll_29 : decode cX2_moveAll 29 = .ok (.istore 8, 2) := by decide +kernel
theorem dX2_moveAll_31 : decode cX2_moveAll 31 = .ok (.aload_n 0, 1) := by decide +kernel
theorem dX2_moveAll_32 : decode cX2_moveAll 32 = .ok (.getfield 17, 3) := by decide +kernel
theorem dX2_moveAll_35 : decode cX2_moveAll 35 = .ok (.iload_n 1, 1) := by decide +kernel
theorem dX2_moveAll_36 : decode cX2_moveAll 36 = .ok (.aaload, 1) := by decide +kernel
theorem dX2_moveAll_37 : decode cX2_moveAll 37 = .ok (.iload 8, 2) := by decide +kernel
theorem dX2_moveAll_39 : decode cX2_moveAll 39 = .ok (.iaload, 1) := by decide +kernel
theorem dX2_moveAll_40 : decode cX2_moveAll 40 = .ok (.iload_n 2, 1) := by decide +kernel
theorem dX2_moveAll_41 : decode cX2_moveAll 41 = .ok (.if_icmp .eq 9, 3) := by decide +kernel
theorem dX2_moveAll_44 : decode cX2_moveAll 44 = .ok (.iinc 5 1, 3) := by decide +kernel
theorem dX2_moveAll_47 : decode cX2_moveAll 47 = .ok (.goto 71, 3) := by decide +kernel
theorem dX2_moveAll_50 : decode cX2_moveAll 50 = .ok (.iload_n 1, 1) := by decide +kernel
theorem dX2_moveAll_51 : decode cX2_moveAll 51 = .ok (.ifCond .ne 7, 3) := by decide +kernel
theorem dX2_moveAll_54 : decode cX2_moveAll 54 = .ok (.iload_n 3, 1) := by decide +kernel
theorem dX2_moveAll_55 : decode cX2_moveAll 55 = .ok (.goto 12, 3) := by decide +kernel
theorem dX2_moveAll_58 : decode cX2_moveAll 58 = .ok (.aload_n 0, 1) := by decide +kernel
theorem dX2_moveAll_59 : decode cX2_moveAll 59 = .ok (.getfield 17, 3) := by decide +kernel
theorem dX2_moveAll_62 : decode cX2_moveAll 62 = .ok (.iconst 0, 1) := by decide +kernel
theorem dX2_moveAll_63 : decode cX2_moveAll 63 = .ok (.aaload, 1) := by decide +kernel
theorem dX2_moveAll_64 : decode cX2_moveAll 64 = .ok (.iload 8, 2) := by decide +kernel
theorem dX2_moveAll_66 : decode cX2_moveAll 66 = .ok (.iaload, 1) := by decide +kernel
theorem dX2_moveAll_67 : decode cX2_moveAll 67 = .ok (.istore 9, 2) := by decide +kernel
theorem dX2_moveAll_69 : decode cX2_moveAll 69 = .ok (.iload_n 1, 1) := by decide +kernel
theorem dX2_moveAll_70 : decode cX2_moveAll 70 = .ok (.iconst 1, 1) := by decide +kernel
theorem dX2_moveAll_71 : decode cX2_moveAll 71 = .ok (.if_icmp .ne 7, 3) := by decide +kernel
theorem dX2_moveAll_74 : decode cX2_moveAll 74 = .ok (.iload_n 3, 1) := by decide +kernel
theorem dX2_moveAll_75 : decode cX2_moveAll 75 = .ok (.goto 12, 3) := by decide +kernel
theorem dX2_moveAll_78 : decode cX2_moveAll 78 = .ok (.aload_n 0, 1) := by decide +kernel
theorem dX2_moveAll_79 : decode cX2_moveAll 79 = .ok (.getfield 17, 3) := by decide +kernel
theorem dX2_moveAll_82 : decode cX2_moveAll 82 = .ok (.iconst 1, 1) := by decide +kernel
theorem dX2_moveAll_83 : decode cX2_moveAll 83 = .ok (.aaload, 1) := by decide +kernel
theorem dX2_moveAll_84 : decode cX2_moveAll 84 = .ok (.iload 8, 2) := by decide +kernel
theorem dX2_moveAll_86 : decode cX2_moveAll 86 = .ok (.iaload, 1) := by decide +kernel
theorem dX2_moveAll_87 : decode cX2_moveAll 87 = .ok (.istore 10, 2) := by decide +kernel
theorem dX2_moveAll_89 : decode cX2_moveAll 89 = .ok (.aload_n 0, 1) := by decide +kernel
theorem dX2_moveAll_90 : decode cX2_moveAll 90 = .ok (.iload 5, 2) := by decide +kernel
theorem dX2_moveAll_92 : decode cX2_moveAll 92 = .ok (.invokevirtual 51, 3) := by decide +kernel
theorem dX2_moveAll_95 : decode cX2_moveAll 95 = .ok (.aload_n 0, 1) := by decide +kernel
theorem dX2_moveAll_96 : decode cX2_moveAll 96 = .ok (.iload 9, 2) := by decide +kernel
theorem dX2_moveAll_98 : decode cX2_moveAll 98 = .ok (.iload 10, 2) := by decide +kernel
theorem dX2_moveAll_100 : decode cX2_moveAll 100 = .ok (.invokevirtual 55, 3) := by decide +kernel
theorem dX2_moveAll_103 : decode cX2_moveAll 103 = .ok (.iconst (-1), 1) := by decide +kernel
theorem dX2_moveAll_104 : decode cX2_moveAll 104 = .ok (.if_icmp .ne 14, 3) := by decide +kernel
theorem dX2_moveAll_107 : decode cX2_moveAll 107 = .ok (.aload_n 0, 1) := by decide +kernel
theorem dX2_moveAll_108 : decode cX2_moveAll 108 = .ok (.iload 9, 2) := by decide +kernel
theorem dX2_moveAll_110 : decode cX2_moveAll 110 = .ok (.iload 10, 2) := by decide +kernel
theorem dX2_moveAll_112 : decode cX2_moveAll 112 = .ok (.invokevirtual 58, 3) := by decide +kernel
theorem dX2_moveAll_115 : decode cX2_moveAll 115 = .ok (.iinc 4 1, 3) := by decide +kernel
theorem dX2_moveAll_118 : decode cX2_moveAll 118 = .ok (.iinc 7 1, 3) := by decide +kernel
theorem dX2_moveAll_121 : decode cX2_moveAll 121 = .ok (.goto (-106), 3) := by decide +kernel
theorem dX2_moveAll_124 : decode cX2_moveAll 124 = .ok (.iload 4, 2) := by decide +kernel
theorem dX2_moveAll_126 : decode cX2_moveAll 126 = .ok (.ireturn, 1) := by decide +kernel
set_option maxRecDepth 20000 in
theorem ggX2_areSound_X2_firstOf : GoodIn wsX2_areSound wsX2_firstOf := goodIn_r _ [8, 1, 3, 2, 15, 16, 17, 18, 19] (by decide +kernel) (by decide +kernel)
set_option maxRecDepth 20000 in
theorem gX2_areSound_X2_firstOf : GoodIn wsX2_areSound (wsV RX2 30 RX2 yX2_firstOf wsX2_firstOf) := goodIn_app (goodIn_of _ (by decide +kernel)) ggX2_areSound_X2_firstOf
set_option maxRecDepth 20000 in
theorem ggX2_areSound_X2_isSoundFrom : GoodIn wsX2_areSound wsX2_isSoundFrom := goodIn_r _ [12, 2, 3, 1, 13, 14, 15, 16, 17, 18, 19] (by decide +kernel) (by decide +kernel)
set_option maxRecDepth 20000 in
theorem gX2_areSound_X2_isSoundFrom : GoodIn wsX2_areSound (wsV RX2 61 RX2 yX2_isSoundFrom wsX2_isSoundFrom) := goodIn_app (goodIn_of _ (by decide +kernel)) ggX2_areSound_X2_isSoundFrom
theorem dX2_areSound_0 : decode cX2_areSound 0 = .ok (.iconst 0, 1) := by decide +kernel
theorem dX2_areSound_1 : decode cX2_areSound 1 = .ok (.istore_n 2, 1) := by decide +kernel
theorem dX2_areSound_2 : decode cX2_areSound 2 = .ok (.iload_n 2, 1) := by decide +kernel
theorem dX2_areSound_3 : decode cX2_areSound 3 = .ok (.aload_n 0, 1) := by decide +kernel
theorem dX2_areSound_4 : decode cX2_areSound 4 = .ok (.getfield 26, 3) := by decide +kernel
theorem dX2_areSound_7 : decode cX2_areSound 7 = .ok (.if_icmp .ge 44, 3) := by decide +kernel
theorem dX2_areSound_10 : decode cX2_areSound 10 = .ok (.aload_n 0, 1) := by decide +kernel
theorem dX2_areSound_11 : decode cX2_areSound 11 = .ok (.getfield 9, 3) := by decide +kernel
theorem dX2_areSound_14 : decode cX2_areSound 14 = .ok (.iload_n 2, 1) := by decide +kernel
theorem dX2_areSound_15 : decode cX2_areSound 15 = .ok (.iaload, 1) := by decide +kernel
theorem dX2_areSound_16 : decode cX2_areSound 16 = .ok (.istore_n 3, 1) := by decide +kernel
theorem dX2_areSound_17 : decode cX2_areSound 17 = .ok (.aload_n 0, 1) := by decide +kernel
theorem dX2_areSound_18 : decode cX2_areSound 18 = .ok (.iload_n 1, 1) := by decide +kernel
theorem dX2_areSound_19 : decode cX2_areSound 19 = .ok (.aload_n 0, 1) := by decide +kernel
theorem dX2_areSound_20 : decode cX2_areSound 20 = .ok (.getfield 17, 3) := by decide +kernel
theorem dX2_areSound_23 : decode cX2_areSound 23 = .ok (.iload_n 1, 1) := by decide +kernel
theorem dX2_areSound_24 : decode cX2_areSound 24 = .ok (.aaload, 1) := by decide +kernel
theorem dX2_areSound_25 : decode cX2_areSound 25 = .ok (.iload_n 3, 1) := by decide +kernel
theorem dX2_areSound_26 : decode cX2_areSound 26 = .ok (.iaload, 1) := by decide +kernel
theorem dX2_areSound_27 : decode cX2_areSound 27 = .ok (.invokevirtual 30, 3) := by decide +kernel
theorem dX2_areSound_30 : decode cX2_areSound 30 = .ok (.iload_n 3, 1) := by decide +kernel
theorem dX2_areSound_31 : decode cX2_areSound 31 = .ok (.if_icmp .ne 14, 3) := by decide +kernel
theorem dX2_areSound_34 : decode cX2_areSound 34 = .ok (.aload_n 0, 1) := by decide +kernel
theorem dX2_areSound_35 : decode cX2_areSound 35 = .ok (.iload_n 1, 1) := by decide +kernel
theorem dX2_areSound_36 : decode cX2_areSound 36 = .ok (.iload_n 2, 1) := by decide +kernel
theorem dX2_areSound_37 : decode cX2_areSound 37 = .ok (.invokevirtual 61, 3) := by decide +kernel
theorem dX2_areSound_40 : decode cX2_areSound 40 = .ok (.ifCond .ne 5, 3) := by decide +kernel
theorem dX2_areSound_43 : decode cX2_areSound 43 = .ok (.iconst 0, 1) := by decide +kernel
theorem dX2_areSound_44 : decode cX2_areSound 44 = .ok (.ireturn, 1) := by decide +kernel
theorem dX2_areSound_45 : decode cX2_areSound 45 = .ok (.iinc 2 1, 3) := by decide +kernel
theorem dX2_areSound_48 : decode cX2_areSound 48 = .ok (.goto (-46), 3) := by decide +kernel
theorem dX2_areSound_51 : decode cX2_areSound 51 = .ok (.iconst 1, 1) := by decide +kernel
theorem dX2_areSound_52 : decode cX2_areSound 52 = .ok (.ireturn, 1) := by decide +kernel
theorem dX2_isSoundFrom_0 : decode cX2_isSoundFrom 0 = .ok (.aload_n 0, 1) := by decide +kernel
theorem dX2_isSoundFrom_1 : decode cX2_isSoundFrom 1 = .ok (.getfield 9, 3) := by decide +kernel
theorem dX2_isSoundFrom_4 : decode cX2_isSoundFrom 4 = .ok (.iload_n 2, 1) := by decide +kernel
theorem dX2_isSoundFrom_5 : decode cX2_isSoundFrom 5 = .ok (.iaload, 1) := by decide +kernel
theorem dX2_isSoundFrom_6 : decode cX2_isSoundFrom 6 = .ok (.istore_n 3, 1) := by decide +kernel
theorem dX2_isSoundFrom_7 : decode cX2_isSoundFrom 7 = .ok (.iconst (-1), 1) := by decide +kernel
theorem dX2_isSoundFrom_8 : decode cX2_isSoundFrom 8 = .ok (.istore 4, 2) := by decide +kernel
theorem dX2_isSoundFrom_10 : decode cX2_isSoundFrom 10 = .ok (.aload_n 0, 1) := by decide +kernel
theorem dX2_isSoundFrom_11 : decode cX2_isSoundFrom 11 = .ok (.getfield 17, 3) := by decide +kernel
theorem dX2_isSoundFrom_14 : decode cX2_isSoundFrom 14 = .ok (.iload_n 1, 1) := by decide +kernel
theorem dX2_isSoundFrom_15 : decode cX2_isSoundFrom 15 = .ok (.aaload, 1) := by decide +kernel
theorem dX2_isSoundFrom_16 : decode cX2_isSoundFrom 16 = .ok (.iload_n 3, 1) := by decide +kernel
theorem dX2_isSoundFrom_17 : decode cX2_isSoundFrom 17 = .ok (.iaload, 1) := by decide +kernel
theorem dX2_isSoundFrom_18 : decode cX2_isSoundFrom 18 = .ok (.istore 5, 2) := by decide +kernel
theorem dX2_isSoundFrom_20 : decode cX2_isSoundFrom 20 = .ok (.iload_n 2, 1) := by decide +kernel
theorem dX2_isSoundFrom_21 : decode cX2_isSoundFrom 21 = .ok (.istore 6, 2) := by decide +kernel
theorem dX2_isSoundFrom_23 : decode cX2_isSoundFrom 23 = .ok (.iload 6, 2) := by decide +kernel
theorem dX2_isSoundFrom_25 : decode cX2_isSoundFrom 25 = .ok (.aload_n 0, 1) := by decide +kernel
theorem dX2_isSoundFrom_26 : decode cX2_isSoundFrom 26 = .ok (.getfield 26, 3) := by decide +kernel
theorem dX2_isSoundFrom_29 : decode cX2_isSoundFrom 29 = .ok (.if_icmp .ge 71, 3) := by decide +kernel
theorem dX2_isSoundFrom_32 : decode cX2_isSoundFrom 32 = .ok (.aload_n 0, 1) := by decide +kernel
theorem dX2_isSoundFrom_33 : decode cX2_isSoundFrom 33 = .ok (.getfield 9, 3) := by decide +kernel
theorem dX2_isSoundFrom_36 : decode cX2_isSoundFrom 36 = .ok (.iload 6, 2) := by decide +kernel
theorem dX2_isSoundFrom_38 : decode cX2_isSoundFrom 38 = .ok (.iaload, 1) := by decide +kernel
theorem dX2_isSoundFrom_39 : decode cX2_isSoundFrom 39 = .ok (.istore 7, 2) := by decide +kernel
theorem dX2_isSoundFrom_41 : decode cX2_isSoundFrom 41 = .ok (.aload_n 0, 1) := by decide +kernel
theorem dX2_isSoundFrom_42 : decode cX2_isSoundFrom 42 = .ok (.getfield 17, 3) := by decide +kernel
theorem dX2_isSoundFrom_45 : decode cX2_isSoundFrom 45 = .ok (.iload_n 1, 1) := by decide +kernel
theorem dX2_isSoundFrom_46 : decode cX2_isSoundFrom 46 = .ok (.aaload, 1) := by decide +kernel
theorem dX2_isSoundFrom_47 : decode cX2_isSoundFrom 47 = .ok (.iload 7, 2) := by decide +kernel
theorem dX2_isSoundFrom_49 : decode cX2_isSoundFrom 49 = .ok (.iaload, 1) := by decide +kernel
theorem dX2_isSoundFrom_50 : decode cX2_isSoundFrom 50 = .ok (.iload 5, 2) := by decide +kernel
theorem dX2_isSoundFrom_52 : decode cX2_isSoundFrom 52 = .ok (.if_icmp .eq 6, 3) := by decide +kernel
theorem dX2_isSoundFrom_55 : decode cX2_isSoundFrom 55 = .ok (.goto 39, 3) := by decide +kernel
theorem dX2_isSoundFrom_58 : decode cX2_isSoundFrom 58 = .ok (.iload 7, 2) := by decide +kernel
theorem dX2_isSoundFrom_60 : decode cX2_isSoundFrom 60 = .ok (.iload_n 3, 1) := by decide +kernel
theorem dX2_isSoundFrom_61 : decode cX2_isSoundFrom 61 = .ok (.if_icmp .ne 17, 3) := by decide +kernel
theorem dX2_isSoundFrom_64 : decode cX2_isSoundFrom 64 = .ok (.aload_n 0, 1) := by decide +kernel
theorem dX2_isSoundFrom_65 : decode cX2_isSoundFrom 65 = .ok (.getfield 20, 3) := by decide +kernel
theorem dX2_isSoundFrom_68 : decode cX2_isSoundFrom 68 = .ok (.iload_n 1, 1) := by decide +kernel
theorem dX2_isSoundFrom_69 : decode cX2_isSoundFrom 69 = .ok (.aaload, 1) := by decide +kernel
theorem dX2_isSoundFrom_70 : decode cX2_isSoundFrom 70 = .ok (.iload 7, 2) := by decide +kernel
theorem dX2_isSoundFrom_72 : decode cX2_isSoundFrom 72 = .ok (.iaload, 1) := by decide +kernel
theorem dX2_isSoundFrom_73 : decode cX2_isSoundFrom 73 = .ok (.iload 4, 2) := by decide +kernel
theorem dX2_isSoundFrom_75 : decode cX2_isSoundFrom 75 = .ok (.if_icmp .eq 5, 3) := by decide +kernel
theorem dX2_isSoundFrom_78 : decode cX2_isSoundFrom 78 = .ok (.iconst 0, 1) := by decide +kernel
theorem dX2_isSoundFrom_79 : decode cX2_isSoundFrom 79 = .ok (.ireturn, 1) := by decide +kernel
theorem dX2_isSoundFrom_80 : decode cX2_isSoundFrom 80 = .ok (.iload 7, 2) := by decide +kernel
theorem dX2_isSoundFrom_82 : decode cX2_isSoundFrom 82 = .ok (.istore 4, 2) := by decide +kernel
theorem dX2_isSoundFrom_84 : decode cX2_isSoundFrom 84 = .ok (.aload_n 0, 1) := by decide +kernel
theorem dX2_isSoundFrom_85 : decode cX2_isSoundFrom 85 = .ok (.getfield 23, 3) := by decide +kernel
theorem dX2_isSoundFrom_88 : decode cX2_isSoundFrom 88 = .ok (.iload_n 1, 1) := by decide +kernel
theorem dX2_isSoundFrom_89 : decode cX2_isSoundFrom 89 = .ok (.aaload, 1) := by decide +kernel
theorem dX2_isSoundFrom_90 : decode cX2_isSoundFrom 90 = .ok (.iload 7, 2) := by decide +kernel
theorem dX2_isSoundFrom_92 : decode cX2_isSoundFrom 92 = .ok (.iaload, 1) := by decide +kernel
theorem dX2_isSoundFrom_93 : decode cX2_isSoundFrom 93 = .ok (.istore_n 3, 1) := by decide +kernel
theorem dX2_isSoundFrom_94 : decode cX2_isSoundFrom 94 = .ok (.iinc 6 1, 3) := by decide +kernel
theorem dX2_isSoundFrom_97 : decode cX2_isSoundFrom 97 = .ok (.goto (-74), 3) := by decide +kernel
theorem dX2_isSoundFrom_100 : decode cX2_isSoundFrom 100 = .ok (.iload_n 3, 1) := by decide +kernel
theorem dX2_isSoundFrom_101 : decode cX2_isSoundFrom 101 = .ok (.iconst (-1), 1) := by decide +kernel
theorem dX2_isSoundFrom_102 : decode cX2_isSoundFrom 102 = .ok (.if_icmp .ne 7, 3) := by decide +kernel
theorem dX2_isSoundFrom_105 : decode cX2_isSoundFrom 105 = .ok (.iconst 1, 1) := by decide +kernel
theorem dX2_isSoundFrom_106 : decode cX2_isSoundFrom 106 = .ok (.goto 4, 3) := by decide +kernel
theorem dX2_isSoundFrom_109 : decode cX2_isSoundFrom 109 = .ok (.iconst 0, 1) := by decide +kernel
theorem dX2_isSoundFrom_110 : decode cX2_isSoundFrom 110 = .ok (.ireturn, 1) := by decide +kernel
set_option maxRecDepth 20000 in
theorem ggX3_init_X2_init : GoodIn wsX3_init wsX2_init := goodIn_r _ [18, 19, 2, 3, 20, 21, 22, 23, 24, 25, 42, 43, 44, 45, 46] (by decide +kernel) (by decide +kernel)
set_option maxRecDepth 20000 in
theorem gX3_init_X2_init : GoodIn wsX3_init (wsX2_init) := ggX3_init_X2_init
set_option maxRecDepth 20000 in
theorem ggX3_init_X1_init : GoodIn wsX3_init wsX1_init := goodIn_r _ [27, 28, 2, 3, 20, 29, 30, 31, 32, 50, 51, 52, 53] (by decide +kernel) (by decide +kernel)
set_option maxRecDepth 20000 in
theorem gX3_init_X1_init_n18 : GoodIn wsX3_init (wsX1_init) := ggX3_init_X1_init
set_option maxRecDepth 20000 in
theorem ggX3_init_X0_init : GoodIn wsX3_init wsX0_init := goodIn_r _ [34, 35, 2, 3, 36, 20, 37, 38, 39, 40, 41, 54, 55, 56, 57, 58, 59] (by decide +kernel) (by decide +kernel)
set_option maxRecDepth 20000 in
theorem gX3_init_X0_init_n25 : GoodIn wsX3_init (wsX0_init) := ggX3_init_X0_init
theorem dX3_init_0 : decode cX3_init 0 = .ok (.aload_n 0, 1) := by decide +kernel
theorem dX3_init_1 : decode cX3_init 1 = .ok (.invokespecial 1, 3) := by decide +kernel
theorem dX3_init_4 : decode cX3_init 4 = .ok (.aload_n 0, 1) := by decide +kernel
theorem dX3_init_5 : decode cX3_init 5 = .ok (.new 7, 3) := by decide +kernel
theorem dX3_init_8 : decode cX3_init 8 = .ok (.dup, 1) := by decide +kernel
theorem dX3_init_9 : decode cX3_init 9 = .ok (.invokespecial 9, 3) := by decide +kernel
theorem dX3_init_12 : decode cX3_init 12 = .ok (.putfield 10, 3) := by decide +kernel
theorem dX3_init_15 : decode cX3_init 15 = .ok (.aload_n 0, 1) := by decide +kernel
theorem dX3_init_16 : decode cX3_init 16 = .ok (.new 16, 3) := by decide +kernel
theorem dX3_init_19 : decode cX3_init 19 = .ok (.dup, 1) := by decide +kernel
theorem dX3_init_20 : decode cX3_init 20 = .ok (.invokespecial 18, 3) := by decide +kernel
theorem dX3_init_23 : decode cX3_init 23 = .ok (.putfield 19, 3) := by decide +kernel
theorem dX3_init_26 : decode cX3_init 26 = .ok (.aload_n 0, 1) := by decide +kernel
theorem dX3_init_27 : decode cX3_init 27 = .ok (.new 23, 3) := by decide +kernel
theorem dX3_init_30 : decode cX3_init 30 = .ok (.dup, 1) := by decide +kernel
theorem dX3_init_31 : decode cX3_init 31 = .ok (.invokespecial 25, 3) := by decide +kernel
theorem dX3_init_34 : decode cX3_init 34 = .ok (.putfield 26, 3) := by decide +kernel
theorem dX3_init_37 : decode cX3_init 37 = .ok (.return_, 1) := by decide +kernel
set_option maxRecDepth 20000 in
theorem ggX3_link_X2_placeOf : GoodIn wsX3_link wsX2_placeOf := goodIn_r _ [6, 7, 8, 9, 27, 28, 29, 30, 31] (by decide +kernel) (by decide +kernel)
set_option maxRecDepth 20000 in
theorem gX3_link_X2_placeOf : GoodIn wsX3_link (wsV RX3 30 RX2 yX2_placeOf wsX2_placeOf) := goodIn_app (goodIn_of _ (by decide +kernel)) ggX3_link_X2_placeOf
set_option maxRecDepth 20000 in
theorem ggX3_link_X2_append : GoodIn wsX3_link wsX2_append := goodIn_r _ [13, 8, 7, 14, 15, 16, 5, 17, 9, 18, 19, 20, 21, 22, 23, 27, 28, 29, 30, 31] (by decide +kernel) (by decide +kernel)
set_option maxRecDepth 20000 in
theorem gX3_link_X2_append : GoodIn wsX3_link (wsV RX3 38 RX2 yX2_append wsX2_append) := goodIn_app (goodIn_of _ (by decide +kernel)) ggX3_link_X2_append
theorem dX3_link_0 : decode cX3_link 0 = .ok (.aload_n 0, 1) := by decide +kernel
theorem dX3_link_1 : decode cX3_link 1 = .ok (.getfield 10, 3) := by decide +kernel
theorem dX3_link_4 : decode cX3_link 4 = .ok (.iload_n 1, 1) := by decide +kernel
theorem dX3_link_5 : decode cX3_link 5 = .ok (.iload_n 2, 1) := by decide +kernel
theorem dX3_link_6 : decode cX3_link 6 = .ok (.invokevirtual 30, 3) := by decide +kernel
theorem dX3_link_9 : decode cX3_link 9 = .ok (.iconst (-1), 1) := by decide +kernel
theorem dX3_link_10 : decode cX3_link 10 = .ok (.if_icmp .eq 5, 3) := by decide +kernel
theorem dX3_link_13 : decode cX3_link 13 = .ok (.iconst (-1), 1) := by decide +kernel
theorem dX3_link_14 : decode cX3_link 14 = .ok (.ireturn, 1) := by decide +kernel
theorem dX3_link_15 : decode cX3_link 15 = .ok (.aload_n 0, 1) := by decide +kernel
theorem dX3_link_16 : decode cX3_link 16 = .ok (.getfield 10, 3) := by decide +kernel
theorem dX3_link_19 : decode cX3_link 19 = .ok (.getfield 34, 3) := by decide +kernel
theorem dX3_link_22 : decode cX3_link 22 = .ok (.sipush 300, 3) := by decide +kernel
theorem dX3_link_25 : decode cX3_link 25 = .ok (.if_icmp .lt 6, 3) := by decide +kernel
theorem dX3_link_28 : decode cX3_link 28 = .ok (.bipush (-2), 2) := by decide +kernel
theorem dX3_link_30 : decode cX3_link 30 = .ok (.ireturn, 1) := by decide +kernel
theorem dX3_link_31 : decode cX3_link 31 = .ok (.aload_n 0, 1) := by decide +kernel
theorem dX3_link_32 : decode cX3_link 32 = .ok (.getfield 10, 3) := by decide +kernel
theorem dX3_link_35 : decode cX3_link 35 = .ok (.iload_n 1, 1) := by decide +kernel
theorem dX3_link_36 : decode cX3_link 36 = .ok (.iload_n 2, 1) := by decide +kernel
theorem dX3_link_37 : decode cX3_link 37 = .ok (.invokevirtual 38, 3) := by decide +kernel
theorem dX3_link_40 : decode cX3_link 40 = .ok (.aload_n 0, 1) := by decide +kernel
theorem dX3_link_41 : decode cX3_link 41 = .ok (.getfield 10, 3) := by decide +kernel
theorem dX3_link_44 : decode cX3_link 44 = .ok (.getfield 34, 3) := by decide +kernel
theorem dX3_link_47 : decode cX3_link 47 = .ok (.ireturn, 1) := by decide +kernel
set_option maxRecDepth 20000 in
theorem ggX3_unlink_X2_placeOf : GoodIn wsX3_unlink wsX2_placeOf := goodIn_r _ [6, 7, 8, 9, 27, 28, 29, 30, 31] (by decide +kernel) (by decide +kernel)
set_option maxRecDepth 20000 in
theorem gX3_unlink_X2_placeOf : GoodIn wsX3_unlink (wsV RX3 30 RX2 yX2_placeOf wsX2_placeOf) := goodIn_app (goodIn_of _ (by decide +kernel)) ggX3_unlink_X2_placeOf
set_option maxRecDepth 20000 in
theorem ggX3_unlink_X2_takeOut : GoodIn wsX3_unlink wsX2_takeOut := goodIn_r _ [13, 8, 7, 14, 15, 16, 17, 18, 19, 20, 5, 21, 22, 23, 27, 28, 29, 30, 31] (by decide +kernel) (by decide +kernel)
set_option maxRecDepth 20000 in
theorem gX3_unlink_X2_takeOut : GoodIn wsX3_unlink (wsV RX3 42 RX2 yX2_takeOut wsX2_takeOut) := goodIn_app (goodIn_of _ (by decide +kernel)) ggX3_unlink_X2_takeOut
theorem dX3_unlink_0 : decode cX3_unlink 0 = .ok (.aload_n 0, 1) := by decide +kernel
theorem dX3_unlink_1 : decode cX3_unlink 1 = .ok (.getfield 10, 3) := by decide +kernel
theorem dX3_unlink_4 : decode cX3_unlink 4 = .ok (.iload_n 1, 1) := by decide +kernel
theorem dX3_unlink_5 : decode cX3_unlink 5 = .ok (.iload_n 2, 1) := by decide +kernel
theorem dX3_unlink_6 : decode cX3_unlink 6 = .ok (.invokevirtual 30, 3) := by decide +kernel
theorem dX3_unlink_9 : decode cX3_unlink 9 = .ok (.istore_n 3, 1) := by decide +kernel
theorem dX3_unlink_10 : decode cX3_unlink 10 = .ok (.iload_n 3, 1) := by decide +kernel
theorem dX3_unlink_11 : decode cX3_unlink 11 = .ok (.iconst (-1), 1) := by decide +kernel
theorem dX3_unlink_12 : decode cX3_unlink 12 = .ok (.if_icmp .ne 5, 3) := by decide +kernel
theorem dX3_unlink_15 : decode cX3_unlink 15 = .ok (.iconst (-1), 1) := by decide +kernel
theorem dX3_unlink_16 : decode cX3_unlink 16 = .ok (.ireturn, 1) := by decide +kernel
theorem dX3_unlink_17 : decode cX3_unlink 17 = .ok (.aload_n 0, 1) := by decide +kernel
theorem dX3_unlink_18 : decode cX3_unlink 18 = .ok (.getfield 10, 3) := by decide +kernel
theorem dX3_unlink_21 : decode cX3_unlink 21 = .ok (.iload_n 3, 1) := by decide +kernel
theorem dX3_unlink_22 : decode cX3_unlink 22 = .ok (.invokevirtual 42, 3) := by decide +kernel
theorem dX3_unlink_25 : decode cX3_unlink 25 = .ok (.aload_n 0, 1) := by decide +kernel
theorem dX3_unlink_26 : decode cX3_unlink 26 = .ok (.getfield 10, 3) := by decide +kernel
theorem dX3_unlink_29 : decode cX3_unlink 29 = .ok (.getfield 34, 3) := by decide +kernel
theorem dX3_unlink_32 : decode cX3_unlink 32 = .ok (.ireturn, 1) := by decide +kernel
set_option maxRecDepth 20000 in
theorem ggX3_place_X2_placeOf : GoodIn wsX3_place wsX2_placeOf := goodIn_r _ [6, 7, 8, 9, 13, 14, 15, 16, 17] (by decide +kernel) (by decide +kernel)
set_option maxRecDepth 20000 in
theorem gX3_place_X2_placeOf : GoodIn wsX3_place (wsV RX3 30 RX2 yX2_placeOf wsX2_placeOf) := goodIn_app (goodIn_of _ (by decide +kernel)) ggX3_place_X2_placeOf
theorem dX3_place_0 : decode cX3_place 0 = .ok (.aload_n 0, 1) := by decide +kernel
theorem dX3_place_1 : decode cX3_place 1 = .ok (.getfield 10, 3) := by decide +kernel
theorem dX3_place_4 : decode cX3_place 4 = .ok (.iload_n 1, 1) := by decide +kernel
theorem dX3_place_5 : decode cX3_place 5 = .ok (.iload_n 2, 1) := by decide +kernel
theorem dX3_place_6 : decode cX3_place 6 = .ok (.invokevirtual 30, 3) := by decide +kernel
theorem dX3_place_9 : decode cX3_place 9 = .ok (.ireturn, 1) := by decide +kernel
set_option maxRecDepth 20000 in
theorem ggX3_degree_X3_isSide : GoodIn wsX3_degree wsX3_isSide := goodIn_r _ [5] (by decide +kernel) (by decide +kernel)
set_option maxRecDepth 20000 in
theorem gX3_degree_X3_isSide : GoodIn wsX3_degree (va_wsS RX3 46 yX3_isSide wsX3_isSide) := goodIn_app (goodIn_of _ (by decide +kernel)) ggX3_degree_X3_isSide
set_option maxRecDepth 20000 in
theorem ggX3_degree_X2_lengthOf : GoodIn wsX3_degree wsX2_lengthOf := goodIn_r _ [10, 11, 12, 13, 14, 15, 9, 16, 17, 18, 22, 23, 24, 25, 26] (by decide +kernel) (by decide +kernel)
set_option maxRecDepth 20000 in
theorem gX3_degree_X2_lengthOf : GoodIn wsX3_degree (wsV RX3 50 RX2 yX2_lengthOf wsX2_lengthOf) := goodIn_app (goodIn_of _ (by decide +kernel)) ggX3_degree_X2_lengthOf
theorem dX3_degree_0 : decode cX3_degree 0 = .ok (.iload_n 1, 1) := by decide +kernel
theorem dX3_degree_1 : decode cX3_degree 1 = .ok (.invokestatic 46, 3) := by decide +kernel
theorem dX3_degree_4 : decode cX3_degree 4 = .ok (.ifCond .eq 15, 3) := by decide +kernel
theorem dX3_degree_7 : decode cX3_degree 7 = .ok (.aload_n 0, 1) := by decide +kernel
theorem dX3_degree_8 : decode cX3_degree 8 = .ok (.getfield 10, 3) := by decide +kernel
theorem dX3_degree_11 : decode cX3_degree 11 = .ok (.iload_n 1, 1) := by decide +kernel
theorem dX3_degree_12 : decode cX3_degree 12 = .ok (.iload_n 2, 1) := by decide +kernel
theorem dX3_degree_13 : decode cX3_degree 13 = .ok (.invokevirtual 50, 3) := by decide +kernel
theorem dX3_degree_16 : decode cX3_degree 16 = .ok (.goto 4, 3) := by decide +kernel
theorem dX3_degree_19 : decode cX3_degree 19 = .ok (.iconst (-1), 1) := by decide +kernel
theorem dX3_degree_20 : decode cX3_degree 20 = .ok (.ireturn, 1) := by decide +kernel
set_option maxRecDepth 20000 in
theorem ggX3_other_X3_isSide : GoodIn wsX3_other wsX3_isSide := goodIn_r _ [5] (by decide +kernel) (by decide +kernel)
set_option maxRecDepth 20000 in
theorem gX3_other_X3_isSide : GoodIn wsX3_other (va_wsS RX3 46 yX3_isSide wsX3_isSide) := goodIn_app (goodIn_of _ (by decide +kernel)) ggX3_other_X3_isSide
set_option maxRecDepth 20000 in
theorem ggX3_other_X2_inThread : GoodIn wsX3_other wsX2_inThread := goodIn_r _ [10, 11, 12, 13, 14, 15, 9, 16, 17, 18, 22, 23, 24, 25, 26] (by decide +kernel) (by decide +kernel)
set_option maxRecDepth 20000 in
theorem gX3_other_X2_inThread : GoodIn wsX3_other (wsV RX3 53 RX2 yX2_inThread wsX2_inThread) := goodIn_app (goodIn_of _ (by decide +kernel)) ggX3_other_X2_inThread
theorem dX3_other_0 : decode cX3_other 0 = .ok (.iload_n 1, 1) := by decide +kernel
theorem dX3_other_1 : decode cX3_other 1 = .ok (.invokestatic 46, 3) := by decide +kernel
theorem dX3_other_4 : decode cX3_other 4 = .ok (.ifCond .ne 5, 3) := by decide +kernel
theorem dX3_other_7 : decode cX3_other 7 = .ok (.iconst 0, 1) := by decide +kernel
theorem dX3_other_8 : decode cX3_other 8 = .ok (.ireturn, 1) := by decide +kernel
theorem dX3_other_9 : decode cX3_other 9 = .ok (.aload_n 0, 1) := by decide +kernel
theorem dX3_other_10 : decode cX3_other 10 = .ok (.getfield 10, 3) := by decide +kernel
theorem dX3_other_13 : decode cX3_other 13 = .ok (.iload_n 1, 1) := by decide +kernel
theorem dX3_other_14 : decode cX3_other 14 = .ok (.iload_n 2, 1) := by decide +kernel
theorem dX3_other_15 : decode cX3_other 15 = .ok (.iload_n 3, 1) := by decide +kernel
theorem dX3_other_16 : decode cX3_other 16 = .ok (.invokevirtual 53, 3) := by decide +kernel
theorem dX3_other_19 : decode cX3_other 19 = .ok (.istore 4, 2) := by decide +kernel
theorem dX3_other_21 : decode cX3_other 21 = .ok (.iload 4, 2) := by decide +kernel
theorem dX3_other_23 : decode cX3_other 23 = .ok (.iconst (-1), 1) := by decide +kernel
theorem dX3_other_24 : decode cX3_other 24 = .ok (.if_icmp .ne 7, 3) := by decide +kernel
theorem dX3_other_27 : decode cX3_other 27 = .ok (.iconst 0, 1) := by decide +kernel
theorem dX3_other_28 : decode cX3_other 28 = .ok (.goto 17, 3) := by decide +kernel
theorem dX3_other_31 : decode cX3_other 31 = .ok (.aload_n 0, 1) := by decide +kernel
theorem dX3_other_32 : decode cX3_other 32 = .ok (.getfield 10, 3) := by decide +kernel
theorem dX3_other_35 : decode cX3_other 35 = .ok (.getfield 57, 3) := by decide +kernel
theorem dX3_other_38 : decode cX3_other 38 = .ok (.iconst 1, 1) := by decide +kernel
theorem dX3_other_39 : decode cX3_other 39 = .ok (.iload_n 1, 1) := by decide +kernel
theorem dX3_other_40 : decode cX3_other 40 = .ok (.isub, 1) := by decide +kernel
theorem dX3_other_41 : decode cX3_other 41 = .ok (.aaload, 1) := by decide +kernel
theorem dX3_other_42 : decode cX3_other 42 = .ok (.iload 4, 2) := by decide +kernel
theorem dX3_other_44 : decode cX3_other 44 = .ok (.iaload, 1) := by decide +kernel
theorem dX3_other_45 : decode cX3_other 45 = .ok (.ireturn, 1) := by decide +kernel
set_option maxRecDepth 20000 in
theorem ggX3_drop_X3_isSide : GoodIn wsX3_drop wsX3_isSide := goodIn_r _ [5] (by decide +kernel) (by decide +kernel)
set_option maxRecDepth 20000 in
theorem gX3_drop_X3_isSide : GoodIn wsX3_drop (va_wsS RX3 46 yX3_isSide wsX3_isSide) := goodIn_app (goodIn_of _ (by decide +kernel)) ggX3_drop_X3_isSide
set_option maxRecDepth 20000 in
theorem ggX3_drop_X2_takeOutAll : GoodIn wsX3_drop wsX2_takeOutAll := goodIn_r _ [10, 11, 12, 13, 14, 15, 16, 9, 17, 18, 19, 20, 21, 22, 23, 24, 25, 26, 27, 31, 32, 33, 34, 35] (by decide +kernel) (by decide +kernel)
set_option maxRecDepth 20000 in
theorem gX3_drop_X2_takeOutAll : GoodIn wsX3_drop (wsV RX3 61 RX2 yX2_takeOutAll wsX2_takeOutAll) := goodIn_app (goodIn_of _ (by decide +kernel)) ggX3_drop_X2_takeOutAll
theorem dX3_drop_0 : decode cX3_drop 0 = .ok (.iload_n 1, 1) := by decide +kernel
theorem dX3_drop_1 : decode cX3_drop 1 = .ok (.invokestatic 46, 3) := by decide +kernel
theorem dX3_drop_4 : decode cX3_drop 4 = .ok (.ifCond .eq 15, 3) := by decide +kernel
theorem dX3_drop_7 : decode cX3_drop 7 = .ok (.aload_n 0, 1) := by decide +kernel
theorem dX3_drop_8 : decode cX3_drop 8 = .ok (.getfield 10, 3) := by decide +kernel
theorem dX3_drop_11 : decode cX3_drop 11 = .ok (.iload_n 1, 1) := by decide +kernel
theorem dX3_drop_12 : decode cX3_drop 12 = .ok (.iload_n 2, 1) := by decide +kernel
theorem dX3_drop_13 : decode cX3_drop 13 = .ok (.invokevirtual 61, 3) := by decide +kernel
theorem dX3_drop_16 : decode cX3_drop 16 = .ok (.goto 4, 3) := by decide +kernel
theorem dX3_drop_19 : decode cX3_drop 19 = .ok (.iconst (-1), 1) := by decide +kernel
theorem dX3_drop_20 : decode cX3_drop 20 = .ok (.ireturn, 1) := by decide +kernel
set_option maxRecDepth 20000 in
theorem ggX3_rename_X3_isSide : GoodIn wsX3_rename wsX3_isSide := goodIn_r _ [5] (by decide +kernel) (by decide +kernel)
set_option maxRecDepth 20000 in
theorem gX3_rename_X3_isSide : GoodIn wsX3_rename (va_wsS RX3 46 yX3_isSide wsX3_isSide) := goodIn_app (goodIn_of _ (by decide +kernel)) ggX3_rename_X3_isSide
set_option maxRecDepth 20000 in
theorem ggX3_rename_X2_moveAll : GoodIn wsX3_rename wsX2_moveAll := goodIn_r _ [10, 11, 12, 13, 14, 15, 16, 9, 17, 18, 19, 20, 21, 22, 23, 24, 25, 26, 27, 28, 29, 30, 31, 32, 33, 34, 35, 36, 37, 38, 39, 40, 41, 42, 43, 47, 48, 49, 50, 51] (by decide +kernel) (by decide +kernel)
set_option maxRecDepth 20000 in
theorem gX3_rename_X2_moveAll : GoodIn wsX3_rename (wsV RX3 64 RX2 yX2_moveAll wsX2_moveAll) := goodIn_app (goodIn_of _ (by decide +kernel)) ggX3_rename_X2_moveAll
theorem dX3_rename_0 : decode cX3_rename 0 = .ok (.iload_n 1, 1) := by decide +kernel
theorem dX3_rename_1 : decode cX3_rename 1 = .ok (.invokestatic 46, 3) := by decide +kernel
theorem dX3_rename_4 : decode cX3_rename 4 = .ok (.ifCond .eq 21, 3) := by decide +kernel
theorem dX3_rename_7 : decode cX3_rename 7 = .ok (.iload_n 2, 1) := by decide +kernel
theorem dX3_rename_8 : decode cX3_rename 8 = .ok (.iload_n 3, 1) := by decide +kernel
theorem dX3_rename_9 : decode cX3_rename 9 = .ok (.if_icmp .eq 16, 3) := by decide +kernel
theorem dX3_rename_12 : decode cX3_rename 12 = .ok (.aload_n 0, 1) := by decide +kernel
theorem dX3_rename_13 : decode cX3_rename 13 = .ok (.getfield 10, 3) := by decide +kernel
theorem dX3_rename_16 : decode cX3_rename 16 = .ok (.iload_n 1, 1) := by decide +kernel
theorem dX3_rename_17 : decode cX3_rename 17 = .ok (.iload_n 2, 1) := by decide +kernel
theorem dX3_rename_18 : decode cX3_rename 18 = .ok (.iload_n 3, 1) := by decide +kernel
theorem dX3_rename_19 : decode cX3_rename 19 = .ok (.invokevirtual 64, 3) := by decide +kernel
theorem dX3_rename_22 : decode cX3_rename 22 = .ok (.goto 4, 3) := by decide +kernel
theorem dX3_rename_25 : decode cX3_rename 25 = .ok (.iconst (-1), 1) := by decide +kernel
theorem dX3_rename_26 : decode cX3_rename 26 = .ok (.ireturn, 1) := by decide +kernel
set_option maxRecDepth 20000 in
theorem ggX3_at_X3_isSide : GoodIn wsX3_at wsX3_isSide := goodIn_r _ [5] (by decide +kernel) (by decide +kernel)
set_option maxRecDepth 20000 in
theorem gX3_at_X3_isSide : GoodIn wsX3_at (va_wsS RX3 46 yX3_isSide wsX3_isSide) := goodIn_app (goodIn_of _ (by decide +kernel)) ggX3_at_X3_isSide
theorem dX3_at_0 : decode cX3_at 0 = .ok (.iload_n 2, 1) := by decide +kernel
theorem dX3_at_1 : decode cX3_at 1 = .ok (.invokestatic 46, 3) := by decide +kernel
theorem dX3_at_4 : decode cX3_at 4 = .ok (.ifCond .eq 18, 3) := by decide +kernel
theorem dX3_at_7 : decode cX3_at 7 = .ok (.iload_n 1, 1) := by decide +kernel
theorem dX3_at_8 : decode cX3_at 8 = .ok (.ifCond .lt 14, 3) := by decide +kernel
theorem dX3_at_11 : decode cX3_at 11 = .ok (.iload_n 1, 1) := by decide +kernel
theorem dX3_at_12 : decode cX3_at 12 = .ok (.aload_n 0, 1) := by decide +kernel
theorem dX3_at_13 : decode cX3_at 13 = .ok (.getfield 10, 3) := by decide +kernel
theorem dX3_at_16 : decode cX3_at 16 = .ok (.getfield 34, 3) := by decide +kernel
theorem dX3_at_19 : decode cX3_at 19 = .ok (.if_icmp .lt 5, 3) := by decide +kernel
theorem dX3_at_22 : decode cX3_at 22 = .ok (.iconst 0, 1) := by decide +kernel
theorem dX3_at_23 : decode cX3_at 23 = .ok (.ireturn, 1) := by decide +kernel
theorem dX3_at_24 : decode cX3_at 24 = .ok (.aload_n 0, 1) := by decide +kernel
theorem dX3_at_25 : decode cX3_at 25 = .ok (.getfield 10, 3) := by decide +kernel
theorem dX3_at_28 : decode cX3_at 28 = .ok (.getfield 57, 3) := by decide +kernel
theorem dX3_at_31 : decode cX3_at 31 = .ok (.iload_n 2, 1) := by decide +kernel
theorem dX3_at_32 : decode cX3_at 32 = .ok (.aaload, 1) := by decide +kernel
theorem dX3_at_33 : decode cX3_at 33 = .ok (.aload_n 0, 1) := by decide +kernel
theorem dX3_at_34 : decode cX3_at 34 = .ok (.getfield 10, 3) := by decide +kernel
theorem dX3_at_37 : decode cX3_at 37 = .ok (.getfield 67, 3) := by decide +kernel
theorem dX3_at_40 : decode cX3_at 40 = .ok (.iload_n 1, 1) := by decide +kernel
theorem dX3_at_41 : decode cX3_at 41 = .ok (.iaload, 1) := by decide +kernel
theorem dX3_at_42 : decode cX3_at 42 = .ok (.iaload, 1) := by decide +kernel
theorem dX3_at_43 : decode cX3_at 43 = .ok (.ireturn, 1) := by decide +kernel
set_option maxRecDepth 20000 in
theorem ggX3_count_X2_threadsOn : GoodIn wsX3_count wsX2_threadsOn := goodIn_r _ [8, 9, 10, 11, 96, 97, 98, 99, 100] (by decide +kernel) (by decide +kernel)
set_option maxRecDepth 20000 in
theorem gX3_count_X2_threadsOn : GoodIn wsX3_count (wsV RX3 71 RX2 yX2_threadsOn wsX2_threadsOn) := goodIn_app (goodIn_of _ (by decide +kernel)) ggX3_count_X2_threadsOn
set_option maxRecDepth 20000 in
theorem ggX3_count_X0_largest : GoodIn wsX3_count wsX0_largest := goodIn_r _ [16, 17, 18, 19, 15, 20, 21, 22, 23, 24, 25, 26, 27, 28, 29, 30, 31, 32, 33, 34, 35, 36, 37, 38, 39, 40, 41, 42, 43, 44, 45, 46, 47, 48, 49, 50, 51, 52, 53, 54, 55, 56, 57, 58, 59, 60, 61, 62, 96, 97, 98, 99, 100, 101, 102, 103, 104, 105, 106] (by decide +kernel) (by decide +kernel)
set_option maxRecDepth 20000 in
theorem gX3_count_X0_largest : GoodIn wsX3_count (wsV RX3 75 RX0 yX0_largest wsX0_largest) := goodIn_app (goodIn_of _ (by decide +kernel)) ggX3_count_X0_largest
set_option maxRecDepth 20000 in
theorem ggX3_count_X1_allParts : GoodIn wsX3_count wsX1_allParts := goodIn_r _ [67, 68, 69, 70, 71, 66, 72, 73, 74, 75, 28, 29, 30, 76, 77, 78, 79, 80, 81, 82, 83, 84, 85, 86, 87, 7, 88, 9, 10, 89, 90, 91, 92, 96, 97, 98, 99, 100, 107, 108, 109, 110] (by decide +kernel) (by decide +kernel)
set_option maxRecDepth 20000 in
theorem gX3_count_X1_allParts : GoodIn wsX3_count (wsV RX3 79 RX1 yX1_allParts wsX1_allParts) := goodIn_app (goodIn_of _ (by decide +kernel)) ggX3_count_X1_allParts
theorem dX3_count_0 : decode cX3_count 0 = .ok (.iload_n 1, 1) := by decide +kernel
theorem dX3_count_1 : decode cX3_count 1 = .ok (.tableswitch 85 0 4 #[35, 43, 52, 61, 73], 35) := by decide +kernel
theorem dX3_count_36 : decode cX3_count 36 = .ok (.aload_n 0, 1) := by decide +kernel
theorem dX3_count_37 : decode cX3_count 37 = .ok (.getfield 10, 3) := by decide +kernel
theorem dX3_count_40 : decode cX3_count 40 = .ok (.getfield 34, 3) := by decide +kernel
theorem dX3_count_43 : decode cX3_count 43 = .ok (.ireturn, 1) := by decide +kernel
theorem dX3_count_44 : decode cX3_count 44 = .ok (.aload_n 0, 1) := by decide +kernel
theorem dX3_count_45 : decode cX3_count 45 = .ok (.getfield 10, 3) := by decide +kernel
theorem dX3_count_48 : decode cX3_count 48 = .ok (.iconst 0, 1) := by decide +kernel
theorem dX3_count_49 : decode cX3_count 49 = .ok (.invokevirtual 71, 3) := by decide +kernel
theorem dX3_count_52 : decode cX3_count 52 = .ok (.ireturn, 1) := by decide +kernel
theorem dX3_count_53 : decode cX3_count 53 = .ok (.aload_n 0, 1) := by decide +kernel
theorem dX3_count_54 : decode cX3_count 54 = .ok (.getfield 10, 3) := by decide +kernel
theorem dX3_count_57 : decode cX3_count 57 = .ok (.iconst 1, 1) := by decide +kernel
theorem dX3_count_58 : decode cX3_count 58 = .ok (.invokevirtual 71, 3) := by decide +kernel
theorem dX3_count_61 : decode cX3_count 61 = .ok (.ireturn, 1) := by decide +kernel
theorem dX3_count_62 : decode cX3_count 62 = .ok (.aload_n 0, 1) := by decide +kernel
theorem dX3_count_63 : decode cX3_count 63 = .ok (.getfield 26, 3) := by decide +kernel
theorem dX3_count_66 : decode cX3_count 66 = .ok (.aload_n 0, 1) := by decide +kernel
theorem dX3_count_67 : decode cX3_count 67 = .ok (.getfield 10, 3) := by decide +kernel
theorem dX3_count_70 : decode cX3_count 70 = .ok (.invokevirtual 75, 3) := by decide +kernel
theorem dX3_count_73 : decode cX3_count 73 = .ok (.ireturn, 1) := by decide +kernel
theorem dX3_count_74 : decode cX3_count 74 = .ok (.aload_n 0, 1) := by decide +kernel
theorem dX3_count_75 : decode cX3_count 75 = .ok (.getfield 19, 3) := by decide +kernel
theorem dX3_count_78 : decode cX3_count 78 = .ok (.aload_n 0, 1) := by decide +kernel
theorem dX3_count_79 : decode cX3_count 79 = .ok (.getfield 10, 3) := by decide +kernel
theorem dX3_count_82 : decode cX3_count 82 = .ok (.invokevirtual 79, 3) := by decide +kernel
theorem dX3_count_85 : decode cX3_count 85 = .ok (.ireturn, 1) := by decide +kernel
theorem dX3_count_86 : decode cX3_count 86 = .ok (.iconst (-1), 1) := by decide +kernel
theorem dX3_count_87 : decode cX3_count 87 = .ok (.ireturn, 1) := by decide +kernel
set_option maxRecDepth 20000 in
theorem ggX3_part_X3_isSide : GoodIn wsX3_part wsX3_isSide := goodIn_r _ [6] (by decide +kernel) (by decide +kernel)
set_option maxRecDepth 20000 in
theorem gX3_part_X3_isSide : GoodIn wsX3_part (va_wsS RX3 46 yX3_isSide wsX3_isSide) := goodIn_app (goodIn_of _ (by decide +kernel)) ggX3_part_X3_isSide
set_option maxRecDepth 20000 in
theorem ggX3_part_X1_partOf : GoodIn wsX3_part wsX1_partOf := goodIn_r _ [11, 12, 13, 14, 15, 10, 16, 17, 18, 19, 20, 21, 22, 23, 24, 25, 26, 27, 28, 29, 30, 31, 32, 33, 34, 35, 36, 37, 38, 39, 40, 41, 42, 43, 44, 45, 46, 47, 48, 49, 50, 51, 52, 56, 57, 58, 59, 60, 61, 62, 63, 64] (by decide +kernel) (by decide +kernel)
set_option maxRecDepth 20000 in
theorem gX3_part_X1_partOf : GoodIn wsX3_part (wsV RX3 82 RX1 yX1_partOf wsX1_partOf) := goodIn_app (goodIn_of _ (by decide +kernel)) ggX3_part_X1_partOf
theorem dX3_part_0 : decode cX3_part 0 = .ok (.iload_n 1, 1) := by decide +kernel
theorem dX3_part_1 : decode cX3_part 1 = .ok (.invokestatic 46, 3) := by decide +kernel
theorem dX3_part_4 : decode cX3_part 4 = .ok (.ifCond .eq 19, 3) := by decide +kernel
theorem dX3_part_7 : decode cX3_part 7 = .ok (.aload_n 0, 1) := by decide +kernel
theorem dX3_part_8 : decode cX3_part 8 = .ok (.getfield 19, 3) := by decide +kernel
theorem dX3_part_11 : decode cX3_part 11 = .ok (.aload_n 0, 1) := by decide +kernel
theorem dX3_part_12 : decode cX3_part 12 = .ok (.getfield 10, 3) := by decide +kernel
theorem dX3_part_15 : decode cX3_part 15 = .ok (.iload_n 1, 1) := by decide +kernel
theorem dX3_part_16 : decode cX3_part 16 = .ok (.iload_n 2, 1) := by decide +kernel
theorem dX3_part_17 : decode cX3_part 17 = .ok (.invokevirtual 82, 3) := by decide +kernel
theorem dX3_part_20 : decode cX3_part 20 = .ok (.goto 4, 3) := by decide +kernel
theorem dX3_part_23 : decode cX3_part 23 = .ok (.iconst 0, 1) := by decide +kernel
theorem dX3_part_24 : decode cX3_part 24 = .ok (.ireturn, 1) := by decide +kernel
set_option maxRecDepth 20000 in
theorem ggX3_way_X3_isSide : GoodIn wsX3_way wsX3_isSide := goodIn_r _ [6] (by decide +kernel) (by decide +kernel)
set_option maxRecDepth 20000 in
theorem gX3_way_X3_isSide : GoodIn wsX3_way (va_wsS RX3 46 yX3_isSide wsX3_isSide) := goodIn_app (goodIn_of _ (by decide +kernel)) ggX3_way_X3_isSide
set_option maxRecDepth 20000 in
theorem ggX3_way_X1_leastRow : GoodIn wsX3_way wsX1_leastRow := goodIn_r _ [11, 12, 13, 14, 15, 16, 17, 10, 18, 19, 20, 21, 22, 23, 24, 25, 26, 27, 28, 29, 30, 31, 32, 33, 34, 35, 36, 37, 38, 39, 40, 41, 42, 43, 44, 45, 46, 47, 48, 49, 50, 51, 52, 56, 57, 58, 59, 60, 61, 62, 63, 64] (by decide +kernel) (by decide +kernel)
set_option maxRecDepth 20000 in
theorem gX3_way_X1_leastRow : GoodIn wsX3_way (wsV RX3 86 RX1 yX1_leastRow wsX1_leastRow) := goodIn_app (goodIn_of _ (by decide +kernel)) ggX3_way_X1_leastRow
theorem dX3_way_0 : decode cX3_way 0 = .ok (.iload_n 1, 1) := by decide +kernel
theorem dX3_way_1 : decode cX3_way 1 = .ok (.invokestatic 46, 3) := by decide +kernel
theorem dX3_way_4 : decode cX3_way 4 = .ok (.ifCond .eq 10, 3) := by decide +kernel
theorem dX3_way_7 : decode cX3_way 7 = .ok (.iload_n 3, 1) := by decide +kernel
theorem dX3_way_8 : decode cX3_way 8 = .ok (.invokestatic 46, 3) := by decide +kernel
theorem dX3_way_11 : decode cX3_way 11 = .ok (.ifCond .ne 5, 3) := by decide +kernel
theorem dX3_way_14 : decode cX3_way 14 = .ok (.iconst 0, 1) := by decide +kernel
theorem dX3_way_15 : decode cX3_way 15 = .ok (.ireturn, 1) := by decide +kernel
theorem dX3_way_16 : decode cX3_way 16 = .ok (.aload_n 0, 1) := by decide +kernel
theorem dX3_way_17 : decode cX3_way 17 = .ok (.getfield 19, 3) := by decide +kernel
theorem dX3_way_20 : decode cX3_way 20 = .ok (.aload_n 0, 1) := by decide +kernel
theorem dX3_way_21 : decode cX3_way 21 = .ok (.getfield 10, 3) := by decide +kernel
theorem dX3_way_24 : decode cX3_way 24 = .ok (.iload_n 1, 1) := by decide +kernel
theorem dX3_way_25 : decode cX3_way 25 = .ok (.iload_n 2, 1) := by decide +kernel
theorem dX3_way_26 : decode cX3_way 26 = .ok (.iload_n 3, 1) := by decide +kernel
theorem dX3_way_27 : decode cX3_way 27 = .ok (.iload 4, 2) := by decide +kernel
theorem dX3_way_29 : decode cX3_way 29 = .ok (.invokevirtual 86, 3) := by decide +kernel
theorem dX3_way_32 : decode cX3_way 32 = .ok (.ireturn, 1) := by decide +kernel
theorem dX3_clear_0 : decode cX3_clear 0 = .ok (.aload_n 0, 1) := by decide +kernel
theorem dX3_clear_1 : decode cX3_clear 1 = .ok (.getfield 10, 3) := by decide +kernel
theorem dX3_clear_4 : decode cX3_clear 4 = .ok (.getfield 34, 3) := by decide +kernel
theorem dX3_clear_7 : decode cX3_clear 7 = .ok (.istore_n 1, 1) := by decide +kernel
theorem dX3_clear_8 : decode cX3_clear 8 = .ok (.aload_n 0, 1) := by decide +kernel
theorem dX3_clear_9 : decode cX3_clear 9 = .ok (.getfield 10, 3) := by decide +kernel
theorem dX3_clear_12 : decode cX3_clear 12 = .ok (.iconst 0, 1) := by decide +kernel
theorem dX3_clear_13 : decode cX3_clear 13 = .ok (.putfield 34, 3) := by decide +kernel
theorem dX3_clear_16 : decode cX3_clear 16 = .ok (.iload_n 1, 1) := by decide +kernel
theorem dX3_clear_17 : decode cX3_clear 17 = .ok (.ireturn, 1) := by decide +kernel
set_option maxRecDepth 20000 in
theorem ggX3_check_X2_areSound : GoodIn wsX3_check wsX2_areSound := goodIn_r _ [6, 7, 8, 9, 10, 11, 12, 5, 13, 14, 15, 16, 17, 18, 19, 23, 24, 25, 26, 27] (by decide +kernel) (by decide +kernel)
set_option maxRecDepth 20000 in
theorem gX3_check_X2_areSound : GoodIn wsX3_check (wsV RX3 90 RX2 yX2_areSound wsX2_areSound) := goodIn_app (goodIn_of _ (by decide +kernel)) ggX3_check_X2_areSound
theorem dX3_check_0 : decode cX3_check 0 = .ok (.aload_n 0, 1) := by decide +kernel
theorem dX3_check_1 : decode cX3_check 1 = .ok (.getfield 10, 3) := by decide +kernel
theorem dX3_check_4 : decode cX3_check 4 = .ok (.iconst 0, 1) := by decide +kernel
theorem dX3_check_5 : decode cX3_check 5 = .ok (.invokevirtual 90, 3) := by decide +kernel
theorem dX3_check_8 : decode cX3_check 8 = .ok (.ifCond .eq 18, 3) := by decide +kernel
theorem dX3_check_11 : decode cX3_check 11 = .ok (.aload_n 0, 1) := by decide +kernel
theorem dX3_check_12 : decode cX3_check 12 = .ok (.getfield 10, 3) := by decide +kernel
theorem dX3_check_15 : decode cX3_check 15 = .ok (.iconst 1, 1) := by decide +kernel
theorem dX3_check_16 : decode cX3_check 16 = .ok (.invokevirtual 90, 3) := by decide +kernel
theorem dX3_check_19 : decode cX3_check 19 = .ok (.ifCond .eq 7, 3) := by decide +kernel
theorem dX3_check_22 : decode cX3_check 22 = .ok (.iconst 1, 1) := by decide +kernel
theorem dX3_check_23 : decode cX3_check 23 = .ok (.goto 4, 3) := by decide +kernel
theorem dX3_check_26 : decode cX3_check 26 = .ok (.iconst 0, 1) := by decide +kernel
theorem dX3_check_27 : decode cX3_check 27 = .ok (.ireturn, 1) := by decide +kernel
theorem dX3_isSide_0 : decode cX3_isSide 0 = .ok (.iload_n 0, 1) := by decide +kernel
theorem dX3_isSide_1 : decode cX3_isSide 1 = .ok (.ifCond .eq 8, 3) := by decide +kernel
theorem dX3_isSide_4 : decode cX3_isSide 4 = .ok (.iload_n 0, 1) := by decide +kernel
theorem dX3_isSide_5 : decode cX3_isSide 5 = .ok (.iconst 1, 1) := by decide +kernel
theorem dX3_isSide_6 : decode cX3_isSide 6 = .ok (.if_icmp .ne 7, 3) := by decide +kernel
theorem dX3_isSide_9 : decode cX3_isSide 9 = .ok (.iconst 1, 1) := by decide +kernel
theorem dX3_isSide_10 : decode cX3_isSide 10 = .ok (.goto 4, 3) := by decide +kernel
theorem dX3_isSide_13 : decode cX3_isSide 13 = .ok (.iconst 0, 1) := by decide +kernel
theorem dX3_isSide_14 : decode cX3_isSide 14 = .ok (.ireturn, 1) := by decide +kernel
theorem dX4_init_0 : decode cX4_init 0 = .ok (.aload_n 0, 1) := by decide +kernel
theorem dX4_init_1 : decode cX4_init 1 = .ok (.invokespecial 1, 3) := by decide +kernel
theorem dX4_init_4 : decode cX4_init 4 = .ok (.aload_n 0, 1) := by decide +kernel
theorem dX4_init_5 : decode cX4_init 5 = .ok (.sipush 300, 3) := by decide +kernel
theorem dX4_init_8 : decode cX4_init 8 = .ok (.newarray .int, 2) := by decide +kernel
theorem dX4_init_10 : decode cX4_init 10 = .ok (.putfield 7, 3) := by decide +kernel
theorem dX4_init_13 : decode cX4_init 13 = .ok (.aload_n 0, 1) := by decide +kernel
theorem dX4_init_14 : decode cX4_init 14 = .ok (.sipush 300, 3) := by decide +kernel
theorem dX4_init_17 : decode cX4_init 17 = .ok (.newarray .int, 2) := by decide +kernel
theorem dX4_init_19 : decode cX4_init 19 = .ok (.putfield 13, 3) := by decide +kernel
theorem dX4_init_22 : decode cX4_init 22 = .ok (.aload_n 0, 1) := by decide +kernel
theorem dX4_init_23 : decode cX4_init 23 = .ok (.sipush 300, 3) := by decide +kernel
theorem dX4_init_26 : decode cX4_init 26 = .ok (.newarray .int, 2) := by decide +kernel
theorem dX4_init_28 : decode cX4_init 28 = .ok (.putfield 16, 3) := by decide +kernel
theorem dX4_init_31 : decode cX4_init 31 = .ok (.aload_n 0, 1) := by decide +kernel
theorem dX4_init_32 : decode cX4_init 32 = .ok (.sipush 300, 3) := by decide +kernel
theorem dX4_init_35 : decode cX4_init 35 = .ok (.newarray .int, 2) := by decide +kernel
theorem dX4_init_37 : decode cX4_init 37 = .ok (.putfield 19, 3) := by decide +kernel
theorem dX4_init_40 : decode cX4_init 40 = .ok (.aload_n 0, 1) := by decide +kernel
theorem dX4_init_41 : decode cX4_init 41 = .ok (.sipush 300, 3) := by decide +kernel
theorem dX4_init_44 : decode cX4_init 44 = .ok (.newarray .int, 2) := by decide +kernel
theorem dX4_init_46 : decode cX4_init 46 = .ok (.putfield 22, 3) := by decide +kernel
theorem dX4_init_49 : decode cX4_init 49 = .ok (.aload_n 0, 1) := by decide +kernel
theorem dX4_init_50 : decode cX4_init 50 = .ok (.sipush 300, 3) := by decide +kernel
theorem dX4_init_53 : decode cX4_init 53 = .ok (.newarray .int, 2) := by decide +kernel
theorem dX4_init_55 : decode cX4_init 55 = .ok (.putfield 25, 3) := by decide +kernel
theorem dX4_init_58 : decode cX4_init 58 = .ok (.aload_n 0, 1) := by decide +kernel
theorem dX4_init_59 : decode cX4_init 59 = .ok (.sipush 300, 3) := by decide +kernel
theorem dX4_init_62 : decode cX4_init 62 = .ok (.newarray .int, 2) := by decide +kernel
theorem dX4_init_64 : decode cX4_init 64 = .ok (.putfield 28, 3) := by decide +kernel
theorem dX4_init_67 : decode cX4_init 67 = .ok (.aload_n 0, 1) := by decide +kernel
theorem dX4_init_68 : decode cX4_init 68 = .ok (.sipush 300, 3) := by decide +kernel
theorem dX4_init_71 : decode cX4_init 71 = .ok (.newarray .boolean, 2) := by decide +kernel
theorem dX4_init_73 : decode cX4_init 73 = .ok (.putfield 31, 3) := by decide +kernel
theorem dX4_init_76 : decode cX4_init 76 = .ok (.aload_n 0, 1) := by decide +kernel
theorem dX4_init_77 : decode cX4_init 77 = .ok (.sipush 300, 3) := by decide +kernel
theorem dX4_init_80 : decode cX4_init 80 = .ok (.newarray .int, 2) := by decide +kernel
theorem dX4_init_82 : decode cX4_init 82 = .ok (.putfield 35, 3) := by decide +kernel
theorem dX4_init_85 : decode cX4_init 85 = .ok (.aload_n 0, 1) := by decide +kernel
theorem dX4_init_86 : decode cX4_init 86 = .ok (.sipush 300, 3) := by decide +kernel
theorem dX4_init_89 : decode cX4_init 89 = .ok (.newarray .int, 2) := by decide +kernel
theorem dX4_init_91 : decode cX4_init 91 = .ok (.putfield 38, 3) := by decide +kernel
theorem dX4_init_94 : decode cX4_init 94 = .ok (.aload_n 0, 1) := by decide +kernel
theorem dX4_init_95 : decode cX4_init 95 = .ok (.sipush 300, 3) := by decide +kernel
theorem dX4_init_98 : decode cX4_init 98 = .ok (.newarray .int, 2) := by decide +kernel
theorem dX4_init_100 : decode cX4_init 100 = .ok (.putfield 41, 3) := by decide +kernel
theorem dX4_init_103 : decode cX4_init 103 = .ok (.aload_n 0, 1) := by decide +kernel
theorem dX4_init_104 : decode cX4_init 104 = .ok (.sipush 300, 3) := by decide +kernel
theorem dX4_init_107 : decode cX4_init 107 = .ok (.newarray .int, 2) := by decide +kernel
theorem dX4_init_109 : decode cX4_init 109 = .ok (.putfield 44, 3) := by decide +kernel
theorem dX4_init_112 : decode cX4_init 112 = .ok (.aload_n 0, 1) := by decide +kernel
theorem dX4_init_113 : decode cX4_init 113 = .ok (.iconst 0, 1) := by decide +kernel
theorem dX4_init_114 : decode cX4_init 114 = .ok (.putfield 47, 3) := by decide +kernel
theorem dX4_init_117 : decode cX4_init 117 = .ok (.return_, 1) := by decide +kernel
end
section
theorem dX4_find_0 : decode cX4_find 0 = .ok (.iconst (-1), 1) := by decide +kernel
theorem dX4_find_1 : decode cX4_find 1 = .ok (.istore_n 3, 1) := by decide +kernel
theorem dX4_find_2 : decode cX4_find 2 = .ok (.iconst 0, 1) := by decide +kernel
theorem dX4_find_3 : decode cX4_find 3 = .ok (.istore 4, 2) := by decide +kernel
theorem dX4_find_5 : decode cX4_find 5 = .ok (.iload 4, 2) := by decide +kernel
theorem dX4_find_7 : decode cX4_find 7 = .ok (.aload_n 0, 1) := by decide +kernel
theorem dX4_find_8 : decode cX4_find 8 = .ok (.getfield 47, 3) := by decide +kernel
theorem dX4_find_11 : decode cX4_find 11 = .ok (.if_icmp .ge 38, 3) := by decide +kernel
theorem dX4_find_14 : decode cX4_find 14 = .ok (.aload_n 0, 1) := by decide +kernel
theorem dX4_find_15 : decode cX4_find 15 = .ok (.getfield 7, 3) := by decide +kernel
theorem dX4_find_18 : decode cX4_find 18 = .ok (.iload 4, 2) := by decide +kernel
theorem dX4_find_20 : decode cX4_find 20 = .ok (.iaload, 1) := by decide +kernel
theorem dX4_find_21 : decode cX4_find 21 = .ok (.iload_n 1, 1) := by decide +kernel
theorem dX4_find_22 : decode cX4_find 22 = .ok (.if_icmp .ne 19, 3) := by decide +kernel
theorem dX4_find_25 : decode cX4_find 25 = .ok (.aload_n 0, 1) := by decide +kernel
theorem dX4_find_26 : decode cX4_find 26 = .ok (.getfield 13, 3) := by decide +kernel
theorem dX4_find_29 : decode cX4_find 29 = .ok (.iload 4, 2) := by decide +kernel
theorem dX4_find_31 : decode cX4_find 31 = .ok (.iaload, 1) := by decide +kernel
theorem dX4_find_32 : decode cX4_find 32 = .ok (.iload_n 2, 1) := by decide +kernel
theorem dX4_find_33 : decode cX4_find 33 = .ok (.if_icmp .ne 8, 3) := by decide +kernel
theorem dX4_find_36 : decode cX4_find 36 = .ok (.iload 4, 2) := by decide +kernel
theorem dX4_find_38 : decode cX4_find 38 = .ok (.goto 4, 3) := by decide +kernel
theorem dX4_find_41 : decode cX4_find 41 = .ok (.iload_n 3, 1) := by decide +kernel
theorem dX4_find_42 : decode cX4_find 42 = .ok (.istore_n 3, 1) := by decide +kernel
theorem dX4_find_43 : decode cX4_find 43 = .ok (.iinc 4 1, 3) := by decide +kernel
theorem dX4_find_46 : decode cX4_find 46 = .ok (.goto (-41), 3) := by decide +kernel
theorem dX4_find_49 : decode cX4_find 49 = .ok (.iload_n 3, 1) := by decide +kernel
theorem dX4_find_50 : decode cX4_find 50 = .ok (.ireturn, 1) := by decide +kernel
theorem dX4_isSide_0 : decode cX4_isSide 0 = .ok (.iload_n 0, 1) := by decide +kernel
theorem dX4_isSide_1 : decode cX4_isSide 1 = .ok (.ifCond .eq 8, 3) := by decide +kernel
theorem dX4_isSide_4 : decode cX4_isSide 4 = .ok (.iload_n 0, 1) := by decide +kernel
theorem dX4_isSide_5 : decode cX4_isSide 5 = .ok (.iconst 1, 1) := by decide +kernel
theorem dX4_isSide_6 : decode cX4_isSide 6 = .ok (.if_icmp .ne 7, 3) := by decide +kernel
theorem dX4_isSide_9 : decode cX4_isSide 9 = .ok (.iconst 1, 1) := by decide +kernel
theorem dX4_isSide_10 : decode cX4_isSide 10 = .ok (.goto 4, 3) := by decide +kernel
theorem dX4_isSide_13 : decode cX4_isSide 13 = .ok (.iconst 0, 1) := by decide +kernel
theorem dX4_isSide_14 : decode cX4_isSide 14 = .ok (.ireturn, 1) := by decide +kernel
theorem dX4_own_0 : decode cX4_own 0 = .ok (.iload_n 1, 1) := by decide +kernel
theorem dX4_own_1 : decode cX4_own 1 = .ok (.ifCond .ne 12, 3) := by decide +kernel
theorem dX4_own_4 : decode cX4_own 4 = .ok (.aload_n 0, 1) := by decide +kernel
theorem dX4_own_5 : decode cX4_own 5 = .ok (.getfield 7, 3) := by decide +kernel
theorem dX4_own_8 : decode cX4_own 8 = .ok (.iload_n 2, 1) := by decide +kernel
theorem dX4_own_9 : decode cX4_own 9 = .ok (.iaload, 1) := by decide +kernel
theorem dX4_own_10 : decode cX4_own 10 = .ok (.goto 9, 3) := by decide +kernel
theorem dX4_own_13 : decode cX4_own 13 = .ok (.aload_n 0, 1) := by decide +kernel
theorem dX4_own_14 : decode cX4_own 14 = .ok (.getfield 13, 3) := by decide +kernel
theorem dX4_own_17 : decode cX4_own 17 = .ok (.iload_n 2, 1) := by decide +kernel
theorem dX4_own_18 : decode cX4_own 18 = .ok (.iaload, 1) := by decide +kernel
theorem dX4_own_19 : decode cX4_own 19 = .ok (.ireturn, 1) := by decide +kernel
theorem dX4_add_0 : decode cX4_add 0 = .ok (.aload_n 0, 1) := by decide +kernel
theorem dX4_add_1 : decode cX4_add 1 = .ok (.getfield 7, 3) := by decide +kernel
theorem dX4_add_4 : decode cX4_add 4 = .ok (.aload_n 0, 1) := by decide +kernel
theorem dX4_add_5 : decode cX4_add 5 = .ok (.getfield 47, 3) := by decide +kernel
theorem dX4_add_8 : decode cX4_add 8 = .ok (.iload_n 1, 1) := by decide +kernel
theorem dX4_add_9 : decode cX4_add 9 = .ok (.iastore, 1) := by decide +kernel
theorem dX4_add_10 : decode cX4_add 10 = .ok (.aload_n 0, 1) := by decide +kernel
theorem dX4_add_11 : decode cX4_add 11 = .ok (.getfield 13, 3) := by decide +kernel
theorem dX4_add_14 : decode cX4_add 14 = .ok (.aload_n 0, 1) := by decide +kernel
theorem dX4_add_15 : decode cX4_add 15 = .ok (.getfield 47, 3) := by decide +kernel
theorem dX4_add_18 : decode cX4_add 18 = .ok (.iload_n 2, 1) := by decide +kernel
theorem dX4_add_19 : decode cX4_add 19 = .ok (.iastore, 1) := by decide +kernel
theorem dX4_add_20 : decode cX4_add 20 = .ok (.aload_n 0, 1) := by decide +kernel
theorem dX4_add_21 : decode cX4_add 21 = .ok (.dup, 1) := by decide +kernel
theorem dX4_add_22 : decode cX4_add 22 = .ok (.getfield 47, 3) := by decide +kernel
theorem dX4_add_25 : decode cX4_add 25 = .ok (.iconst 1, 1) := by decide +kernel
theorem dX4_add_26 : decode cX4_add 26 = .ok (.iadd, 1) := by decide +kernel
theorem dX4_add_27 : decode cX4_add 27 = .ok (.putfield 47, 3) := by decide +kernel
theorem dX4_add_30 : decode cX4_add 30 = .ok (.return_, 1) := by decide +kernel
theorem dX4_remove_0 : decode cX4_remove 0 = .ok (.aload_n 0, 1) := by decide +kernel
theorem dX4_remove_1 : decode cX4_remove 1 = .ok (.dup, 1) := by decide +kernel
theorem dX4_remove_2 : decode cX4_remove 2 = .ok (.getfield 47, 3) := by decide +kernel
theorem dX4_remove_5 : decode cX4_remove 5 = .ok (.iconst 1, 1) := by decide +kernel
theorem dX4_remove_6 : decode cX4_remove 6 = .ok (.isub, 1) := by decide +kernel
theorem dX4_remove_7 : decode cX4_remove 7 = .ok (.putfield 47, 3) := by decide +kernel
theorem dX4_remove_10 : decode cX4_remove 10 = .ok (.iload_n 1, 1) := by decide +kernel
theorem dX4_remove_11 : decode cX4_remove 11 = .ok (.istore_n 2, 1) := by decide +kernel
theorem dX4_remove_12 : decode cX4_remove 12 = .ok (.iload_n 2, 1) := by decide +kernel
theorem dX4_remove_13 : decode cX4_remove 13 = .ok (.aload_n 0, 1) := by decide +kernel
theorem dX4_remove_14 : decode cX4_remove 14 = .ok (.getfield 47, 3) := by decide +kernel
theorem dX4_remove_17 : decode cX4_remove 17 = .ok (.if_icmp .ge 37, 3) := by decide +kernel
theorem dX4_remove_20 : decode cX4_remove 20 = .ok (.aload_n 0, 1) := by decide +kernel
theorem dX4_remove_21 : decode cX4_remove 21 = .ok (.getfield 7, 3) := by decide +kernel
theorem dX4_remove_24 : decode cX4_remove 24 = .ok (.iload_n 2, 1) := by decide +kernel
theorem dX4_remove_25 : decode cX4_remove 25 = .ok (.aload_n 0, 1) := by decide +kernel
theorem dX4_remove_26 : decode cX4_remove 26 = .ok (.getfield 7, 3) := by decide +kernel
theorem dX4_remove_29 : decode cX4_remove 29 = .ok (.iload_n 2, 1) := by decide +kernel
theorem dX4_remove_30 : decode cX4_remove 30 = .ok (.iconst 1, 1) := by decide +kernel
theorem dX4_remove_31 : decode cX4_remove 31 = .ok (.iadd, 1) := by decide +kernel
theorem dX4_remove_32 : decode cX4_remove 32 = .ok (.iaload, 1) := by decide +kernel
theorem dX4_remove_33 : decode cX4_remove 33 = .ok (.iastore, 1) := by decide +kernel
theorem dX4_remove_34 : decode cX4_remove 34 = .ok (.aload_n 0, 1) := by decide +kernel
theorem dX4_remove_35 : decode cX4_remove 35 = .ok (.getfield 13, 3) := by decide +kernel
theorem dX4_remove_38 : decode cX4_remove 38 = .ok (.iload_n 2, 1) := by decide +kernel
theorem dX4_remove_39 : decode cX4_remove 39 = .ok (.aload_n 0, 1) := by decide +kernel
theorem dX4_remove_40 : decode cX4_remove 40 = .ok (.getfield 13, 3) := by decide +kernel
theorem dX4_remove_43 : decode cX4_remove 43 = .ok (.iload_n 2, 1) := by decide +kernel
theorem dX4_remove_44 : decode cX4_remove 44 = .ok (.iconst 1, 1) := by decide +kernel
theorem dX4_remove_45 : decode cX4_remove 45 = .ok (.iadd, 1) := by decide +kernel
theorem dX4_remove_46 : decode cX4_remove 46 = .ok (.iaload, 1) := by decide +kernel
theorem dX4_remove_47 : decode cX4_remove 47 = .ok (.iastore, 1) := by decide +kernel
theorem dX4_remove_48 : decode cX4_remove 48 = .ok (.iinc 2 1, 3) := by decide +kernel
theorem dX4_remove_51 : decode cX4_remove 51 = .ok (.goto (-39), 3) := by decide +kernel
theorem dX4_remove_54 : decode cX4_remove 54 = .ok (.return_, 1) := by decide +kernel
set_option maxRecDepth 20000 in
theorem ggX4_link_X4_find : GoodIn wsX4_link wsX4_find := goodIn_r _ [6, 1, 7, 8, 13, 14, 15, 16, 17, 18, 19, 20, 21, 22, 23, 24, 25, 26, 27] (by decide +kernel) (by decide +kernel)
set_option maxRecDepth 20000 in
theorem gX4_link_X4_find : GoodIn wsX4_link (wsV RX4 51 RX4 yX4_find wsX4_find) := goodIn_app (goodIn_of _ (by decide +kernel)) ggX4_link_X4_find
set_option maxRecDepth 20000 in
theorem ggX4_link_X4_add : GoodIn wsX4_link wsX4_add := goodIn_r _ [12, 7, 1, 8, 13, 14, 15, 16, 17, 18, 19, 20, 21, 22, 23, 24, 25, 26, 27] (by decide +kernel) (by decide +kernel)
set_option maxRecDepth 20000 in
theorem gX4_link_X4_add : GoodIn wsX4_link (wsV RX4 55 RX4 yX4_add wsX4_add) := goodIn_app (goodIn_of _ (by decide +kernel)) ggX4_link_X4_add
theorem dX4_link_0 : decode cX4_link 0 = .ok (.aload_n 0, 1) := by decide +kernel
theorem dX4_link_1 : decode cX4_link 1 = .ok (.iload_n 1, 1) := by decide +kernel
theorem dX4_link_2 : decode cX4_link 2 = .ok (.iload_n 2, 1) := by decide +kernel
theorem dX4_link_3 : decode cX4_link 3 = .ok (.invokevirtual 51, 3) := by decide +kernel
theorem dX4_link_6 : decode cX4_link 6 = .ok (.iconst (-1), 1) := by decide +kernel
theorem dX4_link_7 : decode cX4_link 7 = .ok (.if_icmp .eq 5, 3) := by decide +kernel
theorem dX4_link_10 : decode cX4_link 10 = .ok (.iconst (-1), 1) := by decide +kernel
theorem dX4_link_11 : decode cX4_link 11 = .ok (.ireturn, 1) := by decide +kernel
theorem dX4_link_12 : decode cX4_link 12 = .ok (.aload_n 0, 1) := by decide +kernel
theorem dX4_link_13 : decode cX4_link 13 = .ok (.getfield 47, 3) := by decide +kernel
theorem dX4_link_16 : decode cX4_link 16 = .ok (.sipush 300, 3) := by decide +kernel
theorem dX4_link_19 : decode cX4_link 19 = .ok (.if_icmp .ne 6, 3) := by decide +kernel
theorem dX4_link_22 : decode cX4_link 22 = .ok (.bipush (-2), 2) := by decide +kernel
theorem dX4_link_24 : decode cX4_link 24 = .ok (.ireturn, 1) := by decide +kernel
theorem dX4_link_25 : decode cX4_link 25 = .ok (.aload_n 0, 1) := by decide +kernel
theorem dX4_link_26 : decode cX4_link 26 = .ok (.iload_n 1, 1) := by decide +kernel
theorem dX4_link_27 : decode cX4_link 27 = .ok (.iload_n 2, 1) := by decide +kernel
theorem dX4_link_28 : decode cX4_link 28 = .ok (.invokevirtual 55, 3) := by decide +kernel
theorem dX4_link_31 : decode cX4_link 31 = .ok (.aload_n 0, 1) := by decide +kernel
theorem dX4_link_32 : decode cX4_link 32 = .ok (.getfield 47, 3) := by decide +kernel
theorem dX4_link_35 : decode cX4_link 35 = .ok (.ireturn, 1) := by decide +kernel
set_option maxRecDepth 20000 in
theorem ggX4_unlink_X4_find : GoodIn wsX4_unlink wsX4_find := goodIn_r _ [6, 1, 7, 8, 13, 14, 15, 16, 17, 18, 19, 20, 21, 22, 23, 24, 25, 26, 27] (by decide +kernel) (by decide +kernel)
set_option maxRecDepth 20000 in
theorem gX4_unlink_X4_find : GoodIn wsX4_unlink (wsV RX4 51 RX4 yX4_find wsX4_find) := goodIn_app (goodIn_of _ (by decide +kernel)) ggX4_unlink_X4_find
set_option maxRecDepth 20000 in
theorem ggX4_unlink_X4_remove : GoodIn wsX4_unlink wsX4_remove := goodIn_r _ [12, 1, 7, 8, 13, 14, 15, 16, 17, 18, 19, 20, 21, 22, 23, 24, 25, 26, 27] (by decide +kernel) (by decide +kernel)
set_option maxRecDepth 20000 in
theorem gX4_unlink_X4_remove : GoodIn wsX4_unlink (wsV RX4 59 RX4 yX4_remove wsX4_remove) := goodIn_app (goodIn_of _ (by decide +kernel)) ggX4_unlink_X4_remove
theorem dX4_unlink_0 : decode cX4_unlink 0 = .ok (.aload_n 0, 1) := by decide +kernel
theorem dX4_unlink_1 : decode cX4_unlink 1 = .ok (.iload_n 1, 1) := by decide +kernel
theorem dX4_unlink_2 : decode cX4_unlink 2 = .ok (.iload_n 2, 1) := by decide +kernel
theorem dX4_unlink_3 : decode cX4_unlink 3 = .ok (.invokevirtual 51, 3) := by decide +kernel
theorem dX4_unlink_6 : decode cX4_unlink 6 = .ok (.istore_n 3, 1) := by decide +kernel
theorem dX4_unlink_7 : decode cX4_unlink 7 = .ok (.iload_n 3, 1) := by decide +kernel
theorem dX4_unlink_8 : decode cX4_unlink 8 = .ok (.iconst (-1), 1) := by decide +kernel
theorem dX4_unlink_9 : decode cX4_unlink 9 = .ok (.if_icmp .ne 5, 3) := by decide +kernel
theorem dX4_unlink_12 : decode cX4_unlink 12 = .ok (.iconst (-1), 1) := by decide +kernel
theorem dX4_unlink_13 : decode cX4_unlink 13 = .ok (.ireturn, 1) := by decide +kernel
theorem dX4_unlink_14 : decode cX4_unlink 14 = .ok (.aload_n 0, 1) := by decide +kernel
theorem dX4_unlink_15 : decode cX4_unlink 15 = .ok (.iload_n 3, 1) := by decide +kernel
theorem dX4_unlink_16 : decode cX4_unlink 16 = .ok (.invokevirtual 59, 3) := by decide +kernel
theorem dX4_unlink_19 : decode cX4_unlink 19 = .ok (.aload_n 0, 1) := by decide +kernel
theorem dX4_unlink_20 : decode cX4_unlink 20 = .ok (.getfield 47, 3) := by decide +kernel
theorem dX4_unlink_23 : decode cX4_unlink 23 = .ok (.ireturn, 1) := by decide +kernel
set_option maxRecDepth 20000 in
theorem ggX4_place_X4_find : GoodIn wsX4_place wsX4_find := goodIn_r _ [5, 6, 7, 8, 9, 10, 11, 12, 13, 14, 15, 16, 17, 18, 19, 20, 21, 22, 23] (by decide +kernel) (by decide +kernel)
set_option maxRecDepth 20000 in
theorem gX4_place_X4_find : GoodIn wsX4_place (wsV RX4 51 RX4 yX4_find wsX4_find) := goodIn_app (goodIn_of _ (by decide +kernel)) ggX4_place_X4_find
theorem dX4_place_0 : decode cX4_place 0 = .ok (.aload_n 0, 1) := by decide +kernel
theorem dX4_place_1 : decode cX4_place 1 = .ok (.iload_n 1, 1) := by decide +kernel
theorem dX4_place_2 : decode cX4_place 2 = .ok (.iload_n 2, 1) := by decide +kernel
theorem dX4_place_3 : decode cX4_place 3 = .ok (.invokevirtual 51, 3) := by decide +kernel
theorem dX4_place_6 : decode cX4_place 6 = .ok (.ireturn, 1) := by decide +kernel
set_option maxRecDepth 20000 in
theorem ggX4_degree_X4_isSide : GoodIn wsX4_degree wsX4_isSide := goodIn_r _ [5] (by decide +kernel) (by decide +kernel)
set_option maxRecDepth 20000 in
theorem gX4_degree_X4_isSide : GoodIn wsX4_degree (va_wsS RX4 63 yX4_isSide wsX4_isSide) := goodIn_app (goodIn_of _ (by decide +kernel)) ggX4_degree_X4_isSide
set_option maxRecDepth 20000 in
theorem ggX4_degree_X4_own : GoodIn wsX4_degree wsX4_own := goodIn_r _ [9, 10, 11, 12, 13, 14, 15, 16, 17, 18, 19, 20, 21, 22, 23, 24, 25, 26] (by decide +kernel) (by decide +kernel)
set_option maxRecDepth 20000 in
theorem gX4_degree_X4_own : GoodIn wsX4_degree (wsV RX4 67 RX4 yX4_own wsX4_own) := goodIn_app (goodIn_of _ (by decide +kernel)) ggX4_degree_X4_own
theorem dX4_degree_0 : decode cX4_degree 0 = .ok (.iload_n 1, 1) := by decide +kernel
theorem dX4_degree_1 : decode cX4_degree 1 = .ok (.invokestatic 63, 3) := by decide +kernel
theorem dX4_degree_4 : decode cX4_degree 4 = .ok (.ifCond .ne 5, 3) := by decide +kernel
theorem dX4_degree_7 : decode cX4_degree 7 = .ok (.iconst (-1), 1) := by decide +kernel
theorem dX4_degree_8 : decode cX4_degree 8 = .ok (.ireturn, 1) := by decide +kernel
theorem dX4_degree_9 : decode cX4_degree 9 = .ok (.iconst 0, 1) := by decide +kernel
theorem dX4_degree_10 : decode cX4_degree 10 = .ok (.istore_n 3, 1) := by decide +kernel
theorem dX4_degree_11 : decode cX4_degree 11 = .ok (.iconst 0, 1) := by decide +kernel
theorem dX4_degree_12 : decode cX4_degree 12 = .ok (.istore 4, 2) := by decide +kernel
theorem dX4_degree_14 : decode cX4_degree 14 = .ok (.iload 4, 2) := by decide +kernel
theorem dX4_degree_16 : decode cX4_degree 16 = .ok (.aload_n 0, 1) := by decide +kernel
theorem dX4_degree_17 : decode cX4_degree 17 = .ok (.getfield 47, 3) := by decide +kernel
theorem dX4_degree_20 : decode cX4_degree 20 = .ok (.if_icmp .ge 28, 3) := by decide +kernel
theorem dX4_degree_23 : decode cX4_degree 23 = .ok (.aload_n 0, 1) := by decide +kernel
theorem dX4_degree_24 : decode cX4_degree 24 = .ok (.iload_n 1, 1) := by decide +kernel
theorem dX4_degree_25 : decode cX4_degree 25 = .ok (.iload 4, 2) := by decide +kernel
theorem dX4_degree_27 : decode cX4_degree 27 = .ok (.invokevirtual 67, 3) := by decide +kernel
theorem dX4_degree_30 : decode cX4_degree 30 = .ok (.iload_n 2, 1) := by decide +kernel
theorem dX4_degree_31 : decode cX4_degree 31 = .ok (.if_icmp .ne 9, 3) := by decide +kernel
theorem dX4_degree_34 : decode cX4_degree 34 = .ok (.iload_n 3, 1) := by decide +kernel
theorem dX4_degree_35 : decode cX4_degree 35 = .ok (.iconst 1, 1) := by decide +kernel
theorem dX4_degree_36 : decode cX4_degree 36 = .ok (.iadd, 1) := by decide +kernel
theorem dX4_degree_37 : decode cX4_degree 37 = .ok (.goto 4, 3) := by decide +kernel
theorem dX4_degree_40 : decode cX4_degree 40 = .ok (.iload_n 3, 1) := by decide +kernel
theorem dX4_degree_41 : decode cX4_degree 41 = .ok (.istore_n 3, 1) := by decide +kernel
theorem dX4_degree_42 : decode cX4_degree 42 = .ok (.iinc 4 1, 3) := by decide +kernel
theorem dX4_degree_45 : decode cX4_degree 45 = .ok (.goto (-31), 3) := by decide +kernel
theorem dX4_degree_48 : decode cX4_degree 48 = .ok (.iload_n 3, 1) := by decide +kernel
theorem dX4_degree_49 : decode cX4_degree 49 = .ok (.ireturn, 1) := by decide +kernel
set_option maxRecDepth 20000 in
theorem ggX4_other_X4_isSide : GoodIn wsX4_other wsX4_isSide := goodIn_r _ [5] (by decide +kernel) (by decide +kernel)
set_option maxRecDepth 20000 in
theorem gX4_other_X4_isSide : GoodIn wsX4_other (va_wsS RX4 63 yX4_isSide wsX4_isSide) := goodIn_app (goodIn_of _ (by decide +kernel)) ggX4_other_X4_isSide
set_option maxRecDepth 20000 in
theorem ggX4_other_X4_own : GoodIn wsX4_other wsX4_own := goodIn_r _ [9, 10, 11, 12, 13, 14, 15, 16, 17, 18, 19, 20, 21, 22, 23, 24, 25, 26] (by decide +kernel) (by decide +kernel)
set_option maxRecDepth 20000 in
theorem gX4_other_X4_own : GoodIn wsX4_other (wsV RX4 67 RX4 yX4_own wsX4_own) := goodIn_app (goodIn_of _ (by decide +kernel)) ggX4_other_X4_own
theorem dX4_other_0 : decode cX4_other 0 = .ok (.iload_n 3, 1) := by decide +kernel
theorem dX4_other_1 : decode cX4_other 1 = .ok (.istore 4, 2) := by decide +kernel
theorem dX4_other_3 : decode cX4_other 3 = .ok (.iconst 0, 1) := by decide +kernel
theorem dX4_other_4 : decode cX4_other 4 = .ok (.istore 5, 2) := by decide +kernel
theorem dX4_other_6 : decode cX4_other 6 = .ok (.iload 5, 2) := by decide +kernel
theorem dX4_other_8 : decode cX4_other 8 = .ok (.aload_n 0, 1) := by decide +kernel
theorem dX4_other_9 : decode cX4_other 9 = .ok (.getfield 47, 3) := by decide +kernel
theorem dX4_other_12 : decode cX4_other 12 = .ok (.if_icmp .ge 49, 3) := by decide +kernel
theorem dX4_other_15 : decode cX4_other 15 = .ok (.iload_n 1, 1) := by decide +kernel
theorem dX4_other_16 : decode cX4_other 16 = .ok (.invokestatic 63, 3) := by decide +kernel
theorem dX4_other_19 : decode cX4_other 19 = .ok (.ifCond .eq 42, 3) := by decide +kernel
theorem dX4_other_22 : decode cX4_other 22 = .ok (.iload_n 3, 1) := by decide +kernel
theorem dX4_other_23 : decode cX4_other 23 = .ok (.ifCond .lt 38, 3) := by decide +kernel
theorem dX4_other_26 : decode cX4_other 26 = .ok (.aload_n 0, 1) := by decide +kernel
theorem dX4_other_27 : decode cX4_other 27 = .ok (.iload_n 1, 1) := by decide +kernel
theorem dX4_other_28 : decode cX4_other 28 = .ok (.iload 5, 2) := by decide +kernel
theorem dX4_other_30 : decode cX4_other 30 = .ok (.invokevirtual 67, 3) := by decide +kernel
theorem dX4_other_33 : decode cX4_other 33 = .ok (.iload_n 2, 1) := by decide +kernel
theorem dX4_other_34 : decode cX4_other 34 = .ok (.if_icmp .ne 21, 3) := by decide +kernel
theorem dX4_other_37 : decode cX4_other 37 = .ok (.iload 4, 2) := by decide +kernel
theorem dX4_other_39 : decode cX4_other 39 = .ok (.ifCond .ne 13, 3) := by decide +kernel
theorem dX4_other_42 : decode cX4_other 42 = .ok (.aload_n 0, 1) := by decide +kernel
theorem dX4_other_43 : decode cX4_other 43 = .ok (.iconst 1, 1) := by decide +kernel
theorem dX4_other_44 : decode cX4_other 44 = .ok (.iload_n 1, 1) := by decide +kernel
theorem dX4_other_45 : decode cX4_other 45 = .ok (.isub, 1) := by decide +kernel
theorem dX4_other_46 : decode cX4_other 46 = .ok (.iload 5, 2) := by decide +kernel
theorem dX4_other_48 : decode cX4_other 48 = .ok (.invokevirtual 67, 3) := by decide +kernel
theorem dX4_other_51 : decode cX4_other 51 = .ok (.ireturn, 1) := by decide +kernel
theorem dX4_other_52 : decode cX4_other 52 = .ok (.iinc 4 (-1), 3) := by decide +kernel
theorem dX4_other_55 : decode cX4_other 55 = .ok (.iinc 5 1, 3) := by decide +kernel
theorem dX4_other_58 : decode cX4_other 58 = .ok (.goto (-52), 3) := by decide +kernel
theorem dX4_other_61 : decode cX4_other 61 = .ok (.iconst 0, 1) := by decide +kernel
theorem dX4_other_62 : decode cX4_other 62 = .ok (.ireturn, 1) := by decide +kernel
set_option maxRecDepth 20000 in
theorem ggX4_drop_X4_isSide : GoodIn wsX4_drop wsX4_isSide := goodIn_r _ [5] (by decide +kernel) (by decide +kernel)
set_option maxRecDepth 20000 in
theorem gX4_drop_X4_isSide : GoodIn wsX4_drop (va_wsS RX4 63 yX4_isSide wsX4_isSide) := goodIn_app (goodIn_of _ (by decide +kernel)) ggX4_drop_X4_isSide
set_option maxRecDepth 20000 in
theorem ggX4_drop_X4_own : GoodIn wsX4_drop wsX4_own := goodIn_r _ [9, 10, 11, 16, 17, 18, 19, 20, 21, 22, 23, 24, 25, 26, 27, 28, 29, 30] (by decide +kernel) (by decide +kernel)
set_option maxRecDepth 20000 in
theorem gX4_drop_X4_own : GoodIn wsX4_drop (wsV RX4 67 RX4 yX4_own wsX4_own) := goodIn_app (goodIn_of _ (by decide +kernel)) ggX4_drop_X4_own
set_option maxRecDepth 20000 in
theorem ggX4_drop_X4_remove : GoodIn wsX4_drop wsX4_remove := goodIn_r _ [15, 1, 10, 11, 16, 17, 18, 19, 20, 21, 22, 23, 24, 25, 26, 27, 28, 29, 30] (by decide +kernel) (by decide +kernel)
set_option maxRecDepth 20000 in
theorem gX4_drop_X4_remove : GoodIn wsX4_drop (wsV RX4 59 RX4 yX4_remove wsX4_remove) := goodIn_app (goodIn_of _ (by decide +kernel)) ggX4_drop_X4_remove
theorem dX4_drop_0 : decode cX4_drop 0 = .ok (.iload_n 1, 1) := by decide +kernel
theorem dX4_drop_1 : decode cX4_drop 1 = .ok (.invokestatic 63, 3) := by decide +kernel
theorem dX4_drop_4 : decode cX4_drop 4 = .ok (.ifCond .ne 5, 3) := by decide +kernel
theorem dX4_drop_7 : decode cX4_drop 7 = .ok (.iconst (-1), 1) := by decide +kernel
theorem dX4_drop_8 : decode cX4_drop 8 = .ok (.ireturn, 1) := by decide +kernel
theorem dX4_drop_9 : decode cX4_drop 9 = .ok (.iconst 0, 1) := by decide +kernel
theorem dX4_drop_10 : decode cX4_drop 10 = .ok (.istore_n 3, 1) := by decide +kernel
theorem dX4_drop_11 : decode cX4_drop 11 = .ok (.aload_n 0, 1) := by decide +kernel
theorem dX4_drop_12 : decode cX4_drop 12 = .ok (.getfield 47, 3) := by decide +kernel
theorem dX4_drop_15 : decode cX4_drop 15 = .ok (.iconst 1, 1) := by decide +kernel
theorem dX4_drop_16 : decode cX4_drop 16 = .ok (.isub, 1) := by decide +kernel
theorem dX4_drop_17 : decode cX4_drop 17 = .ok (.istore 4, 2) := by decide +kernel
theorem dX4_drop_19 : decode cX4_drop 19 = .ok (.iload 4, 2) := by decide +kernel
theorem dX4_drop_21 : decode cX4_drop 21 = .ok (.ifCond .lt 29, 3) := by decide +kernel
theorem dX4_drop_24 : decode cX4_drop 24 = .ok (.aload_n 0, 1) := by decide +kernel
theorem dX4_drop_25 : decode cX4_drop 25 = .ok (.iload_n 1, 1) := by decide +kernel
theorem dX4_drop_26 : decode cX4_drop 26 = .ok (.iload 4, 2) := by decide +kernel
theorem dX4_drop_28 : decode cX4_drop 28 = .ok (.invokevirtual 67, 3) := by decide +kernel
theorem dX4_drop_31 : decode cX4_drop 31 = .ok (.iload_n 2, 1) := by decide +kernel
theorem dX4_drop_32 : decode cX4_drop 32 = .ok (.if_icmp .ne 12, 3) := by decide +kernel
theorem dX4_drop_35 : decode cX4_drop 35 = .ok (.aload_n 0, 1) := by decide +kernel
theorem dX4_drop_36 : decode cX4_drop 36 = .ok (.iload 4, 2) := by decide +kernel
theorem dX4_drop_38 : decode cX4_drop 38 = .ok (.invokevirtual 59, 3) := by decide +kernel
theorem dX4_drop_41 : decode cX4_drop 41 = .ok (.iinc 3 1, 3) := by decide +kernel
theorem dX4_drop_44 : decode cX4_drop 44 = .ok (.iinc 4 (-1), 3) := by decide +kernel
theorem dX4_drop_47 : decode cX4_drop 47 = .ok (.goto (-28), 3) := by decide +kernel
theorem dX4_drop_50 : decode cX4_drop 50 = .ok (.iload_n 3, 1) := by decide +kernel
theorem dX4_drop_51 : decode cX4_drop 51 = .ok (.ireturn, 1) := by decide +kernel
set_option maxRecDepth 20000 in
theorem ggX4_rename_X4_isSide : GoodIn wsX4_rename wsX4_isSide := goodIn_r _ [6] (by decide +kernel) (by decide +kernel)
set_option maxRecDepth 20000 in
theorem gX4_rename_X4_isSide : GoodIn wsX4_rename (va_wsS RX4 63 yX4_isSide wsX4_isSide) := goodIn_app (goodIn_of _ (by decide +kernel)) ggX4_rename_X4_isSide
set_option maxRecDepth 20000 in
theorem ggX4_rename_X4_own : GoodIn wsX4_rename wsX4_own := goodIn_r _ [10, 11, 12, 29, 30, 31, 32, 33, 34, 35, 36, 37, 38, 39, 40, 41, 42, 43] (by decide +kernel) (by decide +kernel)
set_option maxRecDepth 20000 in
theorem gX4_rename_X4_own : GoodIn wsX4_rename (wsV RX4 67 RX4 yX4_own wsX4_own) := goodIn_app (goodIn_of _ (by decide +kernel)) ggX4_rename_X4_own
set_option maxRecDepth 20000 in
theorem ggX4_rename_X4_drop : GoodIn wsX4_rename wsX4_drop := goodIn_r _ [16, 1, 3, 4, 5, 6, 7, 8, 9, 10, 11, 12, 17, 18, 19, 20, 29, 30, 31, 32, 33, 34, 35, 36, 37, 38, 39, 40, 41, 42, 43] (by decide +kernel) (by decide +kernel)
set_option maxRecDepth 20000 in
theorem gX4_rename_X4_drop : GoodIn wsX4_rename (wsV RX4 70 RX4 yX4_drop wsX4_drop) := goodIn_app (goodIn_of _ (by decide +kernel)) ggX4_rename_X4_drop
set_option maxRecDepth 20000 in
theorem ggX4_rename_X4_find : GoodIn wsX4_rename wsX4_find := goodIn_r _ [24, 1, 11, 12, 29, 30, 31, 32, 33, 34, 35, 36, 37, 38, 39, 40, 41, 42, 43] (by decide +kernel) (by decide +kernel)
set_option maxRecDepth 20000 in
theorem gX4_rename_X4_find : GoodIn wsX4_rename (wsV RX4 51 RX4 yX4_find wsX4_find) := goodIn_app (goodIn_of _ (by decide +kernel)) ggX4_rename_X4_find
set_option maxRecDepth 20000 in
theorem ggX4_rename_X4_add : GoodIn wsX4_rename wsX4_add := goodIn_r _ [28, 11, 1, 12, 29, 30, 31, 32, 33, 34, 35, 36, 37, 38, 39, 40, 41, 42, 43] (by decide +kernel) (by decide +kernel)
set_option maxRecDepth 20000 in
theorem gX4_rename_X4_add : GoodIn wsX4_rename (wsV RX4 55 RX4 yX4_add wsX4_add) := goodIn_app (goodIn_of _ (by decide +kernel)) ggX4_rename_X4_add
theorem dX4_rename_0 : decode cX4_rename 0 = .ok (.iload_n 1, 1) := by decide +kernel
theorem dX4_rename_1 : decode cX4_rename 1 = .ok (.invokestatic 63, 3) := by decide +kernel
theorem dX4_rename_4 : decode cX4_rename 4 = .ok (.ifCond .eq 8, 3) := by decide +kernel
theorem dX4_rename_7 : decode cX4_rename 7 = .ok (.iload_n 2, 1) := by decide +kernel
theorem dX4_rename_8 : decode cX4_rename 8 = .ok (.iload_n 3, 1) := by decide +kernel
theorem dX4_rename_9 : decode cX4_rename 9 = .ok (.if_icmp .ne 5, 3) := by decide +kernel
theorem dX4_rename_12 : decode cX4_rename 12 = .ok (.iconst (-1), 1) := by decide +kernel
theorem dX4_rename_13 : decode cX4_rename 13 = .ok (.ireturn, 1) := by decide +kernel
theorem dX4_rename_14 : decode cX4_rename 14 = .ok (.iconst 0, 1) := by decide +kernel
theorem dX4_rename_15 : decode cX4_rename 15 = .ok (.istore 4, 2) := by decide +kernel
theorem dX4_rename_17 : decode cX4_rename 17 = .ok (.iconst 0, 1) := by decide +kernel
theorem dX4_rename_18 : decode cX4_rename 18 = .ok (.istore 5, 2) := by decide +kernel
theorem dX4_rename_20 : decode cX4_rename 20 = .ok (.iload 5, 2) := by decide +kernel
theorem dX4_rename_22 : decode cX4_rename 22 = .ok (.aload_n 0, 1) := by decide +kernel
theorem dX4_rename_23 : decode cX4_rename 23 = .ok (.getfield 47, 3) := by decide +kernel
theorem dX4_rename_26 : decode cX4_rename 26 = .ok (.if_icmp .ge 39, 3) := by decide +kernel
theorem dX4_rename_29 : decode cX4_rename 29 = .ok (.aload_n 0, 1) := by decide +kernel
theorem dX4_rename_30 : decode cX4_rename 30 = .ok (.iload_n 1, 1) := by decide +kernel
theorem dX4_rename_31 : decode cX4_rename 31 = .ok (.iload 5, 2) := by decide +kernel
theorem dX4_rename_33 : decode cX4_rename 33 = .ok (.invokevirtual 67, 3) := by decide +kernel
theorem dX4_rename_36 : decode cX4_rename 36 = .ok (.iload_n 2, 1) := by decide +kernel
theorem dX4_rename_37 : decode cX4_rename 37 = .ok (.if_icmp .ne 22, 3) := by decide +kernel
theorem dX4_rename_40 : decode cX4_rename 40 = .ok (.aload_n 0, 1) := by decide +kernel
theorem dX4_rename_41 : decode cX4_rename 41 = .ok (.getfield 44, 3) := by decide +kernel
theorem dX4_rename_44 : decode cX4_rename 44 = .ok (.iload 4, 2) := by decide +kernel
theorem dX4_rename_46 : decode cX4_rename 46 = .ok (.aload_n 0, 1) := by decide +kernel
theorem dX4_rename_47 : decode cX4_rename 47 = .ok (.iconst 1, 1) := by decide +kernel
theorem dX4_rename_48 : decode cX4_rename 48 = .ok (.iload_n 1, 1) := by decide +kernel
theorem dX4_rename_49 : decode cX4_rename 49 = .ok (.isub, 1) := by decide +kernel
theorem dX4_rename_50 : decode cX4_rename 50 = .ok (.iload 5, 2) := by decide +kernel
theorem dX4_rename_52 : decode cX4_rename 52 = .ok (.invokevirtual 67, 3) := by decide +kernel
theorem dX4_rename_55 : decode cX4_rename 55 = .ok (.iastore, 1) := by decide +kernel
theorem dX4_rename_56 : decode cX4_rename 56 = .ok (.iinc 4 1, 3) := by decide +kernel
theorem dX4_rename_59 : decode cX4_rename 59 = .ok (.iinc 5 1, 3) := by decide +kernel
theorem dX4_rename_62 : decode cX4_rename 62 = .ok (.goto (-42), 3) := by decide +kernel
theorem dX4_rename_65 : decode cX4_rename 65 = .ok (.aload_n 0, 1) := by decide +kernel
theorem dX4_rename_66 : decode cX4_rename 66 = .ok (.iload_n 1, 1) := by decide +kernel
theorem dX4_rename_67 : decode cX4_rename 67 = .ok (.iload_n 2, 1) := by decide +kernel
theorem dX4_rename_68 : decode cX4_rename 68 = .ok (.invokevirtual 70, 3) := by decide +kernel
theorem dX4_rename_71 : decode cX4_rename 71 = .ok (.pop, 1) := by decide +kernel
theorem dX4_rename_72 : decode cX4_rename 72 = .ok (.iconst 0, 1) := by decide +kernel
theorem dX4_rename_73 : decode cX4_rename 73 = .ok (.istore 5, 2) := by decide +kernel
theorem dX4_rename_75 : decode cX4_rename 75 = .ok (.iconst 0, 1) := by decide +kernel
theorem dX4_rename_76 : decode cX4_rename 76 = .ok (.istore 6, 2) := by decide +kernel
theorem dX4_rename_78 : decode cX4_rename 78 = .ok (.iload 6, 2) := by decide +kernel
theorem dX4_rename_80 : decode cX4_rename 80 = .ok (.iload 4, 2) := by decide +kernel
theorem dX4_rename_82 : decode cX4_rename 82 = .ok (.if_icmp .ge 66, 3) := by decide +kernel
theorem dX4_rename_85 : decode cX4_rename 85 = .ok (.iload_n 1, 1) := by decide +kernel
theorem dX4_rename_86 : decode cX4_rename 86 = .ok (.ifCond .ne 7, 3) := by decide +kernel
theorem dX4_rename_89 : decode cX4_rename 89 = .ok (.iload_n 3, 1) := by decide +kernel
theorem dX4_rename_90 : decode cX4_rename 90 = .ok (.goto 10, 3) := by decide +kernel
theorem dX4_rename_93 : decode cX4_rename 93 = .ok (.aload_n 0, 1) := by decide +kernel
theorem dX4_rename_94 : decode cX4_rename 94 = .ok (.getfield 44, 3) := by decide +kernel
theorem dX4_rename_97 : decode cX4_rename 97 = .ok (.iload 6, 2) := by decide +kernel
theorem dX4_rename_99 : decode cX4_rename 99 = .ok (.iaload, 1) := by decide +kernel
theorem dX4_rename_100 : decode cX4_rename 100 = .ok (.istore 7, 2) := by decide +kernel
theorem dX4_rename_102 : decode cX4_rename 102 = .ok (.iload_n 1, 1) := by decide +kernel
theorem dX4_rename_103 : decode cX4_rename 103 = .ok (.ifCond .ne 13, 3) := by decide +kernel
theorem dX4_rename_106 : decode cX4_rename 106 = .ok (.aload_n 0, 1) := by decide +kernel
theorem dX4_rename_107 : decode cX4_rename 107 = .ok (.getfield 44, 3) := by decide +kernel
theorem dX4_rename_110 : decode cX4_rename 110 = .ok (.iload 6, 2) := by decide +kernel
theorem dX4_rename_112 : decode cX4_rename 112 = .ok (.iaload, 1) := by decide +kernel
theorem dX4_rename_113 : decode cX4_rename 113 = .ok (.goto 4, 3) := by decide +kernel
theorem dX4_rename_116 : decode cX4_rename 116 = .ok (.iload_n 3, 1) := by decide +kernel
theorem dX4_rename_117 : decode cX4_rename 117 = .ok (.istore 8, 2) := by decide +kernel
theorem dX4_rename_119 : decode cX4_rename 119 = .ok (.aload_n 0, 1) := by decide +kernel
theorem dX4_rename_120 : decode cX4_rename 120 = .ok (.iload 7, 2) := by decide +kernel
theorem dX4_rename_122 : decode cX4_rename 122 = .ok (.iload 8, 2) := by decide +kernel
theorem dX4_rename_124 : decode cX4_rename 124 = .ok (.invokevirtual 51, 3) := by decide +kernel
theorem dX4_rename_127 : decode cX4_rename 127 = .ok (.iconst (-1), 1) := by decide +kernel
theorem dX4_rename_128 : decode cX4_rename 128 = .ok (.if_icmp .ne 14, 3) := by decide +kernel
theorem dX4_rename_131 : decode cX4_rename 131 = .ok (.aload_n 0, 1) := by decide +kernel
theorem dX4_rename_132 : decode cX4_rename 132 = .ok (.iload 7, 2) := by decide +kernel
theorem dX4_rename_134 : decode cX4_rename 134 = .ok (.iload 8, 2) := by decide +kernel
theorem dX4_rename_136 : decode cX4_rename 136 = .ok (.invokevirtual 55, 3) := by decide +kernel
theorem dX4_rename_139 : decode cX4_rename 139 = .ok (.iinc 5 1, 3) := by decide +kernel
theorem dX4_rename_142 : decode cX4_rename 142 = .ok (.iinc 6 1, 3) := by decide +kernel
theorem dX4_rename_145 : decode cX4_rename 145 = .ok (.goto (-67), 3) := by decide +kernel
theorem dX4_rename_148 : decode cX4_rename 148 = .ok (.iload 5, 2) := by decide +kernel
theorem dX4_rename_150 : decode cX4_rename 150 = .ok (.ireturn, 1) := by decide +kernel
set_option maxRecDepth 20000 in
theorem ggX4_at_X4_isSide : GoodIn wsX4_at wsX4_isSide := goodIn_r _ [5] (by decide +kernel) (by decide +kernel)
set_option maxRecDepth 20000 in
theorem gX4_at_X4_isSide : GoodIn wsX4_at (va_wsS RX4 63 yX4_isSide wsX4_isSide) := goodIn_app (goodIn_of _ (by decide +kernel)) ggX4_at_X4_isSide
set_option maxRecDepth 20000 in
theorem ggX4_at_X4_own : GoodIn wsX4_at wsX4_own := goodIn_r _ [9, 10, 11, 12, 13, 14, 15, 16, 17, 18, 19, 20, 21, 22, 23, 24, 25, 26] (by decide +kernel) (by decide +kernel)
set_option maxRecDepth 20000 in
theorem gX4_at_X4_own : GoodIn wsX4_at (wsV RX4 67 RX4 yX4_own wsX4_own) := goodIn_app (goodIn_of _ (by decide +kernel)) ggX4_at_X4_own
theorem dX4_at_0 : decode cX4_at 0 = .ok (.iload_n 1, 1) := by decide +kernel
theorem dX4_at_1 : decode cX4_at 1 = .ok (.ifCond .lt 27, 3) := by decide +kernel
theorem dX4_at_4 : decode cX4_at 4 = .ok (.iload_n 1, 1) := by decide +kernel
theorem dX4_at_5 : decode cX4_at 5 = .ok (.aload_n 0, 1) := by decide +kernel
theorem dX4_at_6 : decode cX4_at 6 = .ok (.getfield 47, 3) := by decide +kernel
theorem dX4_at_9 : decode cX4_at 9 = .ok (.if_icmp .ge 19, 3) := by decide +kernel
theorem dX4_at_12 : decode cX4_at 12 = .ok (.iload_n 2, 1) := by decide +kernel
theorem dX4_at_13 : decode cX4_at 13 = .ok (.invokestatic 63, 3) := by decide +kernel
theorem dX4_at_16 : decode cX4_at 16 = .ok (.ifCond .eq 12, 3) := by decide +kernel
theorem dX4_at_19 : decode cX4_at 19 = .ok (.aload_n 0, 1) := by decide +kernel
theorem dX4_at_20 : decode cX4_at 20 = .ok (.iload_n 2, 1) := by decide +kernel
theorem dX4_at_21 : decode cX4_at 21 = .ok (.iload_n 1, 1) := by decide +kernel
theorem dX4_at_22 : decode cX4_at 22 = .ok (.invokevirtual 67, 3) := by decide +kernel
theorem dX4_at_25 : decode cX4_at 25 = .ok (.goto 4, 3) := by decide +kernel
theorem dX4_at_28 : decode cX4_at 28 = .ok (.iconst 0, 1) := by decide +kernel
theorem dX4_at_29 : decode cX4_at 29 = .ok (.ireturn, 1) := by decide +kernel
theorem dX4_number_0 : decode cX4_number 0 = .ok (.aload_n 0, 1) := by decide +kernel
theorem dX4_number_1 : decode cX4_number 1 = .ok (.iconst 0, 1) := by decide +kernel
theorem dX4_number_2 : decode cX4_number 2 = .ok (.putfield 73, 3) := by decide +kernel
theorem dX4_number_5 : decode cX4_number 5 = .ok (.aload_n 0, 1) := by decide +kernel
theorem dX4_number_6 : decode cX4_number 6 = .ok (.iconst 0, 1) := by decide +kernel
theorem dX4_number_7 : decode cX4_number 7 = .ok (.putfield 76, 3) := by decide +kernel
theorem dX4_number_10 : decode cX4_number 10 = .ok (.iconst 0, 1) := by decide +kernel
theorem dX4_number_11 : decode cX4_number 11 = .ok (.istore_n 1, 1) := by decide +kernel
theorem dX4_number_12 : decode cX4_number 12 = .ok (.iload_n 1, 1) := by decide +kernel
theorem dX4_number_13 : decode cX4_number 13 = .ok (.aload_n 0, 1) := by decide +kernel
theorem dX4_number_14 : decode cX4_number 14 = .ok (.getfield 47, 3) := by decide +kernel
theorem dX4_number_17 : decode cX4_number 17 = .ok (.if_icmp .ge 164, 3) := by decide +kernel
theorem dX4_number_20 : decode cX4_number 20 = .ok (.iconst (-1), 1) := by decide +kernel
theorem dX4_number_21 : decode cX4_number 21 = .ok (.istore_n 2, 1) := by decide +kernel
theorem dX4_number_22 : decode cX4_number 22 = .ok (.iconst (-1), 1) := by decide +kernel
theorem dX4_number_23 : decode cX4_number 23 = .ok (.istore_n 3, 1) := by decide +kernel
theorem dX4_number_24 : decode cX4_number 24 = .ok (.iconst 0, 1) := by decide +kernel
theorem dX4_number_25 : decode cX4_number 25 = .ok (.istore 4, 2) := by decide +kernel
theorem dX4_number_27 : decode cX4_number 27 = .ok (.iload 4, 2) := by decide +kernel
theorem dX4_number_29 : decode cX4_number 29 = .ok (.iload_n 1, 1) := by decide +kernel
theorem dX4_number_30 : decode cX4_number 30 = .ok (.if_icmp .ge 65, 3) := by decide +kernel
theorem dX4_number_33 : decode cX4_number 33 = .ok (.aload_n 0, 1) := by decide +kernel
theorem dX4_number_34 : decode cX4_number 34 = .ok (.getfield 7, 3) := by decide +kernel
theorem dX4_number_37 : decode cX4_number 37 = .ok (.iload 4, 2) := by decide +kernel
theorem dX4_number_39 : decode cX4_number 39 = .ok (.iaload, 1) := by decide +kernel
theorem dX4_number_40 : decode cX4_number 40 = .ok (.aload_n 0, 1) := by decide +kernel
theorem dX4_number_41 : decode cX4_number 41 = .ok (.getfield 7, 3) := by decide +kernel
theorem dX4_number_44 : decode cX4_number 44 = .ok (.iload_n 1, 1) := by decide +kernel
theorem dX4_number_45 : decode cX4_number 45 = .ok (.iaload, 1) := by decide +kernel
theorem dX4_number_46 : decode cX4_number 46 = .ok (.if_icmp .ne 13, 3) := by decide +kernel
theorem dX4_number_49 : decode cX4_number 49 = .ok (.aload_n 0, 1) := by decide +kernel
theorem dX4_number_50 : decode cX4_number 50 = .ok (.getfield 16, 3) := by decide +kernel
theorem dX4_number_53 : decode cX4_number 53 = .ok (.iload 4, 2) := by decide +kernel
theorem dX4_number_55 : decode cX4_number 55 = .ok (.iaload, 1) := by decide +kernel
theorem dX4_number_56 : decode cX4_number 56 = .ok (.goto 4, 3) := by decide +kernel
theorem dX4_number_59 : decode cX4_number 59 = .ok (.iload_n 2, 1) := by decide +kernel
theorem dX4_number_60 : decode cX4_number 60 = .ok (.istore_n 2, 1) := by decide +kernel
theorem dX4_number_61 : decode cX4_number 61 = .ok (.aload_n 0, 1) := by decide +kernel
theorem dX4_number_62 : decode cX4_number 62 = .ok (.getfield 13, 3) := by decide +kernel
theorem dX4_number_65 : decode cX4_number 65 = .ok (.iload 4, 2) := by decide +kernel
theorem dX4_number_67 : decode cX4_number 67 = .ok (.iaload, 1) := by decide +kernel
theorem dX4_number_68 : decode cX4_number 68 = .ok (.aload_n 0, 1) := by decide +kernel
theorem dX4_number_69 : decode cX4_number 69 = .ok (.getfield 13, 3) := by decide +kernel
theorem dX4_number_72 : decode cX4_number 72 = .ok (.iload_n 1, 1) := by decide +kernel
theorem dX4_number_73 : decode cX4_number 73 = .ok (.iaload, 1) := by decide +kernel
theorem dX4_number_74 : decode cX4_number 74 = .ok (.if_icmp .ne 13, 3) := by decide +kernel
theorem dX4_number_77 : decode cX4_number 77 = .ok (.aload_n 0, 1) := by decide +kernel
theorem dX4_number_78 : decode cX4_number 78 = .ok (.getfield 19, 3) := by decide +kernel
theorem dX4_number_81 : decode cX4_number 81 = .ok (.iload 4, 2) := by decide +kernel
theorem dX4_number_83 : decode cX4_number 83 = .ok (.iaload, 1) := by decide +kernel
theorem dX4_number_84 : decode cX4_number 84 = .ok (.goto 4, 3) := by decide +kernel
theorem dX4_number_87 : decode cX4_number 87 = .ok (.iload_n 3, 1) := by decide +kernel
theorem dX4_number_88 : decode cX4_number 88 = .ok (.istore_n 3, 1) := by decide +kernel
theorem dX4_number_89 : decode cX4_number 89 = .ok (.iinc 4 1, 3) := by decide +kernel
theorem dX4_number_92 : decode cX4_number 92 = .ok (.goto (-65), 3) := by decide +kernel
theorem dX4_number_95 : decode cX4_number 95 = .ok (.iload_n 2, 1) := by decide +kernel
theorem dX4_number_96 : decode cX4_number 96 = .ok (.iconst (-1), 1) := by decide +kernel
theorem dX4_number_97 : decode cX4_number 97 = .ok (.if_icmp .ne 25, 3) := by decide +kernel
theorem dX4_number_100 : decode cX4_number 100 = .ok (.aload_n 0, 1) := by decide +kernel
theorem dX4_number_101 : decode cX4_number 101 = .ok (.getfield 73, 3) := by decide +kernel
theorem dX4_number_104 : decode cX4_number 104 = .ok (.istore_n 2, 1) := by decide +kernel
theorem dX4_number_105 : decode cX4_number 105 = .ok (.aload_n 0, 1) := by decide +kernel
theorem dX4_number_106 : decode cX4_number 106 = .ok (.dup, 1) := by decide +kernel
theorem dX4_number_107 : decode cX4_number 107 = .ok (.getfield 73, 3) := by decide +kernel
theorem dX4_number_110 : decode cX4_number 110 = .ok (.iconst 1, 1) := by decide +kernel
theorem dX4_number_111 : decode cX4_number 111 = .ok (.iadd, 1) := by decide +kernel
theorem dX4_number_112 : decode cX4_number 112 = .ok (.putfield 73, 3) := by decide +kernel
theorem dX4_number_115 : decode cX4_number 115 = .ok (.aload_n 0, 1) := by decide +kernel
theorem dX4_number_116 : decode cX4_number 116 = .ok (.getfield 22, 3) := by decide +kernel
theorem dX4_number_119 : decode cX4_number 119 = .ok (.iload_n 2, 1) := by decide +kernel
theorem dX4_number_120 : decode cX4_number 120 = .ok (.iconst (-1), 1) := by decide +kernel
theorem dX4_number_121 : decode cX4_number 121 = .ok (.iastore, 1) := by decide +kernel
theorem dX4_number_122 : decode cX4_number 122 = .ok (.iload_n 3, 1) := by decide +kernel
theorem dX4_number_123 : decode cX4_number 123 = .ok (.iconst (-1), 1) := by decide +kernel
theorem dX4_number_124 : decode cX4_number 124 = .ok (.if_icmp .ne 18, 3) := by decide +kernel
theorem dX4_number_127 : decode cX4_number 127 = .ok (.aload_n 0, 1) := by decide +kernel
theorem dX4_number_128 : decode cX4_number 128 = .ok (.getfield 76, 3) := by decide +kernel
theorem dX4_number_131 : decode cX4_number 131 = .ok (.istore_n 3, 1) := by decide +kernel
theorem dX4_number_132 : decode cX4_number 132 = .ok (.aload_n 0, 1) := by decide +kernel
theorem dX4_number_133 : decode cX4_number 133 = .ok (.dup, 1) := by decide +kernel
theorem dX4_number_134 : decode cX4_number 134 = .ok (.getfield 76, 3) := by decide +kernel
theorem dX4_number_137 : decode cX4_number 137 = .ok (.iconst 1, 1) := by decide +kernel
theorem dX4_number_138 : decode cX4_number 138 = .ok (.iadd, 1) := by decide +kernel
theorem dX4_number_139 : decode cX4_number 139 = .ok (.putfield 76, 3) := by decide +kernel
theorem dX4_number_142 : decode cX4_number 142 = .ok (.aload_n 0, 1) := by decide +kernel
theorem dX4_number_143 : decode cX4_number 143 = .ok (.getfield 16, 3) := by decide +kernel
theorem dX4_number_146 : decode cX4_number 146 = .ok (.iload_n 1, 1) := by decide +kernel
theorem dX4_number_147 : decode cX4_number 147 = .ok (.iload_n 2, 1) := by decide +kernel
theorem dX4_number_148 : decode cX4_number 148 = .ok (.iastore, 1) := by decide +kernel
theorem dX4_number_149 : decode cX4_number 149 = .ok (.aload_n 0, 1) := by decide +kernel
theorem dX4_number_150 : decode cX4_number 150 = .ok (.getfield 19, 3) := by decide +kernel
theorem dX4_number_153 : decode cX4_number 153 = .ok (.iload_n 1, 1) := by decide +kernel
theorem dX4_number_154 : decode cX4_number 154 = .ok (.iload_n 3, 1) := by decide +kernel
theorem dX4_number_155 : decode cX4_number 155 = .ok (.iastore, 1) := by decide +kernel
theorem dX4_number_156 : decode cX4_number 156 = .ok (.aload_n 0, 1) := by decide +kernel
theorem dX4_number_157 : decode cX4_number 157 = .ok (.getfield 25, 3) := by decide +kernel
theorem dX4_number_160 : decode cX4_number 160 = .ok (.iload_n 1, 1) := by decide +kernel
theorem dX4_number_161 : decode cX4_number 161 = .ok (.aload_n 0, 1) := by decide +kernel
theorem dX4_number_162 : decode cX4_number 162 = .ok (.getfield 22, 3) := by decide +kernel
theorem dX4_number_165 : decode cX4_number 165 = .ok (.iload_n 2, 1) := by decide +kernel
theorem dX4_number_166 : decode cX4_number 166 = .ok (.iaload, 1) := by decide +kernel
theorem dX4_number_167 : decode cX4_number 167 = .ok (.iastore, 1) := by decide +kernel
theorem dX4_number_168 : decode cX4_number 168 = .ok (.aload_n 0, 1) := by decide +kernel
theorem dX4_number_169 : decode cX4_number 169 = .ok (.getfield 22, 3) := by decide +kernel
theorem dX4_number_172 : decode cX4_number 172 = .ok (.iload_n 2, 1) := by decide +kernel
theorem dX4_number_173 : decode cX4_number 173 = .ok (.iload_n 1, 1) := by decide +kernel
theorem dX4_number_174 : decode cX4_number 174 = .ok (.iastore, 1) := by decide +kernel
theorem dX4_number_175 : decode cX4_number 175 = .ok (.iinc 1 1, 3) := by decide +kernel
theorem dX4_number_178 : decode cX4_number 178 = .ok (.goto (-166), 3) := by decide +kernel
theorem dX4_number_181 : decode cX4_number 181 = .ok (.return_, 1) := by decide +kernel
set_option maxRecDepth 20000 in
theorem ggX4_grows_X4_turn : GoodIn wsX4_grows wsX4_turn := goodIn_r _ [12, 2, 1, 6, 13, 14, 15, 16, 17, 18, 19, 20, 21, 22, 23, 24, 25, 26, 27] (by decide +kernel) (by decide +kernel)
set_option maxRecDepth 20000 in
theorem gX4_grows_X4_turn : GoodIn wsX4_grows (wsV RX4 79 RX4 yX4_turn wsX4_turn) := goodIn_app (goodIn_of _ (by decide +kernel)) ggX4_grows_X4_turn
theorem dX4_grows_0 : decode cX4_grows 0 = .ok (.iconst 0, 1) := by decide +kernel
theorem dX4_grows_1 : decode cX4_grows 1 = .ok (.istore_n 2, 1) := by decide +kernel
theorem dX4_grows_2 : decode cX4_grows 2 = .ok (.iload_n 2, 1) := by decide +kernel
theorem dX4_grows_3 : decode cX4_grows 3 = .ok (.aload_n 0, 1) := by decide +kernel
theorem dX4_grows_4 : decode cX4_grows 4 = .ok (.getfield 76, 3) := by decide +kernel
theorem dX4_grows_7 : decode cX4_grows 7 = .ok (.if_icmp .ge 16, 3) := by decide +kernel
theorem dX4_grows_10 : decode cX4_grows 10 = .ok (.aload_n 0, 1) := by decide +kernel
theorem dX4_grows_11 : decode cX4_grows 11 = .ok (.getfield 38, 3) := by decide +kernel
theorem dX4_grows_14 : decode cX4_grows 14 = .ok (.iload_n 2, 1) := by decide +kernel
theorem dX4_grows_15 : decode cX4_grows 15 = .ok (.iconst (-1), 1) := by decide +kernel
theorem dX4_grows_16 : decode cX4_grows 16 = .ok (.iastore, 1) := by decide +kernel
theorem dX4_grows_17 : decode cX4_grows 17 = .ok (.iinc 2 1, 3) := by decide +kernel
theorem dX4_grows_20 : decode cX4_grows 20 = .ok (.goto (-18), 3) := by decide +kernel
theorem dX4_grows_23 : decode cX4_grows 23 = .ok (.iconst 1, 1) := by decide +kernel
theorem dX4_grows_24 : decode cX4_grows 24 = .ok (.istore_n 2, 1) := by decide +kernel
theorem dX4_grows_25 : decode cX4_grows 25 = .ok (.aload_n 0, 1) := by decide +kernel
theorem dX4_grows_26 : decode cX4_grows 26 = .ok (.getfield 35, 3) := by decide +kernel
theorem dX4_grows_29 : decode cX4_grows 29 = .ok (.iconst 0, 1) := by decide +kernel
theorem dX4_grows_30 : decode cX4_grows 30 = .ok (.iload_n 1, 1) := by decide +kernel
theorem dX4_grows_31 : decode cX4_grows 31 = .ok (.iastore, 1) := by decide +kernel
theorem dX4_grows_32 : decode cX4_grows 32 = .ok (.iconst 0, 1) := by decide +kernel
theorem dX4_grows_33 : decode cX4_grows 33 = .ok (.istore_n 3, 1) := by decide +kernel
theorem dX4_grows_34 : decode cX4_grows 34 = .ok (.iload_n 3, 1) := by decide +kernel
theorem dX4_grows_35 : decode cX4_grows 35 = .ok (.iload_n 2, 1) := by decide +kernel
theorem dX4_grows_36 : decode cX4_grows 36 = .ok (.if_icmp .ge 112, 3) := by decide +kernel
theorem dX4_grows_39 : decode cX4_grows 39 = .ok (.aload_n 0, 1) := by decide +kernel
theorem dX4_grows_40 : decode cX4_grows 40 = .ok (.getfield 35, 3) := by decide +kernel
theorem dX4_grows_43 : decode cX4_grows 43 = .ok (.iload_n 3, 1) := by decide +kernel
theorem dX4_grows_44 : decode cX4_grows 44 = .ok (.iaload, 1) := by decide +kernel
theorem dX4_grows_45 : decode cX4_grows 45 = .ok (.istore 4, 2) := by decide +kernel
theorem dX4_grows_47 : decode cX4_grows 47 = .ok (.aload_n 0, 1) := by decide +kernel
theorem dX4_grows_48 : decode cX4_grows 48 = .ok (.getfield 22, 3) := by decide +kernel
theorem dX4_grows_51 : decode cX4_grows 51 = .ok (.iload 4, 2) := by decide +kernel
theorem dX4_grows_53 : decode cX4_grows 53 = .ok (.iaload, 1) := by decide +kernel
theorem dX4_grows_54 : decode cX4_grows 54 = .ok (.istore 5, 2) := by decide +kernel
theorem dX4_grows_56 : decode cX4_grows 56 = .ok (.iload 5, 2) := by decide +kernel
theorem dX4_grows_58 : decode cX4_grows 58 = .ok (.iconst (-1), 1) := by decide +kernel
theorem dX4_grows_59 : decode cX4_grows 59 = .ok (.if_icmp .eq 83, 3) := by decide +kernel
theorem dX4_grows_62 : decode cX4_grows 62 = .ok (.aload_n 0, 1) := by decide +kernel
theorem dX4_grows_63 : decode cX4_grows 63 = .ok (.getfield 19, 3) := by decide +kernel
theorem dX4_grows_66 : decode cX4_grows 66 = .ok (.iload 5, 2) := by decide +kernel
theorem dX4_grows_68 : decode cX4_grows 68 = .ok (.iaload, 1) := by decide +kernel
theorem dX4_grows_69 : decode cX4_grows 69 = .ok (.istore 6, 2) := by decide +kernel
theorem dX4_grows_71 : decode cX4_grows 71 = .ok (.aload_n 0, 1) := by decide +kernel
theorem dX4_grows_72 : decode cX4_grows 72 = .ok (.getfield 38, 3) := by decide +kernel
theorem dX4_grows_75 : decode cX4_grows 75 = .ok (.iload 6, 2) := by decide +kernel
theorem dX4_grows_77 : decode cX4_grows 77 = .ok (.iaload, 1) := by decide +kernel
theorem dX4_grows_78 : decode cX4_grows 78 = .ok (.iconst (-1), 1) := by decide +kernel
theorem dX4_grows_79 : decode cX4_grows 79 = .ok (.if_icmp .eq 6, 3) := by decide +kernel
theorem dX4_grows_82 : decode cX4_grows 82 = .ok (.goto 48, 3) := by decide +kernel
theorem dX4_grows_85 : decode cX4_grows 85 = .ok (.aload_n 0, 1) := by decide +kernel
theorem dX4_grows_86 : decode cX4_grows 86 = .ok (.getfield 38, 3) := by decide +kernel
theorem dX4_grows_89 : decode cX4_grows 89 = .ok (.iload 6, 2) := by decide +kernel
theorem dX4_grows_91 : decode cX4_grows 91 = .ok (.iload 4, 2) := by decide +kernel
theorem dX4_grows_93 : decode cX4_grows 93 = .ok (.iastore, 1) := by decide +kernel
theorem dX4_grows_94 : decode cX4_grows 94 = .ok (.aload_n 0, 1) := by decide +kernel
theorem dX4_grows_95 : decode cX4_grows 95 = .ok (.getfield 28, 3) := by decide +kernel
theorem dX4_grows_98 : decode cX4_grows 98 = .ok (.iload 6, 2) := by decide +kernel
theorem dX4_grows_100 : decode cX4_grows 100 = .ok (.iaload, 1) := by decide +kernel
theorem dX4_grows_101 : decode cX4_grows 101 = .ok (.iconst (-1), 1) := by decide +kernel
theorem dX4_grows_102 : decode cX4_grows 102 = .ok (.if_icmp .ne 12, 3) := by decide +kernel
theorem dX4_grows_105 : decode cX4_grows 105 = .ok (.aload_n 0, 1) := by decide +kernel
theorem dX4_grows_106 : decode cX4_grows 106 = .ok (.iload_n 1, 1) := by decide +kernel
theorem dX4_grows_107 : decode cX4_grows 107 = .ok (.iload 6, 2) := by decide +kernel
theorem dX4_grows_109 : decode cX4_grows 109 = .ok (.invokevirtual 79, 3) := by decide +kernel
theorem dX4_grows_112 : decode cX4_grows 112 = .ok (.iconst 1, 1) := by decide +kernel
theorem dX4_grows_113 : decode cX4_grows 113 = .ok (.ireturn, 1) := by decide +kernel
theorem dX4_grows_114 : decode cX4_grows 114 = .ok (.aload_n 0, 1) := by decide +kernel
theorem dX4_grows_115 : decode cX4_grows 115 = .ok (.getfield 35, 3) := by decide +kernel
theorem dX4_grows_118 : decode cX4_grows 118 = .ok (.iload_n 2, 1) := by decide +kernel
theorem dX4_grows_119 : decode cX4_grows 119 = .ok (.aload_n 0, 1) := by decide +kernel
theorem dX4_grows_120 : decode cX4_grows 120 = .ok (.getfield 28, 3) := by decide +kernel
theorem dX4_grows_123 : decode cX4_grows 123 = .ok (.iload 6, 2) := by decide +kernel
theorem dX4_grows_125 : decode cX4_grows 125 = .ok (.iaload, 1) := by decide +kernel
theorem dX4_grows_126 : decode cX4_grows 126 = .ok (.iastore, 1) := by decide +kernel
theorem dX4_grows_127 : decode cX4_grows 127 = .ok (.iinc 2 1, 3) := by decide +kernel
theorem dX4_grows_130 : decode cX4_grows 130 = .ok (.aload_n 0, 1) := by decide +kernel
theorem dX4_grows_131 : decode cX4_grows 131 = .ok (.getfield 25, 3) := by decide +kernel
theorem dX4_grows_134 : decode cX4_grows 134 = .ok (.iload 5, 2) := by decide +kernel
theorem dX4_grows_136 : decode cX4_grows 136 = .ok (.iaload, 1) := by decide +kernel
theorem dX4_grows_137 : decode cX4_grows 137 = .ok (.istore 5, 2) := by decide +kernel
theorem dX4_grows_139 : decode cX4_grows 139 = .ok (.goto (-83), 3) := by decide +kernel
theorem dX4_grows_142 : decode cX4_grows 142 = .ok (.iinc 3 1, 3) := by decide +kernel
theorem dX4_grows_145 : decode cX4_grows 145 = .ok (.goto (-111), 3) := by decide +kernel
theorem dX4_grows_148 : decode cX4_grows 148 = .ok (.iconst 0, 1) := by decide +kernel
theorem dX4_grows_149 : decode cX4_grows 149 = .ok (.ireturn, 1) := by decide +kernel
theorem dX4_turn_0 : decode cX4_turn 0 = .ok (.iload_n 2, 1) := by decide +kernel
theorem dX4_turn_1 : decode cX4_turn 1 = .ok (.istore_n 3, 1) := by decide +kernel
theorem dX4_turn_2 : decode cX4_turn 2 = .ok (.iconst 1, 1) := by decide +kernel
theorem dX4_turn_3 : decode cX4_turn 3 = .ok (.istore 4, 2) := by decide +kernel
theorem dX4_turn_5 : decode cX4_turn 5 = .ok (.iload 4, 2) := by decide +kernel
theorem dX4_turn_7 : decode cX4_turn 7 = .ok (.ifCond .eq 80, 3) := by decide +kernel
theorem dX4_turn_10 : decode cX4_turn 10 = .ok (.aload_n 0, 1) := by decide +kernel
theorem dX4_turn_11 : decode cX4_turn 11 = .ok (.getfield 38, 3) := by decide +kernel
theorem dX4_turn_14 : decode cX4_turn 14 = .ok (.iload_n 3, 1) := by decide +kernel
theorem dX4_turn_15 : decode cX4_turn 15 = .ok (.iaload, 1) := by decide +kernel
theorem dX4_turn_16 : decode cX4_turn 16 = .ok (.istore 5, 2) := by decide +kernel
theorem dX4_turn_18 : decode cX4_turn 18 = .ok (.iconst (-1), 1) := by decide +kernel
theorem dX4_turn_19 : decode cX4_turn 19 = .ok (.istore 6, 2) := by decide +kernel
theorem dX4_turn_21 : decode cX4_turn 21 = .ok (.iconst 0, 1) := by decide +kernel
theorem dX4_turn_22 : decode cX4_turn 22 = .ok (.istore 7, 2) := by decide +kernel
theorem dX4_turn_24 : decode cX4_turn 24 = .ok (.iload 7, 2) := by decide +kernel
theorem dX4_turn_26 : decode cX4_turn 26 = .ok (.aload_n 0, 1) := by decide +kernel
theorem dX4_turn_27 : decode cX4_turn 27 = .ok (.getfield 76, 3) := by decide +kernel
theorem dX4_turn_30 : decode cX4_turn 30 = .ok (.if_icmp .ge 30, 3) := by decide +kernel
theorem dX4_turn_33 : decode cX4_turn 33 = .ok (.aload_n 0, 1) := by decide +kernel
theorem dX4_turn_34 : decode cX4_turn 34 = .ok (.getfield 28, 3) := by decide +kernel
theorem dX4_turn_37 : decode cX4_turn 37 = .ok (.iload 7, 2) := by decide +kernel
theorem dX4_turn_39 : decode cX4_turn 39 = .ok (.iaload, 1) := by decide +kernel
theorem dX4_turn_40 : decode cX4_turn 40 = .ok (.iload 5, 2) := by decide +kernel
theorem dX4_turn_42 : decode cX4_turn 42 = .ok (.if_icmp .ne 8, 3) := by decide +kernel
theorem dX4_turn_45 : decode cX4_turn 45 = .ok (.iload 7, 2) := by decide +kernel
theorem dX4_turn_47 : decode cX4_turn 47 = .ok (.goto 5, 3) := by decide +kernel
theorem dX4_turn_50 : decode cX4_turn 50 = .ok (.iload 6, 2) := by decide +kernel
theorem dX4_turn_52 : decode cX4_turn 52 = .ok (.istore 6, 2) := by decide +kernel
theorem dX4_turn_54 : decode cX4_turn 54 = .ok (.iinc 7 1, 3) := by decide +kernel
theorem dX4_turn_57 : decode cX4_turn 57 = .ok (.goto (-33), 3) := by decide +kernel
theorem dX4_turn_60 : decode cX4_turn 60 = .ok (.aload_n 0, 1) := by decide +kernel
theorem dX4_turn_61 : decode cX4_turn 61 = .ok (.getfield 28, 3) := by decide +kernel
theorem dX4_turn_64 : decode cX4_turn 64 = .ok (.iload_n 3, 1) := by decide +kernel
theorem dX4_turn_65 : decode cX4_turn 65 = .ok (.iload 5, 2) := by decide +kernel
theorem dX4_turn_67 : decode cX4_turn 67 = .ok (.iastore, 1) := by decide +kernel
theorem dX4_turn_68 : decode cX4_turn 68 = .ok (.iload 5, 2) := by decide +kernel
theorem dX4_turn_70 : decode cX4_turn 70 = .ok (.iload_n 1, 1) := by decide +kernel
theorem dX4_turn_71 : decode cX4_turn 71 = .ok (.if_icmp .eq 7, 3) := by decide +kernel
theorem dX4_turn_74 : decode cX4_turn 74 = .ok (.iconst 1, 1) := by decide +kernel
theorem dX4_turn_75 : decode cX4_turn 75 = .ok (.goto 4, 3) := by decide +kernel
theorem dX4_turn_78 : decode cX4_turn 78 = .ok (.iconst 0, 1) := by decide +kernel
theorem dX4_turn_79 : decode cX4_turn 79 = .ok (.istore 4, 2) := by decide +kernel
theorem dX4_turn_81 : decode cX4_turn 81 = .ok (.iload 6, 2) := by decide +kernel
theorem dX4_turn_83 : decode cX4_turn 83 = .ok (.istore_n 3, 1) := by decide +kernel
theorem dX4_turn_84 : decode cX4_turn 84 = .ok (.goto (-79), 3) := by decide +kernel
theorem dX4_turn_87 : decode cX4_turn 87 = .ok (.return_, 1) := by decide +kernel
set_option maxRecDepth 20000 in
theorem ggX4_matching_X4_number : GoodIn wsX4_matching wsX4_number := goodIn_r _ [8, 3, 1, 9, 10, 11, 12, 13, 14, 15, 26, 27, 28, 29, 30, 31, 32, 33, 34, 35, 36, 37, 38, 39, 40] (by decide +kernel) (by decide +kernel)
set_option maxRecDepth 20000 in
theorem gX4_matching_X4_number : GoodIn wsX4_matching (wsV RX4 82 RX4 yX4_number wsX4_number) := goodIn_app (goodIn_of _ (by decide +kernel)) ggX4_matching_X4_number
set_option maxRecDepth 20000 in
theorem ggX4_matching_X4_grows : GoodIn wsX4_matching wsX4_grows := goodIn_r _ [19, 1, 20, 21, 14, 13, 2, 15, 22, 23, 24, 7, 25, 26, 27, 28, 29, 30, 31, 32, 33, 34, 35, 36, 37, 38, 39, 40] (by decide +kernel) (by decide +kernel)
set_option maxRecDepth 20000 in
theorem gX4_matching_X4_grows : GoodIn wsX4_matching (wsV RX4 85 RX4 yX4_grows wsX4_grows) := goodIn_app (goodIn_of _ (by decide +kernel)) ggX4_matching_X4_grows
theorem dX4_matching_0 : decode cX4_matching 0 = .ok (.aload_n 0, 1) := by decide +kernel
theorem dX4_matching_1 : decode cX4_matching 1 = .ok (.invokevirtual 82, 3) := by decide +kernel
theorem dX4_matching_4 : decode cX4_matching 4 = .ok (.iconst 0, 1) := by decide +kernel
theorem dX4_matching_5 : decode cX4_matching 5 = .ok (.istore_n 1, 1) := by decide +kernel
theorem dX4_matching_6 : decode cX4_matching 6 = .ok (.iload_n 1, 1) := by decide +kernel
theorem dX4_matching_7 : decode cX4_matching 7 = .ok (.aload_n 0, 1) := by decide +kernel
theorem dX4_matching_8 : decode cX4_matching 8 = .ok (.getfield 76, 3) := by decide +kernel
theorem dX4_matching_11 : decode cX4_matching 11 = .ok (.if_icmp .ge 16, 3) := by decide +kernel
theorem dX4_matching_14 : decode cX4_matching 14 = .ok (.aload_n 0, 1) := by decide +kernel
theorem dX4_matching_15 : decode cX4_matching 15 = .ok (.getfield 28, 3) := by decide +kernel
theorem dX4_matching_18 : decode cX4_matching 18 = .ok (.iload_n 1, 1) := by decide +kernel
theorem dX4_matching_19 : decode cX4_matching 19 = .ok (.iconst (-1), 1) := by decide +kernel
theorem dX4_matching_20 : decode cX4_matching 20 = .ok (.iastore, 1) := by decide +kernel
theorem dX4_matching_21 : decode cX4_matching 21 = .ok (.iinc 1 1, 3) := by decide +kernel
theorem dX4_matching_24 : decode cX4_matching 24 = .ok (.goto (-18), 3) := by decide +kernel
theorem dX4_matching_27 : decode cX4_matching 27 = .ok (.iconst 0, 1) := by decide +kernel
theorem dX4_matching_28 : decode cX4_matching 28 = .ok (.istore_n 1, 1) := by decide +kernel
theorem dX4_matching_29 : decode cX4_matching 29 = .ok (.iconst 0, 1) := by decide +kernel
theorem dX4_matching_30 : decode cX4_matching 30 = .ok (.istore_n 2, 1) := by decide +kernel
theorem dX4_matching_31 : decode cX4_matching 31 = .ok (.iload_n 2, 1) := by decide +kernel
theorem dX4_matching_32 : decode cX4_matching 32 = .ok (.aload_n 0, 1) := by decide +kernel
theorem dX4_matching_33 : decode cX4_matching 33 = .ok (.getfield 73, 3) := by decide +kernel
theorem dX4_matching_36 : decode cX4_matching 36 = .ok (.if_icmp .ge 25, 3) := by decide +kernel
theorem dX4_matching_39 : decode cX4_matching 39 = .ok (.aload_n 0, 1) := by decide +kernel
theorem dX4_matching_40 : decode cX4_matching 40 = .ok (.iload_n 2, 1) := by decide +kernel
theorem dX4_matching_41 : decode cX4_matching 41 = .ok (.invokevirtual 85, 3) := by decide +kernel
theorem dX4_matching_44 : decode cX4_matching 44 = .ok (.ifCond .eq 9, 3) := by decide +kernel
theorem dX4_matching_47 : decode cX4_matching 47 = .ok (.iload_n 1, 1) := by decide +kernel
theorem dX4_matching_48 : decode cX4_matching 48 = .ok (.iconst 1, 1) := by decide +kernel
theorem dX4_matching_49 : decode cX4_matching 49 = .ok (.iadd, 1) := by decide +kernel
theorem dX4_matching_50 : decode cX4_matching 50 = .ok (.goto 4, 3) := by decide +kernel
theorem dX4_matching_53 : decode cX4_matching 53 = .ok (.iload_n 1, 1) := by decide +kernel
theorem dX4_matching_54 : decode cX4_matching 54 = .ok (.istore_n 1, 1) := by decide +kernel
theorem dX4_matching_55 : decode cX4_matching 55 = .ok (.iinc 2 1, 3) := by decide +kernel
theorem dX4_matching_58 : decode cX4_matching 58 = .ok (.goto (-27), 3) := by decide +kernel
theorem dX4_matching_61 : decode cX4_matching 61 = .ok (.iload_n 1, 1) := by decide +kernel
theorem dX4_matching_62 : decode cX4_matching 62 = .ok (.ireturn, 1) := by decide +kernel
theorem dX4_touch_0 : decode cX4_touch 0 = .ok (.aload_n 0, 1) := by decide +kernel
theorem dX4_touch_1 : decode cX4_touch 1 = .ok (.getfield 7, 3) := by decide +kernel
theorem dX4_touch_4 : decode cX4_touch 4 = .ok (.iload_n 1, 1) := by decide +kernel
theorem dX4_touch_5 : decode cX4_touch 5 = .ok (.iaload, 1) := by decide +kernel
theorem dX4_touch_6 : decode cX4_touch 6 = .ok (.aload_n 0, 1) := by decide +kernel
theorem dX4_touch_7 : decode cX4_touch 7 = .ok (.getfield 7, 3) := by decide +kernel
theorem dX4_touch_10 : decode cX4_touch 10 = .ok (.iload_n 2, 1) := by decide +kernel
theorem dX4_touch_11 : decode cX4_touch 11 = .ok (.iaload, 1) := by decide +kernel
theorem dX4_touch_12 : decode cX4_touch 12 = .ok (.if_icmp .eq 18, 3) := by decide +kernel
theorem dX4_touch_15 : decode cX4_touch 15 = .ok (.aload_n 0, 1) := by decide +kernel
theorem dX4_touch_16 : decode cX4_touch 16 = .ok (.getfield 13, 3) := by decide +kernel
theorem dX4_touch_19 : decode cX4_touch 19 = .ok (.iload_n 1, 1) := by decide +kernel
theorem dX4_touch_20 : decode cX4_touch 20 = .ok (.iaload, 1) := by decide +kernel
theorem dX4_touch_21 : decode cX4_touch 21 = .ok (.aload_n 0, 1) := by decide +kernel
theorem dX4_touch_22 : decode cX4_touch 22 = .ok (.getfield 13, 3) := by decide +kernel
theorem dX4_touch_25 : decode cX4_touch 25 = .ok (.iload_n 2, 1) := by decide +kernel
theorem dX4_touch_26 : decode cX4_touch 26 = .ok (.iaload, 1) := by decide +kernel
theorem dX4_touch_27 : decode cX4_touch 27 = .ok (.if_icmp .ne 7, 3) := by decide +kernel
theorem dX4_touch_30 : decode cX4_touch 30 = .ok (.iconst 1, 1) := by decide +kernel
theorem dX4_touch_31 : decode cX4_touch 31 = .ok (.goto 4, 3) := by decide +kernel
theorem dX4_touch_34 : decode cX4_touch 34 = .ok (.iconst 0, 1) := by decide +kernel
theorem dX4_touch_35 : decode cX4_touch 35 = .ok (.ireturn, 1) := by decide +kernel
end
section
set_option maxRecDepth 20000 in
theorem ggX4_reach_X4_touch : GoodIn wsX4_reach wsX4_touch := goodIn_r _ [8, 9, 10, 11, 12, 13, 14, 15, 16, 17, 18, 19, 20, 21, 22, 23, 24, 25] (by decide +kernel) (by decide +kernel)
set_option maxRecDepth 20000 in
theorem gX4_reach_X4_touch : GoodIn wsX4_reach (wsV RX4 88 RX4 yX4_touch wsX4_touch) := goodIn_app (goodIn_of _ (by decide +kernel)) ggX4_reach_X4_touch
theorem dX4_reach_0 : decode cX4_reach 0 = .ok (.iload_n 1, 1) := by decide +kernel
theorem dX4_reach_1 : decode cX4_reach 1 = .ok (.istore_n 2, 1) := by decide +kernel
theorem dX4_reach_2 : decode cX4_reach 2 = .ok (.iconst 0, 1) := by decide +kernel
theorem dX4_reach_3 : decode cX4_reach 3 = .ok (.istore_n 3, 1) := by decide +kernel
theorem dX4_reach_4 : decode cX4_reach 4 = .ok (.iload_n 3, 1) := by decide +kernel
theorem dX4_reach_5 : decode cX4_reach 5 = .ok (.iload_n 2, 1) := by decide +kernel
theorem dX4_reach_6 : decode cX4_reach 6 = .ok (.if_icmp .ge 83, 3) := by decide +kernel
theorem dX4_reach_9 : decode cX4_reach 9 = .ok (.iconst 0, 1) := by decide +kernel
theorem dX4_reach_10 : decode cX4_reach 10 = .ok (.istore 4, 2) := by decide +kernel
theorem dX4_reach_12 : decode cX4_reach 12 = .ok (.iload 4, 2) := by decide +kernel
theorem dX4_reach_14 : decode cX4_reach 14 = .ok (.aload_n 0, 1) := by decide +kernel
theorem dX4_reach_15 : decode cX4_reach 15 = .ok (.getfield 47, 3) := by decide +kernel
theorem dX4_reach_18 : decode cX4_reach 18 = .ok (.if_icmp .ge 65, 3) := by decide +kernel
theorem dX4_reach_21 : decode cX4_reach 21 = .ok (.aload_n 0, 1) := by decide +kernel
theorem dX4_reach_22 : decode cX4_reach 22 = .ok (.getfield 41, 3) := by decide +kernel
theorem dX4_reach_25 : decode cX4_reach 25 = .ok (.iload 4, 2) := by decide +kernel
theorem dX4_reach_27 : decode cX4_reach 27 = .ok (.iaload, 1) := by decide +kernel
theorem dX4_reach_28 : decode cX4_reach 28 = .ok (.ifCond .ne 49, 3) := by decide +kernel
theorem dX4_reach_31 : decode cX4_reach 31 = .ok (.aload_n 0, 1) := by decide +kernel
theorem dX4_reach_32 : decode cX4_reach 32 = .ok (.aload_n 0, 1) := by decide +kernel
theorem dX4_reach_33 : decode cX4_reach 33 = .ok (.getfield 35, 3) := by decide +kernel
theorem dX4_reach_36 : decode cX4_reach 36 = .ok (.iload_n 3, 1) := by decide +kernel
theorem dX4_reach_37 : decode cX4_reach 37 = .ok (.iaload, 1) := by decide +kernel
theorem dX4_reach_38 : decode cX4_reach 38 = .ok (.iload 4, 2) := by decide +kernel
theorem dX4_reach_40 : decode cX4_reach 40 = .ok (.invokevirtual 88, 3) := by decide +kernel
theorem dX4_reach_43 : decode cX4_reach 43 = .ok (.ifCond .eq 34, 3) := by decide +kernel
theorem dX4_reach_46 : decode cX4_reach 46 = .ok (.aload_n 0, 1) := by decide +kernel
theorem dX4_reach_47 : decode cX4_reach 47 = .ok (.getfield 41, 3) := by decide +kernel
theorem dX4_reach_50 : decode cX4_reach 50 = .ok (.iload 4, 2) := by decide +kernel
theorem dX4_reach_52 : decode cX4_reach 52 = .ok (.aload_n 0, 1) := by decide +kernel
theorem dX4_reach_53 : decode cX4_reach 53 = .ok (.getfield 41, 3) := by decide +kernel
theorem dX4_reach_56 : decode cX4_reach 56 = .ok (.aload_n 0, 1) := by decide +kernel
theorem dX4_reach_57 : decode cX4_reach 57 = .ok (.getfield 35, 3) := by decide +kernel
theorem dX4_reach_60 : decode cX4_reach 60 = .ok (.iload_n 3, 1) := by decide +kernel
theorem dX4_reach_61 : decode cX4_reach 61 = .ok (.iaload, 1) := by decide +kernel
theorem dX4_reach_62 : decode cX4_reach 62 = .ok (.iaload, 1) := by decide +kernel
theorem dX4_reach_63 : decode cX4_reach 63 = .ok (.iconst 1, 1) := by decide +kernel
theorem dX4_reach_64 : decode cX4_reach 64 = .ok (.iadd, 1) := by decide +kernel
theorem dX4_reach_65 : decode cX4_reach 65 = .ok (.iastore, 1) := by decide +kernel
theorem dX4_reach_66 : decode cX4_reach 66 = .ok (.aload_n 0, 1) := by decide +kernel
theorem dX4_reach_67 : decode cX4_reach 67 = .ok (.getfield 35, 3) := by decide +kernel
theorem dX4_reach_70 : decode cX4_reach 70 = .ok (.iload_n 2, 1) := by decide +kernel
theorem dX4_reach_71 : decode cX4_reach 71 = .ok (.iload 4, 2) := by decide +kernel
theorem dX4_reach_73 : decode cX4_reach 73 = .ok (.iastore, 1) := by decide +kernel
theorem dX4_reach_74 : decode cX4_reach 74 = .ok (.iinc 2 1, 3) := by decide +kernel
theorem dX4_reach_77 : decode cX4_reach 77 = .ok (.iinc 4 1, 3) := by decide +kernel
theorem dX4_reach_80 : decode cX4_reach 80 = .ok (.goto (-68), 3) := by decide +kernel
theorem dX4_reach_83 : decode cX4_reach 83 = .ok (.iinc 3 1, 3) := by decide +kernel
theorem dX4_reach_86 : decode cX4_reach 86 = .ok (.goto (-82), 3) := by decide +kernel
theorem dX4_reach_89 : decode cX4_reach 89 = .ok (.iload_n 2, 1) := by decide +kernel
theorem dX4_reach_90 : decode cX4_reach 90 = .ok (.ireturn, 1) := by decide +kernel
theorem dX4_clearFar_0 : decode cX4_clearFar 0 = .ok (.iconst 0, 1) := by decide +kernel
theorem dX4_clearFar_1 : decode cX4_clearFar 1 = .ok (.istore_n 1, 1) := by decide +kernel
theorem dX4_clearFar_2 : decode cX4_clearFar 2 = .ok (.iload_n 1, 1) := by decide +kernel
theorem dX4_clearFar_3 : decode cX4_clearFar 3 = .ok (.aload_n 0, 1) := by decide +kernel
theorem dX4_clearFar_4 : decode cX4_clearFar 4 = .ok (.getfield 47, 3) := by decide +kernel
theorem dX4_clearFar_7 : decode cX4_clearFar 7 = .ok (.if_icmp .ge 16, 3) := by decide +kernel
theorem dX4_clearFar_10 : decode cX4_clearFar 10 = .ok (.aload_n 0, 1) := by decide +kernel
theorem dX4_clearFar_11 : decode cX4_clearFar 11 = .ok (.getfield 41, 3) := by decide +kernel
theorem dX4_clearFar_14 : decode cX4_clearFar 14 = .ok (.iload_n 1, 1) := by decide +kernel
theorem dX4_clearFar_15 : decode cX4_clearFar 15 = .ok (.iconst 0, 1) := by decide +kernel
theorem dX4_clearFar_16 : decode cX4_clearFar 16 = .ok (.iastore, 1) := by decide +kernel
theorem dX4_clearFar_17 : decode cX4_clearFar 17 = .ok (.iinc 1 1, 3) := by decide +kernel
theorem dX4_clearFar_20 : decode cX4_clearFar 20 = .ok (.goto (-18), 3) := by decide +kernel
theorem dX4_clearFar_23 : decode cX4_clearFar 23 = .ok (.return_, 1) := by decide +kernel
set_option maxRecDepth 20000 in
theorem ggX4_parts_X4_clearFar : GoodIn wsX4_parts wsX4_clearFar := goodIn_r _ [8, 1, 2, 19, 20, 21, 22, 23, 24, 25, 26, 27, 28, 29, 30, 31, 32, 33] (by decide +kernel) (by decide +kernel)
set_option maxRecDepth 20000 in
theorem gX4_parts_X4_clearFar : GoodIn wsX4_parts (wsV RX4 92 RX4 yX4_clearFar wsX4_clearFar) := goodIn_app (goodIn_of _ (by decide +kernel)) ggX4_parts_X4_clearFar
set_option maxRecDepth 20000 in
theorem ggX4_parts_X4_reach : GoodIn wsX4_parts wsX4_reach := goodIn_r _ [12, 1, 2, 3, 13, 14, 15, 7, 16, 17, 18, 19, 20, 21, 22, 23, 24, 25, 26, 27, 28, 29, 30, 31, 32, 33] (by decide +kernel) (by decide +kernel)
set_option maxRecDepth 20000 in
theorem gX4_parts_X4_reach : GoodIn wsX4_parts (wsV RX4 95 RX4 yX4_reach wsX4_reach) := goodIn_app (goodIn_of _ (by decide +kernel)) ggX4_parts_X4_reach
theorem dX4_parts_0 : decode cX4_parts 0 = .ok (.aload_n 0, 1) := by decide +kernel
theorem dX4_parts_1 : decode cX4_parts 1 = .ok (.invokevirtual 92, 3) := by decide +kernel
theorem dX4_parts_4 : decode cX4_parts 4 = .ok (.iconst 0, 1) := by decide +kernel
theorem dX4_parts_5 : decode cX4_parts 5 = .ok (.istore_n 1, 1) := by decide +kernel
theorem dX4_parts_6 : decode cX4_parts 6 = .ok (.iconst 0, 1) := by decide +kernel
theorem dX4_parts_7 : decode cX4_parts 7 = .ok (.istore_n 2, 1) := by decide +kernel
theorem dX4_parts_8 : decode cX4_parts 8 = .ok (.iload_n 2, 1) := by decide +kernel
theorem dX4_parts_9 : decode cX4_parts 9 = .ok (.aload_n 0, 1) := by decide +kernel
theorem dX4_parts_10 : decode cX4_parts 10 = .ok (.getfield 47, 3) := by decide +kernel
theorem dX4_parts_13 : decode cX4_parts 13 = .ok (.if_icmp .ge 41, 3) := by decide +kernel
theorem dX4_parts_16 : decode cX4_parts 16 = .ok (.aload_n 0, 1) := by decide +kernel
theorem dX4_parts_17 : decode cX4_parts 17 = .ok (.getfield 41, 3) := by decide +kernel
theorem dX4_parts_20 : decode cX4_parts 20 = .ok (.iload_n 2, 1) := by decide +kernel
theorem dX4_parts_21 : decode cX4_parts 21 = .ok (.iaload, 1) := by decide +kernel
theorem dX4_parts_22 : decode cX4_parts 22 = .ok (.ifCond .ne 26, 3) := by decide +kernel
theorem dX4_parts_25 : decode cX4_parts 25 = .ok (.aload_n 0, 1) := by decide +kernel
theorem dX4_parts_26 : decode cX4_parts 26 = .ok (.getfield 41, 3) := by decide +kernel
theorem dX4_parts_29 : decode cX4_parts 29 = .ok (.iload_n 2, 1) := by decide +kernel
theorem dX4_parts_30 : decode cX4_parts 30 = .ok (.iconst 1, 1) := by decide +kernel
theorem dX4_parts_31 : decode cX4_parts 31 = .ok (.iastore, 1) := by decide +kernel
theorem dX4_parts_32 : decode cX4_parts 32 = .ok (.aload_n 0, 1) := by decide +kernel
theorem dX4_parts_33 : decode cX4_parts 33 = .ok (.getfield 35, 3) := by decide +kernel
theorem dX4_parts_36 : decode cX4_parts 36 = .ok (.iconst 0, 1) := by decide +kernel
theorem dX4_parts_37 : decode cX4_parts 37 = .ok (.iload_n 2, 1) := by decide +kernel
theorem dX4_parts_38 : decode cX4_parts 38 = .ok (.iastore, 1) := by decide +kernel
theorem dX4_parts_39 : decode cX4_parts 39 = .ok (.aload_n 0, 1) := by decide +kernel
theorem dX4_parts_40 : decode cX4_parts 40 = .ok (.iconst 1, 1) := by decide +kernel
theorem dX4_parts_41 : decode cX4_parts 41 = .ok (.invokevirtual 95, 3) := by decide +kernel
theorem dX4_parts_44 : decode cX4_parts 44 = .ok (.pop, 1) := by decide +kernel
theorem dX4_parts_45 : decode cX4_parts 45 = .ok (.iinc 1 1, 3) := by decide +kernel
theorem dX4_parts_48 : decode cX4_parts 48 = .ok (.iinc 2 1, 3) := by decide +kernel
theorem dX4_parts_51 : decode cX4_parts 51 = .ok (.goto (-43), 3) := by decide +kernel
theorem dX4_parts_54 : decode cX4_parts 54 = .ok (.iload_n 1, 1) := by decide +kernel
theorem dX4_parts_55 : decode cX4_parts 55 = .ok (.ireturn, 1) := by decide +kernel
set_option maxRecDepth 20000 in
theorem ggX4_begin_X4_clearFar : GoodIn wsX4_begin wsX4_clearFar := goodIn_r _ [8, 1, 2, 15, 16, 17, 18, 19, 20, 21, 22, 23, 24, 25, 26, 27, 28, 29] (by decide +kernel) (by decide +kernel)
set_option maxRecDepth 20000 in
theorem gX4_begin_X4_clearFar : GoodIn wsX4_begin (wsV RX4 92 RX4 yX4_clearFar wsX4_clearFar) := goodIn_app (goodIn_of _ (by decide +kernel)) ggX4_begin_X4_clearFar
set_option maxRecDepth 20000 in
theorem ggX4_begin_X4_own : GoodIn wsX4_begin wsX4_own := goodIn_r _ [12, 13, 14, 15, 16, 17, 18, 19, 20, 21, 22, 23, 24, 25, 26, 27, 28, 29] (by decide +kernel) (by decide +kernel)
set_option maxRecDepth 20000 in
theorem gX4_begin_X4_own : GoodIn wsX4_begin (wsV RX4 67 RX4 yX4_own wsX4_own) := goodIn_app (goodIn_of _ (by decide +kernel)) ggX4_begin_X4_own
theorem dX4_begin_0 : decode cX4_begin 0 = .ok (.aload_n 0, 1) := by decide +kernel
theorem dX4_begin_1 : decode cX4_begin 1 = .ok (.invokevirtual 92, 3) := by decide +kernel
theorem dX4_begin_4 : decode cX4_begin 4 = .ok (.iconst 0, 1) := by decide +kernel
theorem dX4_begin_5 : decode cX4_begin 5 = .ok (.istore_n 3, 1) := by decide +kernel
theorem dX4_begin_6 : decode cX4_begin 6 = .ok (.iconst 0, 1) := by decide +kernel
theorem dX4_begin_7 : decode cX4_begin 7 = .ok (.istore 4, 2) := by decide +kernel
theorem dX4_begin_9 : decode cX4_begin 9 = .ok (.iload 4, 2) := by decide +kernel
theorem dX4_begin_11 : decode cX4_begin 11 = .ok (.aload_n 0, 1) := by decide +kernel
theorem dX4_begin_12 : decode cX4_begin 12 = .ok (.getfield 47, 3) := by decide +kernel
theorem dX4_begin_15 : decode cX4_begin 15 = .ok (.if_icmp .ge 39, 3) := by decide +kernel
theorem dX4_begin_18 : decode cX4_begin 18 = .ok (.aload_n 0, 1) := by decide +kernel
theorem dX4_begin_19 : decode cX4_begin 19 = .ok (.iload_n 1, 1) := by decide +kernel
theorem dX4_begin_20 : decode cX4_begin 20 = .ok (.iload 4, 2) := by decide +kernel
theorem dX4_begin_22 : decode cX4_begin 22 = .ok (.invokevirtual 67, 3) := by decide +kernel
theorem dX4_begin_25 : decode cX4_begin 25 = .ok (.iload_n 2, 1) := by decide +kernel
theorem dX4_begin_26 : decode cX4_begin 26 = .ok (.if_icmp .ne 22, 3) := by decide +kernel
theorem dX4_begin_29 : decode cX4_begin 29 = .ok (.aload_n 0, 1) := by decide +kernel
theorem dX4_begin_30 : decode cX4_begin 30 = .ok (.getfield 41, 3) := by decide +kernel
theorem dX4_begin_33 : decode cX4_begin 33 = .ok (.iload 4, 2) := by decide +kernel
theorem dX4_begin_35 : decode cX4_begin 35 = .ok (.iconst 1, 1) := by decide +kernel
theorem dX4_begin_36 : decode cX4_begin 36 = .ok (.iastore, 1) := by decide +kernel
theorem dX4_begin_37 : decode cX4_begin 37 = .ok (.aload_n 0, 1) := by decide +kernel
theorem dX4_begin_38 : decode cX4_begin 38 = .ok (.getfield 35, 3) := by decide +kernel
theorem dX4_begin_41 : decode cX4_begin 41 = .ok (.iload_n 3, 1) := by decide +kernel
theorem dX4_begin_42 : decode cX4_begin 42 = .ok (.iload 4, 2) := by decide +kernel
theorem dX4_begin_44 : decode cX4_begin 44 = .ok (.iastore, 1) := by decide +kernel
theorem dX4_begin_45 : decode cX4_begin 45 = .ok (.iinc 3 1, 3) := by decide +kernel
theorem dX4_begin_48 : decode cX4_begin 48 = .ok (.iinc 4 1, 3) := by decide +kernel
theorem dX4_begin_51 : decode cX4_begin 51 = .ok (.goto (-42), 3) := by decide +kernel
theorem dX4_begin_54 : decode cX4_begin 54 = .ok (.iload_n 3, 1) := by decide +kernel
theorem dX4_begin_55 : decode cX4_begin 55 = .ok (.ireturn, 1) := by decide +kernel
set_option maxRecDepth 20000 in
theorem ggX4_part_X4_isSide : GoodIn wsX4_part wsX4_isSide := goodIn_r _ [4] (by decide +kernel) (by decide +kernel)
set_option maxRecDepth 20000 in
theorem gX4_part_X4_isSide : GoodIn wsX4_part (va_wsS RX4 63 yX4_isSide wsX4_isSide) := goodIn_app (goodIn_of _ (by decide +kernel)) ggX4_part_X4_isSide
set_option maxRecDepth 20000 in
theorem ggX4_part_X4_begin : GoodIn wsX4_part wsX4_begin := goodIn_r _ [8, 9, 10, 11, 12, 13, 14, 3, 15, 16, 17, 18, 19, 20, 21, 30, 31, 32, 33, 34, 35, 36, 37, 38, 39, 40, 41, 42, 43, 44] (by decide +kernel) (by decide +kernel)
set_option maxRecDepth 20000 in
theorem gX4_part_X4_begin : GoodIn wsX4_part (wsV RX4 99 RX4 yX4_begin wsX4_begin) := goodIn_app (goodIn_of _ (by decide +kernel)) ggX4_part_X4_begin
set_option maxRecDepth 20000 in
theorem ggX4_part_X4_reach : GoodIn wsX4_part wsX4_reach := goodIn_r _ [25, 9, 10, 11, 26, 27, 28, 3, 29, 20, 21, 30, 31, 32, 33, 34, 35, 36, 37, 38, 39, 40, 41, 42, 43, 44] (by decide +kernel) (by decide +kernel)
set_option maxRecDepth 20000 in
theorem gX4_part_X4_reach : GoodIn wsX4_part (wsV RX4 95 RX4 yX4_reach wsX4_reach) := goodIn_app (goodIn_of _ (by decide +kernel)) ggX4_part_X4_reach
theorem dX4_part_0 : decode cX4_part 0 = .ok (.iload_n 1, 1) := by decide +kernel
theorem dX4_part_1 : decode cX4_part 1 = .ok (.invokestatic 63, 3) := by decide +kernel
theorem dX4_part_4 : decode cX4_part 4 = .ok (.ifCond .eq 16, 3) := by decide +kernel
theorem dX4_part_7 : decode cX4_part 7 = .ok (.aload_n 0, 1) := by decide +kernel
theorem dX4_part_8 : decode cX4_part 8 = .ok (.aload_n 0, 1) := by decide +kernel
theorem dX4_part_9 : decode cX4_part 9 = .ok (.iload_n 1, 1) := by decide +kernel
theorem dX4_part_10 : decode cX4_part 10 = .ok (.iload_n 2, 1) := by decide +kernel
theorem dX4_part_11 : decode cX4_part 11 = .ok (.invokevirtual 99, 3) := by decide +kernel
theorem dX4_part_14 : decode cX4_part 14 = .ok (.invokevirtual 95, 3) := by decide +kernel
theorem dX4_part_17 : decode cX4_part 17 = .ok (.goto 4, 3) := by decide +kernel
theorem dX4_part_20 : decode cX4_part 20 = .ok (.iconst 0, 1) := by decide +kernel
theorem dX4_part_21 : decode cX4_part 21 = .ok (.ireturn, 1) := by decide +kernel
set_option maxRecDepth 20000 in
theorem ggX4_way_X4_isSide : GoodIn wsX4_way wsX4_isSide := goodIn_r _ [6] (by decide +kernel) (by decide +kernel)
set_option maxRecDepth 20000 in
theorem gX4_way_X4_isSide : GoodIn wsX4_way (va_wsS RX4 63 yX4_isSide wsX4_isSide) := goodIn_app (goodIn_of _ (by decide +kernel)) ggX4_way_X4_isSide
set_option maxRecDepth 20000 in
theorem ggX4_way_X4_begin : GoodIn wsX4_way wsX4_begin := goodIn_r _ [10, 1, 2, 11, 12, 13, 14, 5, 15, 16, 17, 18, 19, 20, 21, 30, 31, 32, 33, 34, 35, 36, 37, 38, 39, 40, 41, 42, 43, 44] (by decide +kernel) (by decide +kernel)
set_option maxRecDepth 20000 in
theorem gX4_way_X4_begin : GoodIn wsX4_way (wsV RX4 99 RX4 yX4_begin wsX4_begin) := goodIn_app (goodIn_of _ (by decide +kernel)) ggX4_way_X4_begin
set_option maxRecDepth 20000 in
theorem ggX4_way_X4_reach : GoodIn wsX4_way wsX4_reach := goodIn_r _ [25, 1, 2, 11, 26, 27, 28, 5, 29, 20, 21, 30, 31, 32, 33, 34, 35, 36, 37, 38, 39, 40, 41, 42, 43, 44] (by decide +kernel) (by decide +kernel)
set_option maxRecDepth 20000 in
theorem gX4_way_X4_reach : GoodIn wsX4_way (wsV RX4 95 RX4 yX4_reach wsX4_reach) := goodIn_app (goodIn_of _ (by decide +kernel)) ggX4_way_X4_reach
set_option maxRecDepth 20000 in
theorem ggX4_way_X4_own : GoodIn wsX4_way wsX4_own := goodIn_r _ [19, 20, 21, 30, 31, 32, 33, 34, 35, 36, 37, 38, 39, 40, 41, 42, 43, 44] (by decide +kernel) (by decide +kernel)
set_option maxRecDepth 20000 in
theorem gX4_way_X4_own : GoodIn wsX4_way (wsV RX4 67 RX4 yX4_own wsX4_own) := goodIn_app (goodIn_of _ (by decide +kernel)) ggX4_way_X4_own
theorem dX4_way_0 : decode cX4_way 0 = .ok (.iload_n 1, 1) := by decide +kernel
theorem dX4_way_1 : decode cX4_way 1 = .ok (.invokestatic 63, 3) := by decide +kernel
theorem dX4_way_4 : decode cX4_way 4 = .ok (.ifCond .eq 10, 3) := by decide +kernel
theorem dX4_way_7 : decode cX4_way 7 = .ok (.iload_n 3, 1) := by decide +kernel
theorem dX4_way_8 : decode cX4_way 8 = .ok (.invokestatic 63, 3) := by decide +kernel
theorem dX4_way_11 : decode cX4_way 11 = .ok (.ifCond .ne 5, 3) := by decide +kernel
theorem dX4_way_14 : decode cX4_way 14 = .ok (.iconst 0, 1) := by decide +kernel
theorem dX4_way_15 : decode cX4_way 15 = .ok (.ireturn, 1) := by decide +kernel
theorem dX4_way_16 : decode cX4_way 16 = .ok (.aload_n 0, 1) := by decide +kernel
theorem dX4_way_17 : decode cX4_way 17 = .ok (.aload_n 0, 1) := by decide +kernel
theorem dX4_way_18 : decode cX4_way 18 = .ok (.iload_n 1, 1) := by decide +kernel
theorem dX4_way_19 : decode cX4_way 19 = .ok (.iload_n 2, 1) := by decide +kernel
theorem dX4_way_20 : decode cX4_way 20 = .ok (.invokevirtual 99, 3) := by decide +kernel
theorem dX4_way_23 : decode cX4_way 23 = .ok (.invokevirtual 95, 3) := by decide +kernel
theorem dX4_way_26 : decode cX4_way 26 = .ok (.pop, 1) := by decide +kernel
theorem dX4_way_27 : decode cX4_way 27 = .ok (.iconst 0, 1) := by decide +kernel
theorem dX4_way_28 : decode cX4_way 28 = .ok (.istore 5, 2) := by decide +kernel
theorem dX4_way_30 : decode cX4_way 30 = .ok (.iconst 0, 1) := by decide +kernel
theorem dX4_way_31 : decode cX4_way 31 = .ok (.istore 6, 2) := by decide +kernel
theorem dX4_way_33 : decode cX4_way 33 = .ok (.iload 6, 2) := by decide +kernel
theorem dX4_way_35 : decode cX4_way 35 = .ok (.aload_n 0, 1) := by decide +kernel
theorem dX4_way_36 : decode cX4_way 36 = .ok (.getfield 47, 3) := by decide +kernel
theorem dX4_way_39 : decode cX4_way 39 = .ok (.if_icmp .ge 57, 3) := by decide +kernel
theorem dX4_way_42 : decode cX4_way 42 = .ok (.aload_n 0, 1) := by decide +kernel
theorem dX4_way_43 : decode cX4_way 43 = .ok (.iload_n 3, 1) := by decide +kernel
theorem dX4_way_44 : decode cX4_way 44 = .ok (.iload 6, 2) := by decide +kernel
theorem dX4_way_46 : decode cX4_way 46 = .ok (.invokevirtual 67, 3) := by decide +kernel
theorem dX4_way_49 : decode cX4_way 49 = .ok (.iload 4, 2) := by decide +kernel
theorem dX4_way_51 : decode cX4_way 51 = .ok (.if_icmp .ne 39, 3) := by decide +kernel
theorem dX4_way_54 : decode cX4_way 54 = .ok (.aload_n 0, 1) := by decide +kernel
theorem dX4_way_55 : decode cX4_way 55 = .ok (.getfield 41, 3) := by decide +kernel
theorem dX4_way_58 : decode cX4_way 58 = .ok (.iload 6, 2) := by decide +kernel
theorem dX4_way_60 : decode cX4_way 60 = .ok (.iaload, 1) := by decide +kernel
theorem dX4_way_61 : decode cX4_way 61 = .ok (.ifCond .le 29, 3) := by decide +kernel
theorem dX4_way_64 : decode cX4_way 64 = .ok (.iload 5, 2) := by decide +kernel
theorem dX4_way_66 : decode cX4_way 66 = .ok (.ifCond .eq 15, 3) := by decide +kernel
theorem dX4_way_69 : decode cX4_way 69 = .ok (.aload_n 0, 1) := by decide +kernel
theorem dX4_way_70 : decode cX4_way 70 = .ok (.getfield 41, 3) := by decide +kernel
theorem dX4_way_73 : decode cX4_way 73 = .ok (.iload 6, 2) := by decide +kernel
theorem dX4_way_75 : decode cX4_way 75 = .ok (.iaload, 1) := by decide +kernel
theorem dX4_way_76 : decode cX4_way 76 = .ok (.iload 5, 2) := by decide +kernel
theorem dX4_way_78 : decode cX4_way 78 = .ok (.if_icmp .ge 12, 3) := by decide +kernel
theorem dX4_way_81 : decode cX4_way 81 = .ok (.aload_n 0, 1) := by decide +kernel
theorem dX4_way_82 : decode cX4_way 82 = .ok (.getfield 41, 3) := by decide +kernel
theorem dX4_way_85 : decode cX4_way 85 = .ok (.iload 6, 2) := by decide +kernel
theorem dX4_way_87 : decode cX4_way 87 = .ok (.iaload, 1) := by decide +kernel
theorem dX4_way_88 : decode cX4_way 88 = .ok (.istore 5, 2) := by decide +kernel
theorem dX4_way_90 : decode cX4_way 90 = .ok (.iinc 6 1, 3) := by decide +kernel
theorem dX4_way_93 : decode cX4_way 93 = .ok (.goto (-60), 3) := by decide +kernel
theorem dX4_way_96 : decode cX4_way 96 = .ok (.iload 5, 2) := by decide +kernel
theorem dX4_way_98 : decode cX4_way 98 = .ok (.ireturn, 1) := by decide +kernel
set_option maxRecDepth 20000 in
theorem ggX4_count_X4_number : GoodIn wsX4_count wsX4_number := goodIn_r _ [8, 2, 3, 1, 9, 10, 11, 12, 13, 14, 47, 48, 49, 50, 51, 52, 53, 54, 55, 56, 57, 58, 59, 60, 61] (by decide +kernel) (by decide +kernel)
set_option maxRecDepth 20000 in
theorem gX4_count_X4_number : GoodIn wsX4_count (wsV RX4 82 RX4 yX4_number wsX4_number) := goodIn_app (goodIn_of _ (by decide +kernel)) ggX4_count_X4_number
set_option maxRecDepth 20000 in
theorem ggX4_count_X4_matching : GoodIn wsX4_count wsX4_matching := goodIn_r _ [18, 3, 19, 2, 4, 5, 6, 7, 8, 1, 9, 10, 11, 12, 13, 14, 20, 21, 22, 23, 24, 25, 26, 27, 28, 29, 47, 48, 49, 50, 51, 52, 53, 54, 55, 56, 57, 58, 59, 60, 61] (by decide +kernel) (by decide +kernel)
set_option maxRecDepth 20000 in
theorem gX4_count_X4_matching : GoodIn wsX4_count (wsV RX4 102 RX4 yX4_matching wsX4_matching) := goodIn_app (goodIn_of _ (by decide +kernel)) ggX4_count_X4_matching
set_option maxRecDepth 20000 in
theorem ggX4_count_X4_parts : GoodIn wsX4_count wsX4_parts := goodIn_r _ [33, 1, 34, 25, 35, 36, 37, 7, 38, 39, 40, 41, 42, 43, 44, 45, 46, 9, 11, 47, 48, 49, 50, 51, 52, 53, 54, 55, 56, 57, 58, 59, 60, 61] (by decide +kernel) (by decide +kernel)
set_option maxRecDepth 20000 in
theorem gX4_count_X4_parts : GoodIn wsX4_count (wsV RX4 106 RX4 yX4_parts wsX4_parts) := goodIn_app (goodIn_of _ (by decide +kernel)) ggX4_count_X4_parts
theorem dX4_count_0 : decode cX4_count 0 = .ok (.iload_n 1, 1) := by decide +kernel
theorem dX4_count_1 : decode cX4_count 1 = .ok (.tableswitch 68 0 4 #[35, 40, 49, 58, 63], 35) := by decide +kernel
theorem dX4_count_36 : decode cX4_count 36 = .ok (.aload_n 0, 1) := by decide +kernel
theorem dX4_count_37 : decode cX4_count 37 = .ok (.getfield 47, 3) := by decide +kernel
theorem dX4_count_40 : decode cX4_count 40 = .ok (.ireturn, 1) := by decide +kernel
theorem dX4_count_41 : decode cX4_count 41 = .ok (.aload_n 0, 1) := by decide +kernel
theorem dX4_count_42 : decode cX4_count 42 = .ok (.invokevirtual 82, 3) := by decide +kernel
theorem dX4_count_45 : decode cX4_count 45 = .ok (.aload_n 0, 1) := by decide +kernel
theorem dX4_count_46 : decode cX4_count 46 = .ok (.getfield 73, 3) := by decide +kernel
theorem dX4_count_49 : decode cX4_count 49 = .ok (.ireturn, 1) := by decide +kernel
theorem dX4_count_50 : decode cX4_count 50 = .ok (.aload_n 0, 1) := by decide +kernel
theorem dX4_count_51 : decode cX4_count 51 = .ok (.invokevirtual 82, 3) := by decide +kernel
theorem dX4_count_54 : decode cX4_count 54 = .ok (.aload_n 0, 1) := by decide +kernel
theorem dX4_count_55 : decode cX4_count 55 = .ok (.getfield 76, 3) := by decide +kernel
theorem dX4_count_58 : decode cX4_count 58 = .ok (.ireturn, 1) := by decide +kernel
theorem dX4_count_59 : decode cX4_count 59 = .ok (.aload_n 0, 1) := by decide +kernel
theorem dX4_count_60 : decode cX4_count 60 = .ok (.invokevirtual 102, 3) := by decide +kernel
theorem dX4_count_63 : decode cX4_count 63 = .ok (.ireturn, 1) := by decide +kernel
theorem dX4_count_64 : decode cX4_count 64 = .ok (.aload_n 0, 1) := by decide +kernel
theorem dX4_count_65 : decode cX4_count 65 = .ok (.invokevirtual 106, 3) := by decide +kernel
theorem dX4_count_68 : decode cX4_count 68 = .ok (.ireturn, 1) := by decide +kernel
theorem dX4_count_69 : decode cX4_count 69 = .ok (.iconst (-1), 1) := by decide +kernel
theorem dX4_count_70 : decode cX4_count 70 = .ok (.ireturn, 1) := by decide +kernel
theorem dX4_clear_0 : decode cX4_clear 0 = .ok (.aload_n 0, 1) := by decide +kernel
theorem dX4_clear_1 : decode cX4_clear 1 = .ok (.getfield 47, 3) := by decide +kernel
theorem dX4_clear_4 : decode cX4_clear 4 = .ok (.istore_n 1, 1) := by decide +kernel
theorem dX4_clear_5 : decode cX4_clear 5 = .ok (.aload_n 0, 1) := by decide +kernel
theorem dX4_clear_6 : decode cX4_clear 6 = .ok (.iconst 0, 1) := by decide +kernel
theorem dX4_clear_7 : decode cX4_clear 7 = .ok (.putfield 47, 3) := by decide +kernel
theorem dX4_clear_10 : decode cX4_clear 10 = .ok (.iload_n 1, 1) := by decide +kernel
theorem dX4_clear_11 : decode cX4_clear 11 = .ok (.ireturn, 1) := by decide +kernel
theorem dX4_check_0 : decode cX4_check 0 = .ok (.iconst 1, 1) := by decide +kernel
theorem dX4_check_1 : decode cX4_check 1 = .ok (.ireturn, 1) := by decide +kernel
theorem dJ7_fill_53178_0 : decode cJ7_fill_53178 0 = .ok (.iconst 0, 1) := by decide +kernel
theorem dJ7_fill_53178_1 : decode cJ7_fill_53178 1 = .ok (.istore_n 2, 1) := by decide +kernel
theorem dJ7_fill_53178_2 : decode cJ7_fill_53178 2 = .ok (.aload_n 0, 1) := by decide +kernel
theorem dJ7_fill_53178_3 : decode cJ7_fill_53178 3 = .ok (.arraylength, 1) := by decide +kernel
theorem dJ7_fill_53178_4 : decode cJ7_fill_53178 4 = .ok (.istore_n 3, 1) := by decide +kernel
theorem dJ7_fill_53178_5 : decode cJ7_fill_53178 5 = .ok (.iload_n 2, 1) := by decide +kernel
theorem dJ7_fill_53178_6 : decode cJ7_fill_53178 6 = .ok (.iload_n 3, 1) := by decide +kernel
theorem dJ7_fill_53178_7 : decode cJ7_fill_53178 7 = .ok (.if_icmp .ge 13, 3) := by decide +kernel
theorem dJ7_fill_53178_10 : decode cJ7_fill_53178 10 = .ok (.aload_n 0, 1) := by decide +kernel
theorem dJ7_fill_53178_11 : decode cJ7_fill_53178 11 = .ok (.iload_n 2, 1) := by decide +kernel
theorem dJ7_fill_53178_12 : decode cJ7_fill_53178 12 = .ok (.iload_n 1, 1) := by decide +kernel
theorem dJ7_fill_53178_13 : decode cJ7_fill_53178 13 = .ok (.iastore, 1) := by decide +kernel
theorem dJ7_fill_53178_14 : decode cJ7_fill_53178 14 = .ok (.iinc 2 1, 3) := by decide +kernel
theorem dJ7_fill_53178_17 : decode cJ7_fill_53178 17 = .ok (.goto (-12), 3) := by decide +kernel
theorem dJ7_fill_53178_20 : decode cJ7_fill_53178 20 = .ok (.return_, 1) := by decide +kernel
set_option maxRecDepth 20000 in
theorem ggL_law_X3_init : GoodIn wsL_law wsX3_init := goodIn_r _ [8, 9, 10, 11, 12, 13, 14, 15, 16, 17, 18, 19, 20, 21, 22, 23, 24, 25, 26, 27, 28, 29, 30, 31, 32, 33, 34, 35, 36, 37, 38, 39, 40, 41, 42, 43, 44, 45, 46, 47, 48, 49, 399, 400, 401, 402, 403, 381, 382, 383, 404, 405, 406, 407, 408, 409, 410, 411, 412, 413] (by decide +kernel) (by decide +kernel)
set_option maxRecDepth 20000 in
theorem gL_law_X3_init : GoodIn wsL_law (wsX3_init) := ggL_law_X3_init
set_option maxRecDepth 20000 in
theorem ggL_law_X4_init : GoodIn wsL_law wsX4_init := goodIn_r _ [52, 53, 10, 11, 28, 54, 55, 56, 57, 58, 59, 60, 61, 62, 63, 64, 65, 66, 67, 384, 385, 386, 387, 388, 389, 390, 391, 392, 393, 394, 395, 396, 397, 398] (by decide +kernel) (by decide +kernel)
set_option maxRecDepth 20000 in
theorem gL_law_X4_init : GoodIn wsL_law (wsX4_init) := ggL_law_X4_init
set_option maxRecDepth 20000 in
theorem ggL_law_X3_link : GoodIn wsL_law wsX3_link := goodIn_r _ [71, 15, 72, 73, 74, 14, 75, 76, 29, 31, 77, 78, 79, 80, 81, 82, 83, 84, 32, 33, 85, 86, 87, 88, 381, 382, 383, 399, 400, 401, 402, 403] (by decide +kernel) (by decide +kernel)
set_option maxRecDepth 20000 in
theorem gL_law_X3_link : GoodIn wsL_law (wsV RL 13 RX3 yX3_link wsX3_link) := goodIn_app (goodIn_of _ (by decide +kernel)) ggL_law_X3_link
set_option maxRecDepth 20000 in
theorem ggL_law_X4_link : GoodIn wsL_law wsX4_link := goodIn_r _ [92, 67, 93, 94, 95, 5, 96, 54, 55, 97, 98, 99, 100, 384, 385, 386, 387, 388, 389, 390, 391, 392, 393, 394, 395, 396, 397, 398] (by decide +kernel) (by decide +kernel)
set_option maxRecDepth 20000 in
theorem gL_law_X4_link : GoodIn wsL_law (wsV RL 17 RX4 yX4_link wsX4_link) := goodIn_app (goodIn_of _ (by decide +kernel)) ggL_law_X4_link
set_option maxRecDepth 20000 in
theorem ggL_law_X3_unlink : GoodIn wsL_law wsX3_unlink := goodIn_r _ [104, 15, 72, 73, 74, 14, 75, 76, 29, 31, 105, 106, 107, 108, 109, 110, 111, 112, 113, 114, 115, 116, 32, 33, 381, 382, 383, 399, 400, 401, 402, 403] (by decide +kernel) (by decide +kernel)
set_option maxRecDepth 20000 in
theorem gL_law_X3_unlink : GoodIn wsL_law (wsV RL 18 RX3 yX3_unlink wsX3_unlink) := goodIn_app (goodIn_of _ (by decide +kernel)) ggL_law_X3_unlink
set_option maxRecDepth 20000 in
theorem ggL_law_X4_unlink : GoodIn wsL_law wsX4_unlink := goodIn_r _ [120, 67, 93, 94, 95, 5, 96, 54, 55, 121, 122, 123, 124, 384, 385, 386, 387, 388, 389, 390, 391, 392, 393, 394, 395, 396, 397, 398] (by decide +kernel) (by decide +kernel)
set_option maxRecDepth 20000 in
theorem gL_law_X4_unlink : GoodIn wsL_law (wsV RL 21 RX4 yX4_unlink wsX4_unlink) := goodIn_app (goodIn_of _ (by decide +kernel)) ggL_law_X4_unlink
set_option maxRecDepth 20000 in
theorem ggL_law_X3_place : GoodIn wsL_law wsX3_place := goodIn_r _ [128, 15, 72, 73, 74, 14, 75, 76, 29, 31, 381, 382, 383, 399, 400, 401, 402, 403] (by decide +kernel) (by decide +kernel)
set_option maxRecDepth 20000 in
theorem gL_law_X3_place : GoodIn wsL_law (wsV RL 22 RX3 yX3_place wsX3_place) := goodIn_app (goodIn_of _ (by decide +kernel)) ggL_law_X3_place
set_option maxRecDepth 20000 in
theorem ggL_law_X4_place : GoodIn wsL_law wsX4_place := goodIn_r _ [132, 93, 94, 95, 5, 96, 67, 54, 55, 384, 385, 386, 387, 388, 389, 390, 391, 392, 393, 394, 395, 396, 397, 398] (by decide +kernel) (by decide +kernel)
set_option maxRecDepth 20000 in
theorem gL_law_X4_place : GoodIn wsL_law (wsV RL 25 RX4 yX4_place wsX4_place) := goodIn_app (goodIn_of _ (by decide +kernel)) ggL_law_X4_place
set_option maxRecDepth 20000 in
theorem ggL_law_X3_degree : GoodIn wsL_law wsX3_degree := goodIn_r _ [136, 15, 137, 138, 2, 139, 140, 141, 142, 14, 143, 76, 33, 144, 145, 146, 147, 31, 29, 381, 382, 383, 399, 400, 401, 402, 403] (by decide +kernel) (by decide +kernel)
set_option maxRecDepth 20000 in
theorem gL_law_X3_degree : GoodIn wsL_law (wsV RL 26 RX3 yX3_degree wsX3_degree) := goodIn_app (goodIn_of _ (by decide +kernel)) ggL_law_X3_degree
set_option maxRecDepth 20000 in
theorem ggL_law_X4_degree : GoodIn wsL_law wsX4_degree := goodIn_r _ [151, 67, 152, 153, 5, 154, 155, 156, 157, 158, 54, 55, 384, 385, 386, 387, 388, 389, 390, 391, 392, 393, 394, 395, 396, 397, 398] (by decide +kernel) (by decide +kernel)
set_option maxRecDepth 20000 in
theorem gL_law_X4_degree : GoodIn wsL_law (wsV RL 29 RX4 yX4_degree wsX4_degree) := goodIn_app (goodIn_of _ (by decide +kernel)) ggL_law_X4_degree
set_option maxRecDepth 20000 in
theorem ggL_law_X3_other : GoodIn wsL_law wsX3_other := goodIn_r _ [162, 15, 137, 138, 2, 139, 163, 164, 165, 14, 166, 76, 33, 144, 145, 146, 147, 31, 29, 381, 382, 383, 399, 400, 401, 402, 403] (by decide +kernel) (by decide +kernel)
set_option maxRecDepth 20000 in
theorem gL_law_X3_other : GoodIn wsL_law (wsV RL 30 RX3 yX3_other wsX3_other) := goodIn_app (goodIn_of _ (by decide +kernel)) ggL_law_X3_other
set_option maxRecDepth 20000 in
theorem ggL_law_X4_other : GoodIn wsL_law wsX4_other := goodIn_r _ [170, 67, 152, 153, 5, 154, 155, 156, 157, 158, 54, 55, 384, 385, 386, 387, 388, 389, 390, 391, 392, 393, 394, 395, 396, 397, 398] (by decide +kernel) (by decide +kernel)
set_option maxRecDepth 20000 in
theorem gL_law_X4_other : GoodIn wsL_law (wsV RL 34 RX4 yX4_other wsX4_other) := goodIn_app (goodIn_of _ (by decide +kernel)) ggL_law_X4_other
set_option maxRecDepth 20000 in
theorem ggL_law_X3_drop : GoodIn wsL_law wsX3_drop := goodIn_r _ [174, 15, 137, 138, 2, 139, 175, 176, 177, 14, 178, 76, 31, 29, 179, 106, 107, 108, 109, 110, 111, 112, 113, 114, 115, 116, 32, 33, 381, 382, 383, 399, 400, 401, 402, 403] (by decide +kernel) (by decide +kernel)
set_option maxRecDepth 20000 in
theorem gL_law_X3_drop : GoodIn wsL_law (wsV RL 35 RX3 yX3_drop wsX3_drop) := goodIn_app (goodIn_of _ (by decide +kernel)) ggL_law_X3_drop
set_option maxRecDepth 20000 in
theorem ggL_law_X4_drop : GoodIn wsL_law wsX4_drop := goodIn_r _ [183, 67, 152, 153, 5, 154, 155, 156, 157, 158, 54, 55, 121, 122, 123, 124, 384, 385, 386, 387, 388, 389, 390, 391, 392, 393, 394, 395, 396, 397, 398] (by decide +kernel) (by decide +kernel)
set_option maxRecDepth 20000 in
theorem gL_law_X4_drop : GoodIn wsL_law (wsV RL 38 RX4 yX4_drop wsX4_drop) := goodIn_app (goodIn_of _ (by decide +kernel)) ggL_law_X4_drop
set_option maxRecDepth 20000 in
theorem ggL_law_X3_rename : GoodIn wsL_law wsX3_rename := goodIn_r _ [187, 15, 137, 138, 2, 139, 188, 189, 190, 14, 191, 76, 29, 31, 179, 106, 107, 108, 109, 110, 111, 112, 113, 114, 115, 116, 32, 33, 192, 73, 74, 75, 193, 78, 79, 80, 81, 82, 83, 84, 85, 86, 87, 88, 381, 382, 383, 399, 400, 401, 402, 403] (by decide +kernel) (by decide +kernel)
set_option maxRecDepth 20000 in
theorem gL_law_X3_rename : GoodIn wsL_law (wsV RL 39 RX3 yX3_rename wsX3_rename) := goodIn_app (goodIn_of _ (by decide +kernel)) ggL_law_X3_rename
set_option maxRecDepth 20000 in
theorem ggL_law_X4_rename : GoodIn wsL_law wsX4_rename := goodIn_r _ [197, 67, 66, 152, 153, 5, 154, 155, 156, 157, 158, 54, 55, 198, 181, 182, 183, 121, 122, 123, 124, 93, 94, 95, 96, 97, 98, 99, 100, 384, 385, 386, 387, 388, 389, 390, 391, 392, 393, 394, 395, 396, 397, 398] (by decide +kernel) (by decide +kernel)
set_option maxRecDepth 20000 in
theorem gL_law_X4_rename : GoodIn wsL_law (wsV RL 42 RX4 yX4_rename wsX4_rename) := goodIn_app (goodIn_of _ (by decide +kernel)) ggL_law_X4_rename
set_option maxRecDepth 20000 in
theorem ggL_law_X3_at : GoodIn wsL_law wsX3_at := goodIn_r _ [202, 15, 137, 138, 2, 139, 381, 382, 383, 399, 400, 401, 402, 403] (by decide +kernel) (by decide +kernel)
set_option maxRecDepth 20000 in
theorem gL_law_X3_at : GoodIn wsL_law (wsV RL 43 RX3 yX3_at wsX3_at) := goodIn_app (goodIn_of _ (by decide +kernel)) ggL_law_X3_at
set_option maxRecDepth 20000 in
theorem ggL_law_X4_at : GoodIn wsL_law wsX4_at := goodIn_r _ [206, 67, 152, 153, 5, 154, 155, 156, 157, 158, 54, 55, 384, 385, 386, 387, 388, 389, 390, 391, 392, 393, 394, 395, 396, 397, 398] (by decide +kernel) (by decide +kernel)
set_option maxRecDepth 20000 in
theorem gL_law_X4_at : GoodIn wsL_law (wsV RL 46 RX4 yX4_at wsX4_at) := goodIn_app (goodIn_of _ (by decide +kernel)) ggL_law_X4_at
set_option maxRecDepth 20000 in
theorem ggL_law_X3_count : GoodIn wsL_law wsX3_count := goodIn_r _ [210, 15, 23, 19, 211, 212, 213, 14, 214, 76, 32, 29, 215, 216, 217, 22, 218, 219, 220, 221, 222, 45, 223, 224, 225, 226, 46, 227, 228, 229, 230, 231, 232, 233, 234, 235, 236, 237, 238, 239, 240, 241, 242, 49, 243, 47, 244, 245, 246, 247, 248, 249, 250, 251, 48, 252, 253, 254, 255, 256, 257, 258, 259, 260, 261, 262, 18, 263, 38, 264, 265, 266, 267, 268, 40, 269, 270, 271, 272, 273, 37, 274, 275, 276, 277, 278, 279, 280, 281, 282, 283, 284, 285, 381, 382, 383, 399, 400, 401, 402, 403, 408, 409, 410, 411, 412, 413, 404, 405, 406, 407] (by decide +kernel) (by decide +kernel)
set_option maxRecDepth 20000 in
theorem gL_law_X3_count : GoodIn wsL_law (wsV RL 47 RX3 yX3_count wsX3_count) := goodIn_app (goodIn_of _ (by decide +kernel)) ggL_law_X3_count
set_option maxRecDepth 20000 in
theorem ggL_law_X4_count : GoodIn wsL_law wsX4_count := goodIn_r _ [289, 67, 290, 291, 292, 293, 294, 5, 295, 54, 56, 55, 57, 58, 59, 296, 297, 298, 299, 60, 300, 301, 302, 303, 64, 63, 304, 305, 306, 307, 308, 309, 310, 311, 65, 312, 313, 314, 315, 316, 317, 318, 319, 320, 321, 322, 323, 384, 385, 386, 387, 388, 389, 390, 391, 392, 393, 394, 395, 396, 397, 398] (by decide +kernel) (by decide +kernel)
set_option maxRecDepth 20000 in
theorem gL_law_X4_count : GoodIn wsL_law (wsV RL 51 RX4 yX4_count wsX4_count) := goodIn_app (goodIn_of _ (by decide +kernel)) ggL_law_X4_count
set_option maxRecDepth 20000 in
theorem ggL_law_X3_part : GoodIn wsL_law wsX3_part := goodIn_r _ [327, 19, 15, 137, 138, 2, 139, 328, 329, 330, 18, 331, 268, 332, 333, 334, 335, 264, 265, 266, 267, 38, 40, 269, 228, 229, 230, 336, 145, 146, 14, 147, 76, 31, 29, 270, 271, 272, 273, 37, 274, 275, 276, 277, 278, 279, 280, 281, 32, 282, 283, 284, 285, 381, 382, 383, 404, 405, 406, 407, 399, 400, 401, 402, 403] (by decide +kernel) (by decide +kernel)
set_option maxRecDepth 20000 in
theorem gL_law_X3_part : GoodIn wsL_law (wsV RL 52 RX3 yX3_part wsX3_part) := goodIn_app (goodIn_of _ (by decide +kernel)) ggL_law_X3_part
set_option maxRecDepth 20000 in
theorem ggL_law_X4_part : GoodIn wsL_law wsX4_part := goodIn_r _ [340, 152, 153, 5, 154, 341, 342, 343, 344, 67, 65, 63, 312, 313, 314, 315, 155, 156, 157, 158, 54, 55, 316, 317, 318, 319, 320, 321, 322, 323, 384, 385, 386, 387, 388, 389, 390, 391, 392, 393, 394, 395, 396, 397, 398] (by decide +kernel) (by decide +kernel)
set_option maxRecDepth 20000 in
theorem gL_law_X4_part : GoodIn wsL_law (wsV RL 55 RX4 yX4_part wsX4_part) := goodIn_app (goodIn_of _ (by decide +kernel)) ggL_law_X4_part
set_option maxRecDepth 20000 in
theorem ggL_law_X3_way : GoodIn wsL_law wsX3_way := goodIn_r _ [348, 19, 15, 137, 138, 2, 139, 349, 350, 351, 18, 352, 268, 37, 38, 332, 333, 334, 335, 264, 265, 266, 267, 40, 269, 228, 229, 230, 336, 145, 146, 14, 147, 76, 31, 29, 270, 271, 272, 273, 274, 275, 276, 277, 278, 279, 280, 281, 32, 282, 283, 284, 285, 381, 382, 383, 404, 405, 406, 407, 399, 400, 401, 402, 403] (by decide +kernel) (by decide +kernel)
set_option maxRecDepth 20000 in
theorem gL_law_X3_way : GoodIn wsL_law (wsV RL 56 RX3 yX3_way wsX3_way) := goodIn_app (goodIn_of _ (by decide +kernel)) ggL_law_X3_way
set_option maxRecDepth 20000 in
theorem ggL_law_X4_way : GoodIn wsL_law wsX4_way := goodIn_r _ [356, 67, 65, 152, 153, 5, 154, 341, 342, 343, 344, 63, 312, 313, 314, 315, 155, 156, 157, 158, 54, 55, 316, 317, 318, 319, 320, 321, 322, 323, 384, 385, 386, 387, 388, 389, 390, 391, 392, 393, 394, 395, 396, 397, 398] (by decide +kernel) (by decide +kernel)
set_option maxRecDepth 20000 in
theorem gL_law_X4_way : GoodIn wsL_law (wsV RL 60 RX4 yX4_way wsX4_way) := goodIn_app (goodIn_of _ (by decide +kernel)) ggL_law_X4_way
set_option maxRecDepth 20000 in
theorem ggL_law_X3_clear : GoodIn wsL_law wsX3_clear := goodIn_r _ [360, 15, 381, 382, 383, 399, 400, 401, 402, 403] (by decide +kernel) (by decide +kernel)
set_option maxRecDepth 20000 in
theorem gL_law_X3_clear : GoodIn wsL_law (wsV RL 61 RX3 yX3_clear wsX3_clear) := goodIn_app (goodIn_of _ (by decide +kernel)) ggL_law_X3_clear
set_option maxRecDepth 20000 in
theorem ggL_law_X4_clear : GoodIn wsL_law wsX4_clear := goodIn_r _ [364, 67, 384, 385, 386, 387, 388, 389, 390, 391, 392, 393, 394, 395, 396, 397, 398] (by decide +kernel) (by decide +kernel)
set_option maxRecDepth 20000 in
theorem gL_law_X4_clear : GoodIn wsL_law (wsV RL 65 RX4 yX4_clear wsX4_clear) := goodIn_app (goodIn_of _ (by decide +kernel)) ggL_law_X4_clear
set_option maxRecDepth 20000 in
theorem ggL_law_X3_check : GoodIn wsL_law wsX3_check := goodIn_r _ [368, 15, 369, 370, 371, 14, 372, 76, 29, 31, 144, 145, 146, 147, 373, 374, 375, 376, 32, 33, 381, 382, 383, 399, 400, 401, 402, 403] (by decide +kernel) (by decide +kernel)
set_option maxRecDepth 20000 in
theorem gL_law_X3_check : GoodIn wsL_law (wsV RL 66 RX3 yX3_check wsX3_check) := goodIn_app (goodIn_of _ (by decide +kernel)) ggL_law_X3_check
set_option maxRecDepth 20000 in
theorem ggL_law_X4_check : GoodIn wsL_law wsX4_check := goodIn_r _ [380] (by decide +kernel) (by decide +kernel)
set_option maxRecDepth 20000 in
theorem gL_law_X4_check : GoodIn wsL_law (wsV RL 69 RX4 yX4_check wsX4_check) := goodIn_app (goodIn_of _ (by decide +kernel)) ggL_law_X4_check
theorem dL_law_0 : decode cL_law 0 = .ok (.new 7, 3) := by decide +kernel
theorem dL_law_3 : decode cL_law 3 = .ok (.dup, 1) := by decide +kernel
theorem dL_law_4 : decode cL_law 4 = .ok (.invokespecial 9, 3) := by decide +kernel
theorem dL_law_7 : decode cL_law 7 = .ok (.astore_n 1, 1) := by decide +kernel
theorem dL_law_8 : decode cL_law 8 = .ok (.new 10, 3) := by decide +kernel
theorem dL_law_11 : decode cL_law 11 = .ok (.dup, 1) := by decide +kernel
theorem dL_law_12 : decode cL_law 12 = .ok (.invokespecial 12, 3) := by decide +kernel
theorem dL_law_15 : decode cL_law 15 = .ok (.astore_n 2, 1) := by decide +kernel
theorem dL_law_16 : decode cL_law 16 = .ok (.iconst 0, 1) := by decide +kernel
theorem dL_law_17 : decode cL_law 17 = .ok (.istore_n 3, 1) := by decide +kernel
theorem dL_law_18 : decode cL_law 18 = .ok (.iload_n 3, 1) := by decide +kernel
theorem dL_law_19 : decode cL_law 19 = .ok (.aload_n 0, 1) := by decide +kernel
theorem dL_law_20 : decode cL_law 20 = .ok (.arraylength, 1) := by decide +kernel
theorem dL_law_21 : decode cL_law 21 = .ok (.iconst 5, 1) := by decide +kernel
theorem dL_law_22 : decode cL_law 22 = .ok (.isub, 1) := by decide +kernel
theorem dL_law_23 : decode cL_law 23 = .ok (.if_icmp .gt 502, 3) := by decide +kernel
theorem dL_law_26 : decode cL_law 26 = .ok (.aload_n 0, 1) := by decide +kernel
theorem dL_law_27 : decode cL_law 27 = .ok (.iload_n 3, 1) := by decide +kernel
theorem dL_law_28 : decode cL_law 28 = .ok (.iaload, 1) := by decide +kernel
theorem dL_law_29 : decode cL_law 29 = .ok (.bipush 15, 2) := by decide +kernel
theorem dL_law_31 : decode cL_law 31 = .ok (.iand, 1) := by decide +kernel
theorem dL_law_32 : decode cL_law 32 = .ok (.tableswitch 487 0 12 #[68, 101, 134, 167, 200, 243, 276, 319, 352, 375, 408, 461, 474], 68) := by decide +kernel
theorem dL_law_100 : decode cL_law 100 = .ok (.aload_n 1, 1) := by decide +kernel
theorem dL_law_101 : decode cL_law 101 = .ok (.aload_n 0, 1) := by decide +kernel
theorem dL_law_102 : decode cL_law 102 = .ok (.iload_n 3, 1) := by decide +kernel
theorem dL_law_103 : decode cL_law 103 = .ok (.iconst 1, 1) := by decide +kernel
theorem dL_law_104 : decode cL_law 104 = .ok (.iadd, 1) := by decide +kernel
theorem dL_law_105 : decode cL_law 105 = .ok (.iaload, 1) := by decide +kernel
theorem dL_law_106 : decode cL_law 106 = .ok (.aload_n 0, 1) := by decide +kernel
theorem dL_law_107 : decode cL_law 107 = .ok (.iload_n 3, 1) := by decide +kernel
theorem dL_law_108 : decode cL_law 108 = .ok (.iconst 2, 1) := by decide +kernel
theorem dL_law_109 : decode cL_law 109 = .ok (.iadd, 1) := by decide +kernel
theorem dL_law_110 : decode cL_law 110 = .ok (.iaload, 1) := by decide +kernel
theorem dL_law_111 : decode cL_law 111 = .ok (.invokevirtual 13, 3) := by decide +kernel
theorem dL_law_114 : decode cL_law 114 = .ok (.aload_n 2, 1) := by decide +kernel
theorem dL_law_115 : decode cL_law 115 = .ok (.aload_n 0, 1) := by decide +kernel
theorem dL_law_116 : decode cL_law 116 = .ok (.iload_n 3, 1) := by decide +kernel
theorem dL_law_117 : decode cL_law 117 = .ok (.iconst 1, 1) := by decide +kernel
theorem dL_law_118 : decode cL_law 118 = .ok (.iadd, 1) := by decide +kernel
theorem dL_law_119 : decode cL_law 119 = .ok (.iaload, 1) := by decide +kernel
theorem dL_law_120 : decode cL_law 120 = .ok (.aload_n 0, 1) := by decide +kernel
theorem dL_law_121 : decode cL_law 121 = .ok (.iload_n 3, 1) := by decide +kernel
theorem dL_law_122 : decode cL_law 122 = .ok (.iconst 2, 1) := by decide +kernel
theorem dL_law_123 : decode cL_law 123 = .ok (.iadd, 1) := by decide +kernel
theorem dL_law_124 : decode cL_law 124 = .ok (.iaload, 1) := by decide +kernel
theorem dL_law_125 : decode cL_law 125 = .ok (.invokevirtual 17, 3) := by decide +kernel
theorem dL_law_128 : decode cL_law 128 = .ok (.if_icmp .eq 391, 3) := by decide +kernel
theorem dL_law_131 : decode cL_law 131 = .ok (.iconst 0, 1) := by decide +kernel
theorem dL_law_132 : decode cL_law 132 = .ok (.ireturn, 1) := by decide +kernel
theorem dL_law_133 : decode cL_law 133 = .ok (.aload_n 1, 1) := by decide +kernel
theorem dL_law_134 : decode cL_law 134 = .ok (.aload_n 0, 1) := by decide +kernel
theorem dL_law_135 : decode cL_law 135 = .ok (.iload_n 3, 1) := by decide +kernel
theorem dL_law_136 : decode cL_law 136 = .ok (.iconst 1, 1) := by decide +kernel
theorem dL_law_137 : decode cL_law 137 = .ok (.iadd, 1) := by decide +kernel
theorem dL_law_138 : decode cL_law 138 = .ok (.iaload, 1) := by decide +kernel
theorem dL_law_139 : decode cL_law 139 = .ok (.aload_n 0, 1) := by decide +kernel
theorem dL_law_140 : decode cL_law 140 = .ok (.iload_n 3, 1) := by decide +kernel
theorem dL_law_141 : decode cL_law 141 = .ok (.iconst 2, 1) := by decide +kernel
theorem dL_law_142 : decode cL_law 142 = .ok (.iadd, 1) := by decide +kernel
theorem dL_law_143 : decode cL_law 143 = .ok (.iaload, 1) := by decide +kernel
theorem dL_law_144 : decode cL_law 144 = .ok (.invokevirtual 18, 3) := by decide +kernel
theorem dL_law_147 : decode cL_law 147 = .ok (.aload_n 2, 1) := by decide +kernel
theorem dL_law_148 : decode cL_law 148 = .ok (.aload_n 0, 1) := by decide +kernel
theorem dL_law_149 : decode cL_law 149 = .ok (.iload_n 3, 1) := by decide +kernel
theorem dL_law_150 : decode cL_law 150 = .ok (.iconst 1, 1) := by decide +kernel
theorem dL_law_151 : decode cL_law 151 = .ok (.iadd, 1) := by decide +kernel
theorem dL_law_152 : decode cL_law 152 = .ok (.iaload, 1) := by decide +kernel
theorem dL_law_153 : decode cL_law 153 = .ok (.aload_n 0, 1) := by decide +kernel
theorem dL_law_154 : decode cL_law 154 = .ok (.iload_n 3, 1) := by decide +kernel
theorem dL_law_155 : decode cL_law 155 = .ok (.iconst 2, 1) := by decide +kernel
theorem dL_law_156 : decode cL_law 156 = .ok (.iadd, 1) := by decide +kernel
theorem dL_law_157 : decode cL_law 157 = .ok (.iaload, 1) := by decide +kernel
theorem dL_law_158 : decode cL_law 158 = .ok (.invokevirtual 21, 3) := by decide +kernel
theorem dL_law_161 : decode cL_law 161 = .ok (.if_icmp .eq 358, 3) := by decide +kernel
theorem dL_law_164 : decode cL_law 164 = .ok (.iconst 0, 1) := by decide +kernel
theorem dL_law_165 : decode cL_law 165 = .ok (.ireturn, 1) := by decide +kernel
theorem dL_law_166 : decode cL_law 166 = .ok (.aload_n 1, 1) := by decide +kernel
theorem dL_law_167 : decode cL_law 167 = .ok (.aload_n 0, 1) := by decide +kernel
theorem dL_law_168 : decode cL_law 168 = .ok (.iload_n 3, 1) := by decide +kernel
theorem dL_law_169 : decode cL_law 169 = .ok (.iconst 1, 1) := by decide +kernel
theorem dL_law_170 : decode cL_law 170 = .ok (.iadd, 1) := by decide +kernel
theorem dL_law_171 : decode cL_law 171 = .ok (.iaload, 1) := by decide +kernel
theorem dL_law_172 : decode cL_law 172 = .ok (.aload_n 0, 1) := by decide +kernel
theorem dL_law_173 : decode cL_law 173 = .ok (.iload_n 3, 1) := by decide +kernel
theorem dL_law_174 : decode cL_law 174 = .ok (.iconst 2, 1) := by decide +kernel
theorem dL_law_175 : decode cL_law 175 = .ok (.iadd, 1) := by decide +kernel
theorem dL_law_176 : decode cL_law 176 = .ok (.iaload, 1) := by decide +kernel
theorem dL_law_177 : decode cL_law 177 = .ok (.invokevirtual 22, 3) := by decide +kernel
theorem dL_law_180 : decode cL_law 180 = .ok (.aload_n 2, 1) := by decide +kernel
theorem dL_law_181 : decode cL_law 181 = .ok (.aload_n 0, 1) := by decide +kernel
theorem dL_law_182 : decode cL_law 182 = .ok (.iload_n 3, 1) := by decide +kernel
theorem dL_law_183 : decode cL_law 183 = .ok (.iconst 1, 1) := by decide +kernel
theorem dL_law_184 : decode cL_law 184 = .ok (.iadd, 1) := by decide +kernel
theorem dL_law_185 : decode cL_law 185 = .ok (.iaload, 1) := by decide +kernel
theorem dL_law_186 : decode cL_law 186 = .ok (.aload_n 0, 1) := by decide +kernel
theorem dL_law_187 : decode cL_law 187 = .ok (.iload_n 3, 1) := by decide +kernel
theorem dL_law_188 : decode cL_law 188 = .ok (.iconst 2, 1) := by decide +kernel
theorem dL_law_189 : decode cL_law 189 = .ok (.iadd, 1) := by decide +kernel
theorem dL_law_190 : decode cL_law 190 = .ok (.iaload, 1) := by decide +kernel
theorem dL_law_191 : decode cL_law 191 = .ok (.invokevirtual 25, 3) := by decide +kernel
theorem dL_law_194 : decode cL_law 194 = .ok (.if_icmp .eq 325, 3) := by decide +kernel
theorem dL_law_197 : decode cL_law 197 = .ok (.iconst 0, 1) := by decide +kernel
theorem dL_law_198 : decode cL_law 198 = .ok (.ireturn, 1) := by decide +kernel
theorem dL_law_199 : decode cL_law 199 = .ok (.aload_n 1, 1) := by decide +kernel
theorem dL_law_200 : decode cL_law 200 = .ok (.aload_n 0, 1) := by decide +kernel
theorem dL_law_201 : decode cL_law 201 = .ok (.iload_n 3, 1) := by decide +kernel
theorem dL_law_202 : decode cL_law 202 = .ok (.iconst 1, 1) := by decide +kernel
theorem dL_law_203 : decode cL_law 203 = .ok (.iadd, 1) := by decide +kernel
theorem dL_law_204 : decode cL_law 204 = .ok (.iaload, 1) := by decide +kernel
theorem dL_law_205 : decode cL_law 205 = .ok (.aload_n 0, 1) := by decide +kernel
theorem dL_law_206 : decode cL_law 206 = .ok (.iload_n 3, 1) := by decide +kernel
theorem dL_law_207 : decode cL_law 207 = .ok (.iconst 2, 1) := by decide +kernel
theorem dL_law_208 : decode cL_law 208 = .ok (.iadd, 1) := by decide +kernel
theorem dL_law_209 : decode cL_law 209 = .ok (.iaload, 1) := by decide +kernel
theorem dL_law_210 : decode cL_law 210 = .ok (.invokevirtual 26, 3) := by decide +kernel
theorem dL_law_213 : decode cL_law 213 = .ok (.aload_n 2, 1) := by decide +kernel
theorem dL_law_214 : decode cL_law 214 = .ok (.aload_n 0, 1) := by decide +kernel
theorem dL_law_215 : decode cL_law 215 = .ok (.iload_n 3, 1) := by decide +kernel
theorem dL_law_216 : decode cL_law 216 = .ok (.iconst 1, 1) := by decide +kernel
theorem dL_law_217 : decode cL_law 217 = .ok (.iadd, 1) := by decide +kernel
theorem dL_law_218 : decode cL_law 218 = .ok (.iaload, 1) := by decide +kernel
theorem dL_law_219 : decode cL_law 219 = .ok (.aload_n 0, 1) := by decide +kernel
theorem dL_law_220 : decode cL_law 220 = .ok (.iload_n 3, 1) := by decide +kernel
theorem dL_law_221 : decode cL_law 221 = .ok (.iconst 2, 1) := by decide +kernel
theorem dL_law_222 : decode cL_law 222 = .ok (.iadd, 1) := by decide +kernel
theorem dL_law_223 : decode cL_law 223 = .ok (.iaload, 1) := by decide +kernel
theorem dL_law_224 : decode cL_law 224 = .ok (.invokevirtual 29, 3) := by decide +kernel
theorem dL_law_227 : decode cL_law 227 = .ok (.if_icmp .eq 292, 3) := by decide +kernel
theorem dL_law_230 : decode cL_law 230 = .ok (.iconst 0, 1) := by decide +kernel
theorem dL_law_231 : decode cL_law 231 = .ok (.ireturn, 1) := by decide +kernel
theorem dL_law_232 : decode cL_law 232 = .ok (.aload_n 1, 1) := by decide +kernel
theorem dL_law_233 : decode cL_law 233 = .ok (.aload_n 0, 1) := by decide +kernel
theorem dL_law_234 : decode cL_law 234 = .ok (.iload_n 3, 1) := by decide +kernel
theorem dL_law_235 : decode cL_law 235 = .ok (.iconst 1, 1) := by decide +kernel
theorem dL_law_236 : decode cL_law 236 = .ok (.iadd, 1) := by decide +kernel
theorem dL_law_237 : decode cL_law 237 = .ok (.iaload, 1) := by decide +kernel
theorem dL_law_238 : decode cL_law 238 = .ok (.aload_n 0, 1) := by decide +kernel
theorem dL_law_239 : decode cL_law 239 = .ok (.iload_n 3, 1) := by decide +kernel
theorem dL_law_240 : decode cL_law 240 = .ok (.iconst 2, 1) := by decide +kernel
theorem dL_law_241 : decode cL_law 241 = .ok (.iadd, 1) := by decide +kernel
theorem dL_law_242 : decode cL_law 242 = .ok (.iaload, 1) := by decide +kernel
theorem dL_law_243 : decode cL_law 243 = .ok (.aload_n 0, 1) := by decide +kernel
theorem dL_law_244 : decode cL_law 244 = .ok (.iload_n 3, 1) := by decide +kernel
theorem dL_law_245 : decode cL_law 245 = .ok (.iconst 3, 1) := by decide +kernel
theorem dL_law_246 : decode cL_law 246 = .ok (.iadd, 1) := by decide +kernel
theorem dL_law_247 : decode cL_law 247 = .ok (.iaload, 1) := by decide +kernel
theorem dL_law_248 : decode cL_law 248 = .ok (.invokevirtual 30, 3) := by decide +kernel
theorem dL_law_251 : decode cL_law 251 = .ok (.aload_n 2, 1) := by decide +kernel
theorem dL_law_252 : decode cL_law 252 = .ok (.aload_n 0, 1) := by decide +kernel
theorem dL_law_253 : decode cL_law 253 = .ok (.iload_n 3, 1) := by decide +kernel
theorem dL_law_254 : decode cL_law 254 = .ok (.iconst 1, 1) := by decide +kernel
theorem dL_law_255 : decode cL_law 255 = .ok (.iadd, 1) := by decide +kernel
theorem dL_law_256 : decode cL_law 256 = .ok (.iaload, 1) := by decide +kernel
theorem dL_law_257 : decode cL_law 257 = .ok (.aload_n 0, 1) := by decide +kernel
theorem dL_law_258 : decode cL_law 258 = .ok (.iload_n 3, 1) := by decide +kernel
theorem dL_law_259 : decode cL_law 259 = .ok (.iconst 2, 1) := by decide +kernel
theorem dL_law_260 : decode cL_law 260 = .ok (.iadd, 1) := by decide +kernel
theorem dL_law_261 : decode cL_law 261 = .ok (.iaload, 1) := by decide +kernel
theorem dL_law_262 : decode cL_law 262 = .ok (.aload_n 0, 1) := by decide +kernel
theorem dL_law_263 : decode cL_law 263 = .ok (.iload_n 3, 1) := by decide +kernel
theorem dL_law_264 : decode cL_law 264 = .ok (.iconst 3, 1) := by decide +kernel
theorem dL_law_265 : decode cL_law 265 = .ok (.iadd, 1) := by decide +kernel
theorem dL_law_266 : decode cL_law 266 = .ok (.iaload, 1) := by decide +kernel
theorem dL_law_267 : decode cL_law 267 = .ok (.invokevirtual 34, 3) := by decide +kernel
theorem dL_law_270 : decode cL_law 270 = .ok (.if_icmp .eq 249, 3) := by decide +kernel
theorem dL_law_273 : decode cL_law 273 = .ok (.iconst 0, 1) := by decide +kernel
theorem dL_law_274 : decode cL_law 274 = .ok (.ireturn, 1) := by decide +kernel
theorem dL_law_275 : decode cL_law 275 = .ok (.aload_n 1, 1) := by decide +kernel
theorem dL_law_276 : decode cL_law 276 = .ok (.aload_n 0, 1) := by decide +kernel
theorem dL_law_277 : decode cL_law 277 = .ok (.iload_n 3, 1) := by decide +kernel
theorem dL_law_278 : decode cL_law 278 = .ok (.iconst 1, 1) := by decide +kernel
theorem dL_law_279 : decode cL_law 279 = .ok (.iadd, 1) := by decide +kernel
theorem dL_law_280 : decode cL_law 280 = .ok (.iaload, 1) := by decide +kernel
theorem dL_law_281 : decode cL_law 281 = .ok (.aload_n 0, 1) := by decide +kernel
theorem dL_law_282 : decode cL_law 282 = .ok (.iload_n 3, 1) := by decide +kernel
theorem dL_law_283 : decode cL_law 283 = .ok (.iconst 2, 1) := by decide +kernel
theorem dL_law_284 : decode cL_law 284 = .ok (.iadd, 1) := by decide +kernel
theorem dL_law_285 : decode cL_law 285 = .ok (.iaload, 1) := by decide +kernel
theorem dL_law_286 : decode cL_law 286 = .ok (.invokevirtual 35, 3) := by decide +kernel
theorem dL_law_289 : decode cL_law 289 = .ok (.aload_n 2, 1) := by decide +kernel
theorem dL_law_290 : decode cL_law 290 = .ok (.aload_n 0, 1) := by decide +kernel
theorem dL_law_291 : decode cL_law 291 = .ok (.iload_n 3, 1) := by decide +kernel
theorem dL_law_292 : decode cL_law 292 = .ok (.iconst 1, 1) := by decide +kernel
theorem dL_law_293 : decode cL_law 293 = .ok (.iadd, 1) := by decide +kernel
theorem dL_law_294 : decode cL_law 294 = .ok (.iaload, 1) := by decide +kernel
theorem dL_law_295 : decode cL_law 295 = .ok (.aload_n 0, 1) := by decide +kernel
theorem dL_law_296 : decode cL_law 296 = .ok (.iload_n 3, 1) := by decide +kernel
theorem dL_law_297 : decode cL_law 297 = .ok (.iconst 2, 1) := by decide +kernel
theorem dL_law_298 : decode cL_law 298 = .ok (.iadd, 1) := by decide +kernel
theorem dL_law_299 : decode cL_law 299 = .ok (.iaload, 1) := by decide +kernel
theorem dL_law_300 : decode cL_law 300 = .ok (.invokevirtual 38, 3) := by decide +kernel
theorem dL_law_303 : decode cL_law 303 = .ok (.if_icmp .eq 216, 3) := by decide +kernel
theorem dL_law_306 : decode cL_law 306 = .ok (.iconst 0, 1) := by decide +kernel
theorem dL_law_307 : decode cL_law 307 = .ok (.ireturn, 1) := by decide +kernel
theorem dL_law_308 : decode cL_law 308 = .ok (.aload_n 1, 1) := by decide +kernel
theorem dL_law_309 : decode cL_law 309 = .ok (.aload_n 0, 1) := by decide +kernel
theorem dL_law_310 : decode cL_law 310 = .ok (.iload_n 3, 1) := by decide +kernel
theorem dL_law_311 : decode cL_law 311 = .ok (.iconst 1, 1) := by decide +kernel
theorem dL_law_312 : decode cL_law 312 = .ok (.iadd, 1) := by decide +kernel
theorem dL_law_313 : decode cL_law 313 = .ok (.iaload, 1) := by decide +kernel
theorem dL_law_314 : decode cL_law 314 = .ok (.aload_n 0, 1) := by decide +kernel
theorem dL_law_315 : decode cL_law 315 = .ok (.iload_n 3, 1) := by decide +kernel
theorem dL_law_316 : decode cL_law 316 = .ok (.iconst 2, 1) := by decide +kernel
theorem dL_law_317 : decode cL_law 317 = .ok (.iadd, 1) := by decide +kernel
theorem dL_law_318 : decode cL_law 318 = .ok (.iaload, 1) := by decide +kernel
theorem dL_law_319 : decode cL_law 319 = .ok (.aload_n 0, 1) := by decide +kernel
theorem dL_law_320 : decode cL_law 320 = .ok (.iload_n 3, 1) := by decide +kernel
theorem dL_law_321 : decode cL_law 321 = .ok (.iconst 3, 1) := by decide +kernel
theorem dL_law_322 : decode cL_law 322 = .ok (.iadd, 1) := by decide +kernel
theorem dL_law_323 : decode cL_law 323 = .ok (.iaload, 1) := by decide +kernel
theorem dL_law_324 : decode cL_law 324 = .ok (.invokevirtual 39, 3) := by decide +kernel
theorem dL_law_327 : decode cL_law 327 = .ok (.aload_n 2, 1) := by decide +kernel
theorem dL_law_328 : decode cL_law 328 = .ok (.aload_n 0, 1) := by decide +kernel
theorem dL_law_329 : decode cL_law 329 = .ok (.iload_n 3, 1) := by decide +kernel
theorem dL_law_330 : decode cL_law 330 = .ok (.iconst 1, 1) := by decide +kernel
theorem dL_law_331 : decode cL_law 331 = .ok (.iadd, 1) := by decide +kernel
theorem dL_law_332 : decode cL_law 332 = .ok (.iaload, 1) := by decide +kernel
theorem dL_law_333 : decode cL_law 333 = .ok (.aload_n 0, 1) := by decide +kernel
theorem dL_law_334 : decode cL_law 334 = .ok (.iload_n 3, 1) := by decide +kernel
theorem dL_law_335 : decode cL_law 335 = .ok (.iconst 2, 1) := by decide +kernel
theorem dL_law_336 : decode cL_law 336 = .ok (.iadd, 1) := by decide +kernel
theorem dL_law_337 : decode cL_law 337 = .ok (.iaload, 1) := by decide +kernel
theorem dL_law_338 : decode cL_law 338 = .ok (.aload_n 0, 1) := by decide +kernel
theorem dL_law_339 : decode cL_law 339 = .ok (.iload_n 3, 1) := by decide +kernel
theorem dL_law_340 : decode cL_law 340 = .ok (.iconst 3, 1) := by decide +kernel
theorem dL_law_341 : decode cL_law 341 = .ok (.iadd, 1) := by decide +kernel
theorem dL_law_342 : decode cL_law 342 = .ok (.iaload, 1) := by decide +kernel
theorem dL_law_343 : decode cL_law 343 = .ok (.invokevirtual 42, 3) := by decide +kernel
theorem dL_law_346 : decode cL_law 346 = .ok (.if_icmp .eq 173, 3) := by decide +kernel
theorem dL_law_349 : decode cL_law 349 = .ok (.iconst 0, 1) := by decide +kernel
theorem dL_law_350 : decode cL_law 350 = .ok (.ireturn, 1) := by decide +kernel
theorem dL_law_351 : decode cL_law 351 = .ok (.aload_n 1, 1) := by decide +kernel
theorem dL_law_352 : decode cL_law 352 = .ok (.aload_n 0, 1) := by decide +kernel
theorem dL_law_353 : decode cL_law 353 = .ok (.iload_n 3, 1) := by decide +kernel
theorem dL_law_354 : decode cL_law 354 = .ok (.iconst 1, 1) := by decide +kernel
theorem dL_law_355 : decode cL_law 355 = .ok (.iadd, 1) := by decide +kernel
theorem dL_law_356 : decode cL_law 356 = .ok (.iaload, 1) := by decide +kernel
theorem dL_law_357 : decode cL_law 357 = .ok (.aload_n 0, 1) := by decide +kernel
theorem dL_law_358 : decode cL_law 358 = .ok (.iload_n 3, 1) := by decide +kernel
theorem dL_law_359 : decode cL_law 359 = .ok (.iconst 2, 1) := by decide +kernel
theorem dL_law_360 : decode cL_law 360 = .ok (.iadd, 1) := by decide +kernel
theorem dL_law_361 : decode cL_law 361 = .ok (.iaload, 1) := by decide +kernel
theorem dL_law_362 : decode cL_law 362 = .ok (.invokevirtual 43, 3) := by decide +kernel
theorem dL_law_365 : decode cL_law 365 = .ok (.aload_n 2, 1) := by decide +kernel
theorem dL_law_366 : decode cL_law 366 = .ok (.aload_n 0, 1) := by decide +kernel
theorem dL_law_367 : decode cL_law 367 = .ok (.iload_n 3, 1) := by decide +kernel
theorem dL_law_368 : decode cL_law 368 = .ok (.iconst 1, 1) := by decide +kernel
theorem dL_law_369 : decode cL_law 369 = .ok (.iadd, 1) := by decide +kernel
theorem dL_law_370 : decode cL_law 370 = .ok (.iaload, 1) := by decide +kernel
theorem dL_law_371 : decode cL_law 371 = .ok (.aload_n 0, 1) := by decide +kernel
theorem dL_law_372 : decode cL_law 372 = .ok (.iload_n 3, 1) := by decide +kernel
theorem dL_law_373 : decode cL_law 373 = .ok (.iconst 2, 1) := by decide +kernel
theorem dL_law_374 : decode cL_law 374 = .ok (.iadd, 1) := by decide +kernel
theorem dL_law_375 : decode cL_law 375 = .ok (.iaload, 1) := by decide +kernel
theorem dL_law_376 : decode cL_law 376 = .ok (.invokevirtual 46, 3) := by decide +kernel
theorem dL_law_379 : decode cL_law 379 = .ok (.if_icmp .eq 140, 3) := by decide +kernel
theorem dL_law_382 : decode cL_law 382 = .ok (.iconst 0, 1) := by decide +kernel
theorem dL_law_383 : decode cL_law 383 = .ok (.ireturn, 1) := by decide +kernel
theorem dL_law_384 : decode cL_law 384 = .ok (.aload_n 1, 1) := by decide +kernel
theorem dL_law_385 : decode cL_law 385 = .ok (.aload_n 0, 1) := by decide +kernel
theorem dL_law_386 : decode cL_law 386 = .ok (.iload_n 3, 1) := by decide +kernel
theorem dL_law_387 : decode cL_law 387 = .ok (.iconst 1, 1) := by decide +kernel
theorem dL_law_388 : decode cL_law 388 = .ok (.iadd, 1) := by decide +kernel
theorem dL_law_389 : decode cL_law 389 = .ok (.iaload, 1) := by decide +kernel
theorem dL_law_390 : decode cL_law 390 = .ok (.invokevirtual 47, 3) := by decide +kernel
theorem dL_law_393 : decode cL_law 393 = .ok (.aload_n 2, 1) := by decide +kernel
theorem dL_law_394 : decode cL_law 394 = .ok (.aload_n 0, 1) := by decide +kernel
theorem dL_law_395 : decode cL_law 395 = .ok (.iload_n 3, 1) := by decide +kernel
theorem dL_law_396 : decode cL_law 396 = .ok (.iconst 1, 1) := by decide +kernel
theorem dL_law_397 : decode cL_law 397 = .ok (.iadd, 1) := by decide +kernel
theorem dL_law_398 : decode cL_law 398 = .ok (.iaload, 1) := by decide +kernel
theorem dL_law_399 : decode cL_law 399 = .ok (.invokevirtual 51, 3) := by decide +kernel
theorem dL_law_402 : decode cL_law 402 = .ok (.if_icmp .eq 117, 3) := by decide +kernel
theorem dL_law_405 : decode cL_law 405 = .ok (.iconst 0, 1) := by decide +kernel
theorem dL_law_406 : decode cL_law 406 = .ok (.ireturn, 1) := by decide +kernel
theorem dL_law_407 : decode cL_law 407 = .ok (.aload_n 1, 1) := by decide +kernel
theorem dL_law_408 : decode cL_law 408 = .ok (.aload_n 0, 1) := by decide +kernel
theorem dL_law_409 : decode cL_law 409 = .ok (.iload_n 3, 1) := by decide +kernel
theorem dL_law_410 : decode cL_law 410 = .ok (.iconst 1, 1) := by decide +kernel
theorem dL_law_411 : decode cL_law 411 = .ok (.iadd, 1) := by decide +kernel
theorem dL_law_412 : decode cL_law 412 = .ok (.iaload, 1) := by decide +kernel
theorem dL_law_413 : decode cL_law 413 = .ok (.aload_n 0, 1) := by decide +kernel
theorem dL_law_414 : decode cL_law 414 = .ok (.iload_n 3, 1) := by decide +kernel
theorem dL_law_415 : decode cL_law 415 = .ok (.iconst 2, 1) := by decide +kernel
theorem dL_law_416 : decode cL_law 416 = .ok (.iadd, 1) := by decide +kernel
theorem dL_law_417 : decode cL_law 417 = .ok (.iaload, 1) := by decide +kernel
theorem dL_law_418 : decode cL_law 418 = .ok (.invokevirtual 52, 3) := by decide +kernel
theorem dL_law_421 : decode cL_law 421 = .ok (.aload_n 2, 1) := by decide +kernel
theorem dL_law_422 : decode cL_law 422 = .ok (.aload_n 0, 1) := by decide +kernel
theorem dL_law_423 : decode cL_law 423 = .ok (.iload_n 3, 1) := by decide +kernel
theorem dL_law_424 : decode cL_law 424 = .ok (.iconst 1, 1) := by decide +kernel
theorem dL_law_425 : decode cL_law 425 = .ok (.iadd, 1) := by decide +kernel
theorem dL_law_426 : decode cL_law 426 = .ok (.iaload, 1) := by decide +kernel
theorem dL_law_427 : decode cL_law 427 = .ok (.aload_n 0, 1) := by decide +kernel
theorem dL_law_428 : decode cL_law 428 = .ok (.iload_n 3, 1) := by decide +kernel
theorem dL_law_429 : decode cL_law 429 = .ok (.iconst 2, 1) := by decide +kernel
theorem dL_law_430 : decode cL_law 430 = .ok (.iadd, 1) := by decide +kernel
theorem dL_law_431 : decode cL_law 431 = .ok (.iaload, 1) := by decide +kernel
theorem dL_law_432 : decode cL_law 432 = .ok (.invokevirtual 55, 3) := by decide +kernel
theorem dL_law_435 : decode cL_law 435 = .ok (.if_icmp .eq 84, 3) := by decide +kernel
theorem dL_law_438 : decode cL_law 438 = .ok (.iconst 0, 1) := by decide +kernel
theorem dL_law_439 : decode cL_law 439 = .ok (.ireturn, 1) := by decide +kernel
theorem dL_law_440 : decode cL_law 440 = .ok (.aload_n 1, 1) := by decide +kernel
theorem dL_law_441 : decode cL_law 441 = .ok (.aload_n 0, 1) := by decide +kernel
theorem dL_law_442 : decode cL_law 442 = .ok (.iload_n 3, 1) := by decide +kernel
theorem dL_law_443 : decode cL_law 443 = .ok (.iconst 1, 1) := by decide +kernel
theorem dL_law_444 : decode cL_law 444 = .ok (.iadd, 1) := by decide +kernel
theorem dL_law_445 : decode cL_law 445 = .ok (.iaload, 1) := by decide +kernel
theorem dL_law_446 : decode cL_law 446 = .ok (.aload_n 0, 1) := by decide +kernel
theorem dL_law_447 : decode cL_law 447 = .ok (.iload_n 3, 1) := by decide +kernel
theorem dL_law_448 : decode cL_law 448 = .ok (.iconst 2, 1) := by decide +kernel
theorem dL_law_449 : decode cL_law 449 = .ok (.iadd, 1) := by decide +kernel
theorem dL_law_450 : decode cL_law 450 = .ok (.iaload, 1) := by decide +kernel
theorem dL_law_451 : decode cL_law 451 = .ok (.aload_n 0, 1) := by decide +kernel
theorem dL_law_452 : decode cL_law 452 = .ok (.iload_n 3, 1) := by decide +kernel
theorem dL_law_453 : decode cL_law 453 = .ok (.iconst 3, 1) := by decide +kernel
theorem dL_law_454 : decode cL_law 454 = .ok (.iadd, 1) := by decide +kernel
theorem dL_law_455 : decode cL_law 455 = .ok (.iaload, 1) := by decide +kernel
theorem dL_law_456 : decode cL_law 456 = .ok (.aload_n 0, 1) := by decide +kernel
theorem dL_law_457 : decode cL_law 457 = .ok (.iload_n 3, 1) := by decide +kernel
theorem dL_law_458 : decode cL_law 458 = .ok (.iconst 4, 1) := by decide +kernel
theorem dL_law_459 : decode cL_law 459 = .ok (.iadd, 1) := by decide +kernel
theorem dL_law_460 : decode cL_law 460 = .ok (.iaload, 1) := by decide +kernel
theorem dL_law_461 : decode cL_law 461 = .ok (.invokevirtual 56, 3) := by decide +kernel
theorem dL_law_464 : decode cL_law 464 = .ok (.aload_n 2, 1) := by decide +kernel
theorem dL_law_465 : decode cL_law 465 = .ok (.aload_n 0, 1) := by decide +kernel
theorem dL_law_466 : decode cL_law 466 = .ok (.iload_n 3, 1) := by decide +kernel
theorem dL_law_467 : decode cL_law 467 = .ok (.iconst 1, 1) := by decide +kernel
theorem dL_law_468 : decode cL_law 468 = .ok (.iadd, 1) := by decide +kernel
theorem dL_law_469 : decode cL_law 469 = .ok (.iaload, 1) := by decide +kernel
theorem dL_law_470 : decode cL_law 470 = .ok (.aload_n 0, 1) := by decide +kernel
theorem dL_law_471 : decode cL_law 471 = .ok (.iload_n 3, 1) := by decide +kernel
theorem dL_law_472 : decode cL_law 472 = .ok (.iconst 2, 1) := by decide +kernel
theorem dL_law_473 : decode cL_law 473 = .ok (.iadd, 1) := by decide +kernel
theorem dL_law_474 : decode cL_law 474 = .ok (.iaload, 1) := by decide +kernel
theorem dL_law_475 : decode cL_law 475 = .ok (.aload_n 0, 1) := by decide +kernel
theorem dL_law_476 : decode cL_law 476 = .ok (.iload_n 3, 1) := by decide +kernel
theorem dL_law_477 : decode cL_law 477 = .ok (.iconst 3, 1) := by decide +kernel
theorem dL_law_478 : decode cL_law 478 = .ok (.iadd, 1) := by decide +kernel
theorem dL_law_479 : decode cL_law 479 = .ok (.iaload, 1) := by decide +kernel
theorem dL_law_480 : decode cL_law 480 = .ok (.aload_n 0, 1) := by decide +kernel
theorem dL_law_481 : decode cL_law 481 = .ok (.iload_n 3, 1) := by decide +kernel
theorem dL_law_482 : decode cL_law 482 = .ok (.iconst 4, 1) := by decide +kernel
theorem dL_law_483 : decode cL_law 483 = .ok (.iadd, 1) := by decide +kernel
theorem dL_law_484 : decode cL_law 484 = .ok (.iaload, 1) := by decide +kernel
theorem dL_law_485 : decode cL_law 485 = .ok (.invokevirtual 60, 3) := by decide +kernel
theorem dL_law_488 : decode cL_law 488 = .ok (.if_icmp .eq 31, 3) := by decide +kernel
theorem dL_law_491 : decode cL_law 491 = .ok (.iconst 0, 1) := by decide +kernel
theorem dL_law_492 : decode cL_law 492 = .ok (.ireturn, 1) := by decide +kernel
theorem dL_law_493 : decode cL_law 493 = .ok (.aload_n 1, 1) := by decide +kernel
theorem dL_law_494 : decode cL_law 494 = .ok (.invokevirtual 61, 3) := by decide +kernel
theorem dL_law_497 : decode cL_law 497 = .ok (.aload_n 2, 1) := by decide +kernel
theorem dL_law_498 : decode cL_law 498 = .ok (.invokevirtual 65, 3) := by decide +kernel
theorem dL_law_501 : decode cL_law 501 = .ok (.if_icmp .eq 18, 3) := by decide +kernel
theorem dL_law_504 : decode cL_law 504 = .ok (.iconst 0, 1) := by decide +kernel
theorem dL_law_505 : decode cL_law 505 = .ok (.ireturn, 1) := by decide +kernel
theorem dL_law_506 : decode cL_law 506 = .ok (.aload_n 1, 1) := by decide +kernel
theorem dL_law_507 : decode cL_law 507 = .ok (.invokevirtual 66, 3) := by decide +kernel
theorem dL_law_510 : decode cL_law 510 = .ok (.aload_n 2, 1) := by decide +kernel
theorem dL_law_511 : decode cL_law 511 = .ok (.invokevirtual 69, 3) := by decide +kernel
theorem dL_law_514 : decode cL_law 514 = .ok (.if_icmp .eq 5, 3) := by decide +kernel
theorem dL_law_517 : decode cL_law 517 = .ok (.iconst 0, 1) := by decide +kernel
theorem dL_law_518 : decode cL_law 518 = .ok (.ireturn, 1) := by decide +kernel
theorem dL_law_519 : decode cL_law 519 = .ok (.iinc 3 5, 3) := by decide +kernel
theorem dL_law_522 : decode cL_law 522 = .ok (.goto (-504), 3) := by decide +kernel
theorem dL_law_525 : decode cL_law 525 = .ok (.iconst 1, 1) := by decide +kernel
theorem dL_law_526 : decode cL_law 526 = .ok (.ireturn, 1) := by decide +kernel
end
section
abbrev vwCl : List vw_C := [(RX0, TX0, 6), (RX1, TX1, 4), (RX2, TX2, 5), (RX3, TX3, 3), (RX4, TX4, 15)]
end
section
abbrev nlX3_size : Cond := .fieldLinkNest "PairThreads" 34 "PairThreads$Threads" "size" "I" "PairThreads"
abbrev nlX3_number : Cond := .fieldLinkNest "PairThreads" 57 "PairThreads$Threads" "number" "[[I" "PairThreads"
abbrev nlX3_order : Cond := .fieldLinkNest "PairThreads" 67 "PairThreads$Threads" "order" "[I" "PairThreads"
abbrev nlX0_size : Cond := .fieldLinkNest "PairThreads$Matching" 37 "PairThreads$Threads" "size" "I" "PairThreads"
abbrev nlX0_order : Cond := .fieldLinkNest "PairThreads$Matching" 47 "PairThreads$Threads" "order" "[I" "PairThreads"
abbrev nlX0_before : Cond := .fieldLinkNest "PairThreads$Matching" 50 "PairThreads$Threads" "before" "[[I" "PairThreads"
abbrev nlX0_after : Cond := .fieldLinkNest "PairThreads$Matching" 85 "PairThreads$Threads" "after" "[[I" "PairThreads"
abbrev nlX1_number : Cond := .fieldLinkNest "PairThreads$Spread" 31 "PairThreads$Threads" "number" "[[I" "PairThreads"
abbrev nlX1_size : Cond := .fieldLinkNest "PairThreads$Spread" 39 "PairThreads$Threads" "size" "I" "PairThreads"
abbrev nlX1_order : Cond := .fieldLinkNest "PairThreads$Spread" 42 "PairThreads$Threads" "order" "[I" "PairThreads"
abbrev nlX1_after : Cond := .fieldLinkNest "PairThreads$Spread" 69 "PairThreads$Threads" "after" "[[I" "PairThreads"
abbrev nmX3_X1 : Cond := .methodLinkNest "PairThreads" 18 ⟨"PairThreads$Spread", "<init>", "()V"⟩ "PairThreads"
abbrev nmX3_X0 : Cond := .methodLinkNest "PairThreads" 25 ⟨"PairThreads$Matching", "<init>", "()V"⟩ "PairThreads"
/-- the links to private fields and constructors of nest mates -/
def nst (U : State) : Prop := va_Nw nlX3_size U ∧ va_Nw nlX3_number U ∧ va_Nw nlX3_order U ∧ va_Nw nlX0_size U ∧ va_Nw nlX0_order U ∧ va_Nw nlX0_before U ∧ va_Nw nlX0_after U ∧ va_Nw nlX1_number U ∧ va_Nw nlX1_size U ∧ va_Nw nlX1_order U ∧ va_Nw nlX1_after U ∧ va_Nw nmX3_X1 U ∧ va_Nw nmX3_X0 U
theorem nst.warm {s U : State} (hW : s.WarmedH U.vm) (h : nst s) : nst U := by
  obtain ⟨h0, h1, h2, h3, h4, h5, h6, h7, h8, h9, h10, h11, h12⟩ := h
  exact ⟨va_Nw.warmF hW h0, va_Nw.warmF hW h1, va_Nw.warmF hW h2, va_Nw.warmF hW h3, va_Nw.warmF hW h4, va_Nw.warmF hW h5, va_Nw.warmF hW h6, va_Nw.warmF hW h7, va_Nw.warmF hW h8, va_Nw.warmF hW h9, va_Nw.warmF hW h10, va_Nw.warmM hW h11, va_Nw.warmM hW h12⟩
theorem nst.same {u U : State} (hv : u.vm = U.vm) (h : nst u) : nst U := by
  obtain ⟨h0, h1, h2, h3, h4, h5, h6, h7, h8, h9, h10, h11, h12⟩ := h
  exact ⟨va_Nw.same rfl hv h0, va_Nw.same rfl hv h1, va_Nw.same rfl hv h2, va_Nw.same rfl hv h3, va_Nw.same rfl hv h4, va_Nw.same rfl hv h5, va_Nw.same rfl hv h6, va_Nw.same rfl hv h7, va_Nw.same rfl hv h8, va_Nw.same rfl hv h9, va_Nw.same rfl hv h10, va_Nw.same rfl hv h11, va_Nw.same rfl hv h12⟩
theorem nst.of {A : Array Value} {s : State} (hts : ∀ w ∈ lw_tbl, w.before A s = true) : nst s :=
  ⟨va_Nw.of rfl (hts nlX3_size (by decide +kernel)), va_Nw.of rfl (hts nlX3_number (by decide +kernel)), va_Nw.of rfl (hts nlX3_order (by decide +kernel)), va_Nw.of rfl (hts nlX0_size (by decide +kernel)), va_Nw.of rfl (hts nlX0_order (by decide +kernel)), va_Nw.of rfl (hts nlX0_before (by decide +kernel)), va_Nw.of rfl (hts nlX0_after (by decide +kernel)), va_Nw.of rfl (hts nlX1_number (by decide +kernel)), va_Nw.of rfl (hts nlX1_size (by decide +kernel)), va_Nw.of rfl (hts nlX1_order (by decide +kernel)), va_Nw.of rfl (hts nlX1_after (by decide +kernel)), va_Nw.of rfl (hts nmX3_X1 (by decide +kernel)), va_Nw.of rfl (hts nmX3_X0 (by decide +kernel))⟩
theorem nst.nlX3_size {A : Array Value} {U : State} (h : nst U) : (nlX3_size).before A U = true := va_Nw.use rfl (h.1)
theorem nst.nlX3_number {A : Array Value} {U : State} (h : nst U) : (nlX3_number).before A U = true := va_Nw.use rfl (h.2.1)
theorem nst.nlX3_order {A : Array Value} {U : State} (h : nst U) : (nlX3_order).before A U = true := va_Nw.use rfl (h.2.2.1)
theorem nst.nlX0_size {A : Array Value} {U : State} (h : nst U) : (nlX0_size).before A U = true := va_Nw.use rfl (h.2.2.2.1)
theorem nst.nlX0_order {A : Array Value} {U : State} (h : nst U) : (nlX0_order).before A U = true := va_Nw.use rfl (h.2.2.2.2.1)
theorem nst.nlX0_before {A : Array Value} {U : State} (h : nst U) : (nlX0_before).before A U = true := va_Nw.use rfl (h.2.2.2.2.2.1)
theorem nst.nlX0_after {A : Array Value} {U : State} (h : nst U) : (nlX0_after).before A U = true := va_Nw.use rfl (h.2.2.2.2.2.2.1)
theorem nst.nlX1_number {A : Array Value} {U : State} (h : nst U) : (nlX1_number).before A U = true := va_Nw.use rfl (h.2.2.2.2.2.2.2.1)
theorem nst.nlX1_size {A : Array Value} {U : State} (h : nst U) : (nlX1_size).before A U = true := va_Nw.use rfl (h.2.2.2.2.2.2.2.2.1)
theorem nst.nlX1_order {A : Array Value} {U : State} (h : nst U) : (nlX1_order).before A U = true := va_Nw.use rfl (h.2.2.2.2.2.2.2.2.2.1)
theorem nst.nlX1_after {A : Array Value} {U : State} (h : nst U) : (nlX1_after).before A U = true := va_Nw.use rfl (h.2.2.2.2.2.2.2.2.2.2.1)
theorem nst.nmX3_X1 {A : Array Value} {U : State} (h : nst U) : (nmX3_X1).before A U = true := va_Nw.use rfl (h.2.2.2.2.2.2.2.2.2.2.2.1)
theorem nst.nmX3_X0 {A : Array Value} {U : State} (h : nst U) : (nmX3_X0).before A U = true := va_Nw.use rfl (h.2.2.2.2.2.2.2.2.2.2.2.2)
end
section
/-! rows of this claim: ints by their numbers, arrays by functions, contracts by worlds -/
/-- a slot, a place or a number, or NONE -/
def lk (o : Option Nat) : Int32 := match o with
  | none => -1
  | some k => nI k
def fN (f : Nat → Nat) : Nat → Int32 := fun i => nI (f i)
def fO (f : Nat → Option Nat) : Nat → Int32 := fun i => lk (f i)
theorem upd_fN (f : Nat → Nat) (j x : Nat) : upd (fN f) j (nI x) = fN (va_up f j x) := by
  funext i
  unfold upd fN va_up
  by_cases h : i = j <;> simp [h]
theorem upd_fO (f : Nat → Option Nat) (j : Nat) (x : Option Nat) : upd (fO f) j (lk x) = fO (va_up f j x) := by
  funext i
  unfold upd fO va_up
  by_cases h : i = j <;> simp [h]
theorem nI_nm1 {n : Nat} (h : n < 2 ^ 31) : ¬ nI n = -1 := by
  intro q
  have a := nI_toInt h
  rw [q] at a
  have : (-1 : Int32).toInt = -1 := by decide
  omega
/-- one less, or none -/
def pr (n : Nat) : Option Nat := match n with
  | 0 => none
  | k + 1 => some k
theorem lk_pr (n : Nat) : nI n - 1 = lk (pr n) := by
  cases n with
  | zero => rfl
  | succ k => exact nI_pred k
theorem lk_pr' (n : Nat) : nI n + Int32.ofInt (-1) = lk (pr n) := by
  cases n with
  | zero => rfl
  | succ k => exact pk_m1 k
theorem up_s {α : Type} (f : Nat → α) (k : Nat) (v : α) : va_up f k v k = v := by simp [va_up]
theorem up_n {α : Type} {f : Nat → α} {k j : Nat} {v : α} (h : j ≠ k) : va_up f k v j = f j := by simp [va_up, h]
abbrev Gd : Type := va_G × ClassId × ClassId × ClassId
def tys (G : Gd) : List (ClassId × FieldType) := [(G.2.1, .int), (G.2.2.1, .array .int), (G.2.2.2, .boolean)]
/-- what the tables say, and what never changes -/
def KK (G : Gd) (U : State) : Prop := va_K G.1 vwCl (tys G) U ∧ nst U
theorem KK.warm {G : Gd} {s U : State} (hW : s.WarmedH U.vm) (h : KK G s) : KK G U := ⟨va_K.moved hW.alike h.1, h.2.warm hW⟩
theorem KK.call {G : Gd} {U : State} (h : KK G U) (g : JFrame) (mk : MethodId) (a : Array Value) : KK G (U.calling g mk a) := ⟨va_K.moved (u := U) (U := U.calling g mk a) (Vm.Alike.refl U.vm) h.1, h.2.same rfl⟩
/-- a method's end: its answer and the heap, and nothing changed outside A -/
def Qz (A : Nat → Prop) (R' : Option Value → Heap → Prop) : Array Value → State → Outcome → State → Prop := fun _ st oc t => (∃ v, oc = .returned v ∧ R' v t.heap) ∧ va_F A st t
/-- a contract over a world of cells: a method that makes no cell -/
def Mt (l : Launch) (y : MethodName) (wd : List Cond) (fr lo : Nat) (av : List Value) (G : Gd) (ws : va_W) (A : Nat → Prop) (R' : Option Value → Heap → Prop) : Prop :=
  Met l y wd { frames := fr, cells := 0, slots := 0, locals := lo } (va_Pc av (fun U => va_P G.1 vwCl ws U.heap ∧ KK G U)) (Qz A R') 0 0 A
theorem Mt.mk {l : Launch} {y : MethodName} {wd wd' : List Cond} {fr lo : Nat} {av : List Value} {G : Gd} {ws : va_W} {A : Nat → Prop} {R' : Option Value → Heap → Prop} (cc : ByteArray) (maxL : Nat) (ret : Option FieldType)
    (hy : plainName y.cls = true) (hw : wd = Cond.code y cc maxL ret :: wd') (hlen : (lg_sl av).length ≤ maxL)
    (body : ∀ (p : Program) (e : Env) (s : State) (m : MethodId) (below : List Frame) (meth : Method) (c : Code) (ls : Array Slot), p.tables.exec = Jvm.exec → c.code = cc → meth.sig.returnType = ret → c.maxLocals = maxL → (∀ w ∈ wd, w.before av.toArray s = true) → s.vm.findClass y.cls = some m.cls → meth.locks = false → va_P G.1 vwCl ws s.heap → KK G s → lv_has ls maxL (lv_args 0 av) →
      W p l e { frames := fr, cells := 0, slots := 0, locals := lo } s m av.toArray below meth c s.heap [] 0 0 (MQ below (Qz A R') av.toArray s 0 0 A) (F0 m 0 ls [])) : Mt l y wd fr lo av G ws A R' := by
  refine Met.ofW (cc := cc) (maxL := maxL) (ret := ret) hy hw ?_
  intro p e s m args below meth c s₁ B hml hv
  obtain ⟨rfl, hP, hKK⟩ := hv
  rw [lg_entry_eq]
  exact body p e s m below meth c _ B.exec B.bytes B.returns hml (atoms_spec (ws := wd) B.pre) (findClass_of_methodNamed B.named) B.notSynchronized hP hKK (lv_entry av hlen)
/-- the world's addresses are apart and may be written -/
theorem D_of {A : Nat → Prop} {AL : List Nat} (hnd : AL.Nodup) (hA : ∀ q ∈ AL, A q) (ws : va_W) (h : ws.map Prod.fst = AL) : va_D A ws := by
  have hk : ∀ (k : Nat) (q : Nat × va_E), ws[k]? = some q → AL[k]? = some q.1 := fun k q hq => by rw [← h, List.getElem?_map, hq]; rfl
  refine ⟨fun i j p q hi hj hpq => ?_, fun k q hq => hA _ (List.mem_of_getElem? (hk k q hq))⟩
  have h1 := hk i p hi
  have h2 := hk j q hj
  rw [hpq] at h1
  obtain ⟨l1, e1⟩ := List.getElem?_eq_some_iff.mp h1
  obtain ⟨l2, e2⟩ := List.getElem?_eq_some_iff.mp h2
  have hp := List.pairwise_iff_getElem.mp hnd
  rcases Nat.lt_trichotomy i j with z | z | z
  · exact absurd (e1.trans e2.symm) (hp i j l1 l2 z)
  · exact z
  · exact absurd (e2.trans e1.symm) (hp j i l2 l1 z)
/-- cells that a call couldn't change -/
theorem P_keep {D : va_G} {cl : List vw_C} {ws : va_W} {H H1 : Heap} {A1 : Nat → Prop} (hP : va_P D cl ws H) (hk : ∀ q : Nat, q < H.size → ¬ A1 q → H1[q]? = H[q]?) (hn : ∀ q ∈ ws.map Prod.fst, ¬ A1 q) : va_P D cl ws H1 :=
  hP.kept (fun k q hq => hk q.1 (hP k q hq).lt (hn _ (List.mem_map.mpr ⟨q, List.mem_of_getElem? hq, rfl⟩)))
theorem P_keep0 {D : va_G} {cl : List vw_C} {ws : va_W} {H H1 : Heap} (hP : va_P D cl ws H) (hk : ∀ q : Nat, q < H.size → ¬ False → H1[q]? = H[q]?) : va_P D cl ws H1 :=
  hP.kept (fun k q hq => hk q.1 (hP k q hq).lt id)
section ZR
variable {p : Program} {l : Launch} {e : Env} {R : Room} {s : State} {m : MethodId} {args : Array Value} {below : List Frame} {meth : Method} {c : Code} {H : Heap} {locs : List Loc} {cells slots : Nat} {Q : State → Prop}
variable {cc : ByteArray} {pc : Nat} {ls : Array Slot} {rest : List Value} {G : Gd} {A : Nat → Prop} {a : Nat} {ws : va_W} {H0 : Heap}
theorem z_iret {A : Nat → Prop} {R' : Option Value → Heap → Prop} {v : Int32} (hx : p.tables.exec = Jvm.exec) (hb : c.code = cc) (hr : meth.sig.returnType = some .int) (hlocks : meth.locks = false) (hR : R' (some (.int v)) H) (hS : va_S A s.heap H locs) (hdg : decode cc pc = .ok (.ireturn, 1)) :
    W p l e R s m args below meth c H locs cells slots (MQ below (Qz A R') args s cells slots A) (F0 m pc ls [.int v]) :=
  W.iret hx hb hr (fun t ht hW => ⟨⟨_, rfl, by rw [ht]; exact hR⟩, hS.F ht⟩) hS.2.2 hdg hlocks
theorem z_vret {A : Nat → Prop} {R' : Option Value → Heap → Prop} (hx : p.tables.exec = Jvm.exec) (hb : c.code = cc) (hr : meth.sig.returnType = none) (hlocks : meth.locks = false) (hR : R' none H) (hS : va_S A s.heap H locs) (hdg : decode cc pc = .ok (.return_, 1)) :
    W p l e R s m args below meth c H locs cells slots (MQ below (Qz A R') args s cells slots A) (F0 m pc ls []) :=
  W.vret hx hb hr (fun t ht hW => ⟨⟨_, rfl, by rw [ht]; exact hR⟩, hS.F ht⟩) hS.2.2 hdg hlocks
theorem z_zret {A : Nat → Prop} {R' : Option Value → Heap → Prop} {v : Int32} (hx : p.tables.exec = Jvm.exec) (hb : c.code = cc) (hr : meth.sig.returnType = some .boolean) (hn : narrow .boolean (.int v) = .int v) (hlocks : meth.locks = false) (hR : R' (some (.int v)) H) (hS : va_S A s.heap H locs) (hdg : decode cc pc = .ok (.ireturn, 1)) :
    W p l e R s m args below meth c H locs cells slots (MQ below (Qz A R') args s cells slots A) (F0 m pc ls [.int v]) :=
  W.zret hx hb hr hn (fun t ht hW => ⟨⟨_, rfl, by rw [ht]; exact hR⟩, hS.F ht⟩) hS.2.2 hdg hlocks
/-- the top of the stack in other words -/
theorem z_top {x y : Int32} (h : x = y) (k : W p l e R s m args below meth c H locs cells slots Q (F0 m pc ls (.int y :: rest))) : W p l e R s m args below meth c H locs cells slots Q (F0 m pc ls (.int x :: rest)) := by rw [h]; exact k
theorem z_ald (hx : p.tables.exec = Jvm.exec) (hb : c.code = cc) (hK : KK G s) (hP : va_P G.1 vwCl ws H) (q0 : Nat) {n : Nat} {g : Nat → Nat} (ha : ws[q0]? = some (a, .inl (G.2.2.1, n, .inr (.inr (.inr (.inr (fun i => some (g i)))))))) {j : Nat} (hj : j < n) (hn : n < 2 ^ 31) (hdg : decode cc pc = .ok (.aaload, 1))
    (kk : W p l e R s m args below meth c H locs cells slots Q (F0 m (pc + 1) ls (.ref (g j) :: rest))) : W p l e R s m args below meth c H locs cells slots Q (F0 m pc ls (.int (nI j) :: .ref a :: rest)) := by
  have hin : vp_in (nI j) n := vp_in_nI hj hn
  have hcl : (nI j).toNatClampNeg = j := nI_clamp (by omega)
  exact W.aald (v := .ref (g j)) (ty := .array .int) hx hb (hP q0 _ ha) ((hK.1.2 1 _ rfl).1 n (fun j => va_rf (some (g j)))) rfl (fun q => by cases q) (by show ¬ (nI j < 0 ∨ (arrV _ _ _).slots.size ≤ _); rw [arrV_size]; exact hin) (by show (arrV _ _ _).slots[_]? = _; rw [hcl, arrV_read _ _ hj]; rfl) rfl rfl hdg kk
theorem z_iald (hx : p.tables.exec = Jvm.exec) (hb : c.code = cc) (hK : KK G s) (hP : va_P G.1 vwCl ws H) (q0 : Nat) {n : Nat} {f : Nat → Int32} (ha : ws[q0]? = some (a, .inl (G.2.1, n, .inl f))) {j : Nat} (hj : j < n) (hn : n < 2 ^ 31) (hdg : decode cc pc = .ok (.iaload, 1))
    (kk : W p l e R s m args below meth c H locs cells slots Q (F0 m (pc + 1) ls (.int (f j) :: rest))) : W p l e R s m args below meth c H locs cells slots Q (F0 m pc ls (.int (nI j) :: .ref a :: rest)) := by
  refine va_iald hx hb hK.1 hP q0 0 ha rfl (vp_in_nI hj hn) hdg ?_
  rw [nI_clamp (by omega)]
  exact kk
theorem z_iast (hx : p.tables.exec = Jvm.exec) (hb : c.code = cc) (hK : KK G s) (hP : va_P G.1 vwCl ws H) (hD : va_D A ws) (hS : va_S A H0 H locs) (q0 : Nat) {n : Nat} {f : Nat → Int32} (ha : ws[q0]? = some (a, .inl (G.2.1, n, .inl f))) {j : Nat} {x : Int32} (hj : j < n) (hn : n < 2 ^ 31) (hdg : decode cc pc = .ok (.iastore, 1))
    (kk : ∀ (H1 : Heap) (locs1 : List Loc), va_P G.1 vwCl (ws.set q0 (a, .inl (G.2.1, n, .inl (upd f j x)))) H1 → va_S A H0 H1 locs1 → W p l e R s m args below meth c H1 locs1 cells slots Q (F0 m (pc + 1) ls rest)) : W p l e R s m args below meth c H locs cells slots Q (F0 m pc ls (.int x :: .int (nI j) :: .ref a :: rest)) := by
  refine va_iast hx hb hK.1 hP hD hS q0 0 ha rfl (vp_in_nI hj hn) hdg (fun H1 locs1 h1 _ h3 => kk H1 locs1 ?_ h3)
  rw [nI_clamp (by omega)] at h1
  exact h1
theorem z_iinc {i nL k : Nat} {x : Nat} {lv lv' : List (Nat × Value)} (hx : p.tables.exec = Jvm.exec) (hb : c.code = cc) (hdg : decode cc pc = .ok (.iinc i 1, 3)) (h : lv_has ls nL lv) (hk : lv[k]? = some (i, .int (nI x))) (hn : i < nL) (hl : (i, Value.int (nI (x + 1))) :: lv.filter (fun q => !(q.1 == i) && !(q.1 + 1 == i && q.2.category == 2)) = lv')
    (kk : ∀ ls' : Array Slot, lv_has ls' nL lv' → W p l e R s m args below meth c H locs cells slots Q (F0 m (pc + 3) ls' rest)) : W p l e R s m args below meth c H locs cells slots Q (F0 m pc ls rest) :=
  lv_iinc hx hb hdg h hk (by rw [nI_succ]; rfl) hn hl kk
theorem z_icmp_ge (hx : p.tables.exec = Jvm.exec) (hb : c.code = cc) {x y : Nat} {off : Int} {tgt : Nat} (h1 : x < 2 ^ 31) (h2 : y < 2 ^ 31) (hdg : decode cc pc = .ok (.if_icmp .ge off, 3)) (ht : (pc : Int) + off = (tgt : Int))
    (kt : y ≤ x → W p l e R s m args below meth c H locs cells slots Q (F0 m tgt ls rest)) (kf : x < y → W p l e R s m args below meth c H locs cells slots Q (F0 m (pc + 3) ls rest)) : W p l e R s m args below meth c H locs cells slots Q (F0 m pc ls (.int (nI y) :: .int (nI x) :: rest)) :=
  lv_icmp_ge hx hb hdg ht (fun h => kt ((nI_leI h2 h1).mp h)) (fun h => kf (Nat.lt_of_not_le (fun q => h ((nI_leI h2 h1).mpr q))))
theorem z_icmp_lt (hx : p.tables.exec = Jvm.exec) (hb : c.code = cc) {x y : Nat} {off : Int} {tgt : Nat} (h1 : x < 2 ^ 31) (h2 : y < 2 ^ 31) (hdg : decode cc pc = .ok (.if_icmp .lt off, 3)) (ht : (pc : Int) + off = (tgt : Int))
    (kt : x < y → W p l e R s m args below meth c H locs cells slots Q (F0 m tgt ls rest)) (kf : y ≤ x → W p l e R s m args below meth c H locs cells slots Q (F0 m (pc + 3) ls rest)) : W p l e R s m args below meth c H locs cells slots Q (F0 m pc ls (.int (nI y) :: .int (nI x) :: rest)) :=
  lv_icmp_lt hx hb hdg ht (fun h => kt ((nI_ltI h1 h2).mp h)) (fun h => kf (Nat.le_of_not_lt (fun q => h ((nI_ltI h1 h2).mpr q))))
theorem z_icmp_gt (hx : p.tables.exec = Jvm.exec) (hb : c.code = cc) {x y : Nat} {off : Int} {tgt : Nat} (h1 : x < 2 ^ 31) (h2 : y < 2 ^ 31) (hdg : decode cc pc = .ok (.if_icmp .gt off, 3)) (ht : (pc : Int) + off = (tgt : Int))
    (kt : y < x → W p l e R s m args below meth c H locs cells slots Q (F0 m tgt ls rest)) (kf : x ≤ y → W p l e R s m args below meth c H locs cells slots Q (F0 m (pc + 3) ls rest)) : W p l e R s m args below meth c H locs cells slots Q (F0 m pc ls (.int (nI y) :: .int (nI x) :: rest)) :=
  lv_icmp_gt hx hb hdg ht (fun h => kt ((nI_ltI h2 h1).mp h)) (fun h => kf (Nat.le_of_not_lt (fun q => h ((nI_ltI h2 h1).mpr q))))
theorem z_icmp_eq (hx : p.tables.exec = Jvm.exec) (hb : c.code = cc) {x y : Nat} {off : Int} {tgt : Nat} (h1 : x < 2 ^ 31) (h2 : y < 2 ^ 31) (hdg : decode cc pc = .ok (.if_icmp .eq off, 3)) (ht : (pc : Int) + off = (tgt : Int))
    (kt : x = y → W p l e R s m args below meth c H locs cells slots Q (F0 m tgt ls rest)) (kf : x ≠ y → W p l e R s m args below meth c H locs cells slots Q (F0 m (pc + 3) ls rest)) : W p l e R s m args below meth c H locs cells slots Q (F0 m pc ls (.int (nI y) :: .int (nI x) :: rest)) :=
  lv_icmp_eq hx hb hdg ht (fun h => kt ((nI_eq h1 h2).mp h)) (fun h => kf (fun q => h ((nI_eq h1 h2).mpr q)))
theorem z_icmp_ne (hx : p.tables.exec = Jvm.exec) (hb : c.code = cc) {x y : Nat} {off : Int} {tgt : Nat} (h1 : x < 2 ^ 31) (h2 : y < 2 ^ 31) (hdg : decode cc pc = .ok (.if_icmp .ne off, 3)) (ht : (pc : Int) + off = (tgt : Int))
    (kt : x ≠ y → W p l e R s m args below meth c H locs cells slots Q (F0 m tgt ls rest)) (kf : x = y → W p l e R s m args below meth c H locs cells slots Q (F0 m (pc + 3) ls rest)) : W p l e R s m args below meth c H locs cells slots Q (F0 m pc ls (.int (nI y) :: .int (nI x) :: rest)) :=
  lv_icmp_ne hx hb hdg ht (fun h => kt (fun q => h ((nI_eq h1 h2).mpr q))) (fun h => kf ((nI_eq h1 h2).mp h))
/-- against NONE -/
theorem z_none_eq (hx : p.tables.exec = Jvm.exec) (hb : c.code = cc) {o : Option Nat} {off : Int} {tgt : Nat} (h1 : ∀ k, o = some k → k < 2 ^ 31) (hdg : decode cc pc = .ok (.if_icmp .eq off, 3)) (ht : (pc : Int) + off = (tgt : Int))
    (kt : o = none → W p l e R s m args below meth c H locs cells slots Q (F0 m tgt ls rest)) (kf : ∀ k, o = some k → W p l e R s m args below meth c H locs cells slots Q (F0 m (pc + 3) ls rest)) : W p l e R s m args below meth c H locs cells slots Q (F0 m pc ls (.int (-1) :: .int (lk o) :: rest)) := by
  refine lv_icmp_eq hx hb hdg ht (fun h => ?_) (fun h => ?_)
  · cases o with
    | none => exact kt rfl
    | some k => exact absurd h (nI_nm1 (h1 k rfl))
  · cases o with
    | none => exact absurd rfl h
    | some k => exact kf k rfl
theorem z_none_ne (hx : p.tables.exec = Jvm.exec) (hb : c.code = cc) {o : Option Nat} {off : Int} {tgt : Nat} (h1 : ∀ k, o = some k → k < 2 ^ 31) (hdg : decode cc pc = .ok (.if_icmp .ne off, 3)) (ht : (pc : Int) + off = (tgt : Int))
    (kt : ∀ k, o = some k → W p l e R s m args below meth c H locs cells slots Q (F0 m tgt ls rest)) (kf : o = none → W p l e R s m args below meth c H locs cells slots Q (F0 m (pc + 3) ls rest)) : W p l e R s m args below meth c H locs cells slots Q (F0 m pc ls (.int (-1) :: .int (lk o) :: rest)) := by
  refine lv_icmp_ne hx hb hdg ht (fun h => ?_) (fun h => ?_)
  · cases o with
    | none => exact absurd rfl h
    | some k => exact kt k rfl
  · cases o with
    | none => exact kf rfl
    | some k => exact absurd h (nI_nm1 (h1 k rfl))
theorem z_if_ne (hx : p.tables.exec = Jvm.exec) (hb : c.code = cc) {x : Nat} {off : Int} {tgt : Nat} (h1 : x < 2 ^ 31) (hdg : decode cc pc = .ok (.ifCond .ne off, 3)) (ht : (pc : Int) + off = (tgt : Int))
    (kt : x ≠ 0 → W p l e R s m args below meth c H locs cells slots Q (F0 m tgt ls rest)) (kf : x = 0 → W p l e R s m args below meth c H locs cells slots Q (F0 m (pc + 3) ls rest)) : W p l e R s m args below meth c H locs cells slots Q (F0 m pc ls (.int (nI x) :: rest)) :=
  lv_if_ne hx hb hdg ht (fun h => kt (fun q => h (by rw [q]; rfl))) (fun h => kf (by
    rcases Nat.eq_zero_or_pos x with q | q
    · exact q
    · exact absurd h (nI_ne0 q h1)))
theorem z_if_eq (hx : p.tables.exec = Jvm.exec) (hb : c.code = cc) {x : Nat} {off : Int} {tgt : Nat} (h1 : x < 2 ^ 31) (hdg : decode cc pc = .ok (.ifCond .eq off, 3)) (ht : (pc : Int) + off = (tgt : Int))
    (kt : x = 0 → W p l e R s m args below meth c H locs cells slots Q (F0 m tgt ls rest)) (kf : x ≠ 0 → W p l e R s m args below meth c H locs cells slots Q (F0 m (pc + 3) ls rest)) : W p l e R s m args below meth c H locs cells slots Q (F0 m pc ls (.int (nI x) :: rest)) :=
  lv_if_eq hx hb hdg ht (fun h => kt (by
    rcases Nat.eq_zero_or_pos x with q | q
    · exact q
    · exact absurd h (nI_ne0 q h1))) (fun h => kf (fun q => h (by rw [q]; rfl)))
/-- behind a call -/
theorem z_back {st0 : List Value} {av : Array Value} {A0 A1 : Nat → Prop} {R' : Option Value → Heap → Prop} (hr : va_Run p l e R s m args below meth c H locs cells slots 0 0 (F0 m pc ls st0) rest (Qz A1 R' av) A1) (hS : va_S A0 H0 H locs) (hA : ∀ q, A1 q → A0 q)
    (kk : ∀ (v : Option Value) (H1 : Heap) (locs1 : List Loc), R' v H1 → (∀ q : Nat, q < H.size → ¬ A1 q → H1[q]? = H[q]?) → va_S A0 H0 H1 locs1 → W p l e R s m args below meth c H1 locs1 cells slots Q (F0 m (pc + 3) ls (v.toList ++ rest))) : W p l e R s m args below meth c H locs cells slots Q (F0 m pc ls st0) := by
  intro T hT X
  obtain ⟨v, st₀, t, T', L, h0, X', hL, e1, e2, ⟨⟨v', hv, hR⟩, hz, hk⟩, st⟩ := hr T hT X
  cases hv
  rw [h0] at hz hk
  obtain ⟨t2, a1, b1⟩ := kk v T'.heap (locs ++ L) (by rw [e1]; exact hR) (fun q h1 h2 => by rw [e1]; exact hk q h1 h2)
    ⟨Nat.le_trans hS.1 (by rw [e1]; exact hz), fun q h1 h2 => by rw [e1, hk q (Nat.lt_of_lt_of_le h1 hS.1) (fun z => h2 (hA q z))]; exact hS.2.1 q h1 h2, fun q hq => by
      rcases List.mem_append.mp hq with h | h
      · exact hS.2.2 q h
      · exact hA _ (hL q h)⟩ T' rfl X'
  exact ⟨t2, st t2 a1, b1⟩
theorem Mt.blind {av : List Value} {G : Gd} {ws : va_W} : FrameBlind (va_Pc av (fun U => va_P G.1 vwCl ws U.heap ∧ KK G U)) := fun a U g mk h => ⟨h.1, h.2.1, h.2.2.call g mk a⟩
/-- invokevirtual of a method with such a contract -/
theorem z_callV {st0 As : List Value} {A0 A1 : Nat → Prop} {R' : Option Value → Heap → Prop} {y : MethodName} {wd wd' Ts : List Cond} {fr lo b index nL maxL : Nat} {C own : String} {bytes : ByteArray} {ret : Option FieldType} {wc : va_W}
    (n : Nat) (S : CallFix p m c cc nL s args Ts own) (hK : KK G s) (hM : Mt l y wd fr lo (.ref b :: As) G wc A1 R') (hG : GoodIn Ts (wsV own index C y wd)) (hw : wd = Cond.code y bytes maxL ret :: wd')
    (hd : y.cls = C ∧ y.cls ≠ "java/lang/invoke/MethodHandle" ∧ y.cls ≠ "java/lang/invoke/VarHandle" ∧ (parseMethodDescriptor y.desc).map (fun d => d.parameters.length) = some n) (hR : fr + 1 ≤ R.frames ∧ 8 + (maxL + 11) + lo ≤ R.locals)
    (hP : va_P G.1 vwCl wc H) {ci : Nat} {fs : List Value} {q : vw_C} (q0 : Nat) (hq0 : wc[q0]? = some (b, .inr (ci, fs))) (hci : vwCl[ci]? = some q) (hqC : q.1 = C)
    (hn : As.length = n) (hls : ls.size = nL) (hst : st0 = As.reverse ++ .ref b :: rest) (hW : (rest.map fun v => v.category).sum ≤ 8) (hdg : decode cc pc = .ok (.invokevirtual index, 3)) (hf : cells ≤ R.cells ∧ slots ≤ R.slots) (hS : va_S A0 H0 H locs) (hA : ∀ q, A1 q → A0 q)
    (kk : ∀ (v : Option Value) (H1 : Heap) (locs1 : List Loc), R' v H1 → (∀ q : Nat, q < H.size → ¬ A1 q → H1[q]? = H[q]?) → va_S A0 H0 H1 locs1 → W p l e R s m args below meth c H1 locs1 cells slots Q (F0 m (pc + 3) ls (v.toList ++ rest))) : W p l e R s m args below meth c H locs cells slots Q (F0 m pc ls st0) := by
  subst hqC
  subst hst
  exact z_back (va_runV (As := As) (rest := rest) (n := n) S hM (cwV n S.2.2.2.2 hG hw rfl rfl hd hR) ⟨Mt.blind, va_recv hK.1 hP hci hq0, fun U hU hWm => ⟨rfl, by rw [hU]; exact hP, hK.warm hWm⟩⟩ rfl hn hls rfl (lv_room hW) hdg hf) hS hA kk
/-- invokestatic -/
theorem z_callS {st0 As : List Value} {A0 A1 : Nat → Prop} {R' : Option Value → Heap → Prop} {y : MethodName} {wd wd' Ts : List Cond} {fr lo index nL maxL : Nat} {own : String} {bytes : ByteArray} {ret : Option FieldType} {wc : va_W}
    (n : Nat) (S : CallFix p m c cc nL s args Ts own) (hK : KK G s) (hM : Mt l y wd fr lo As G wc A1 R') (hG : GoodIn Ts (va_wsS own index y wd)) (hw : wd = Cond.code y bytes maxL ret :: wd')
    (hd : y.cls ≠ "java/lang/invoke/MethodHandle" ∧ y.cls ≠ "java/lang/invoke/VarHandle" ∧ (parseMethodDescriptor y.desc).map (fun d => d.parameters.length) = some n) (hR : fr + 1 ≤ R.frames ∧ 8 + (maxL + 11) + lo ≤ R.locals)
    (hP : va_P G.1 vwCl wc H) (hn : As.length = n) (hls : ls.size = nL) (hst : st0 = As.reverse ++ rest) (hW : (rest.map fun v => v.category).sum ≤ 8) (hdg : decode cc pc = .ok (.invokestatic index, 3)) (hf : cells ≤ R.cells ∧ slots ≤ R.slots) (hS : va_S A0 H0 H locs) (hA : ∀ q, A1 q → A0 q)
    (kk : ∀ (v : Option Value) (H1 : Heap) (locs1 : List Loc), R' v H1 → (∀ q : Nat, q < H.size → ¬ A1 q → H1[q]? = H[q]?) → va_S A0 H0 H1 locs1 → W p l e R s m args below meth c H1 locs1 cells slots Q (F0 m (pc + 3) ls (v.toList ++ rest))) : W p l e R s m args below meth c H locs cells slots Q (F0 m pc ls st0) := by
  subst hst
  exact z_back (va_runS (As := As) (rest := rest) (n := n) S hM (va_cwS n S.2.2.2.2 hG hw rfl rfl hd hR) ⟨Mt.blind, fun U hU hWm => ⟨rfl, by rw [hU]; exact hP, hK.warm hWm⟩⟩ rfl hn hls rfl (lv_room hW) hdg hf) hS hA kk
theorem z_ialdN (hx : p.tables.exec = Jvm.exec) (hb : c.code = cc) (hK : KK G s) (hP : va_P G.1 vwCl ws H) (q0 : Nat) {n : Nat} {f : Nat → Nat} (ha : ws[q0]? = some (a, .inl (G.2.1, n, .inl (fN f)))) {j : Nat} (hj : j < n) (hn : n < 2 ^ 31) (hdg : decode cc pc = .ok (.iaload, 1))
    (kk : W p l e R s m args below meth c H locs cells slots Q (F0 m (pc + 1) ls (.int (nI (f j)) :: rest))) : W p l e R s m args below meth c H locs cells slots Q (F0 m pc ls (.int (nI j) :: .ref a :: rest)) := z_iald hx hb hK hP q0 ha hj hn hdg kk
theorem z_ialdO (hx : p.tables.exec = Jvm.exec) (hb : c.code = cc) (hK : KK G s) (hP : va_P G.1 vwCl ws H) (q0 : Nat) {n : Nat} {f : Nat → Option Nat} (ha : ws[q0]? = some (a, .inl (G.2.1, n, .inl (fO f)))) {j : Nat} (hj : j < n) (hn : n < 2 ^ 31) (hdg : decode cc pc = .ok (.iaload, 1))
    (kk : W p l e R s m args below meth c H locs cells slots Q (F0 m (pc + 1) ls (.int (lk (f j)) :: rest))) : W p l e R s m args below meth c H locs cells slots Q (F0 m pc ls (.int (nI j) :: .ref a :: rest)) := z_iald hx hb hK hP q0 ha hj hn hdg kk
theorem z_iastN (hx : p.tables.exec = Jvm.exec) (hb : c.code = cc) (hK : KK G s) (hP : va_P G.1 vwCl ws H) (hD : va_D A ws) (hS : va_S A H0 H locs) (q0 : Nat) {n : Nat} {f : Nat → Nat} (ha : ws[q0]? = some (a, .inl (G.2.1, n, .inl (fN f)))) {j x : Nat} (hj : j < n) (hn : n < 2 ^ 31) (hdg : decode cc pc = .ok (.iastore, 1))
    (kk : ∀ (H1 : Heap) (locs1 : List Loc), va_P G.1 vwCl (ws.set q0 (a, .inl (G.2.1, n, .inl (fN (va_up f j x))))) H1 → va_S A H0 H1 locs1 → W p l e R s m args below meth c H1 locs1 cells slots Q (F0 m (pc + 1) ls rest)) : W p l e R s m args below meth c H locs cells slots Q (F0 m pc ls (.int (nI x) :: .int (nI j) :: .ref a :: rest)) := by
  refine z_iast hx hb hK hP hD hS q0 ha hj hn hdg (fun H1 locs1 h1 h3 => kk H1 locs1 ?_ h3)
  rw [upd_fN] at h1
  exact h1
theorem z_iastO (hx : p.tables.exec = Jvm.exec) (hb : c.code = cc) (hK : KK G s) (hP : va_P G.1 vwCl ws H) (hD : va_D A ws) (hS : va_S A H0 H locs) (q0 : Nat) {n : Nat} {f : Nat → Option Nat} (ha : ws[q0]? = some (a, .inl (G.2.1, n, .inl (fO f)))) {j : Nat} {x : Option Nat} (hj : j < n) (hn : n < 2 ^ 31) (hdg : decode cc pc = .ok (.iastore, 1))
    (kk : ∀ (H1 : Heap) (locs1 : List Loc), va_P G.1 vwCl (ws.set q0 (a, .inl (G.2.1, n, .inl (fO (va_up f j x))))) H1 → va_S A H0 H1 locs1 → W p l e R s m args below meth c H1 locs1 cells slots Q (F0 m (pc + 1) ls rest)) : W p l e R s m args below meth c H locs cells slots Q (F0 m pc ls (.int (lk x) :: .int (nI j) :: .ref a :: rest)) := by
  refine z_iast hx hb hK hP hD hS q0 ha hj hn hdg (fun H1 locs1 h1 h3 => kk H1 locs1 ?_ h3)
  rw [upd_fO] at h1
  exact h1
/-- a counter that goes down, below 0 -/
theorem z_iincm {i nL k : Nat} {x : Nat} {lv lv' : List (Nat × Value)} (hx : p.tables.exec = Jvm.exec) (hb : c.code = cc) (hdg : decode cc pc = .ok (.iinc i (-1), 3)) (h : lv_has ls nL lv) (hk : lv[k]? = some (i, .int (nI x))) (hn : i < nL) (hl : (i, Value.int (lk (pr x))) :: lv.filter (fun q => !(q.1 == i) && !(q.1 + 1 == i && q.2.category == 2)) = lv')
    (kk : ∀ ls' : Array Slot, lv_has ls' nL lv' → W p l e R s m args below meth c H locs cells slots Q (F0 m (pc + 3) ls' rest)) : W p l e R s m args below meth c H locs cells slots Q (F0 m pc ls rest) :=
  lv_iinc hx hb hdg h hk (lk_pr' x) hn hl kk
theorem z_if_lt (hx : p.tables.exec = Jvm.exec) (hb : c.code = cc) {o : Option Nat} {off : Int} {tgt : Nat} (h1 : ∀ k, o = some k → k < 2 ^ 31) (hdg : decode cc pc = .ok (.ifCond .lt off, 3)) (ht : (pc : Int) + off = (tgt : Int))
    (kt : o = none → W p l e R s m args below meth c H locs cells slots Q (F0 m tgt ls rest)) (kf : ∀ k, o = some k → W p l e R s m args below meth c H locs cells slots Q (F0 m (pc + 3) ls rest)) : W p l e R s m args below meth c H locs cells slots Q (F0 m pc ls (.int (lk o) :: rest)) := by
  refine lv_if_lt hx hb hdg ht (fun h => ?_) (fun h => ?_)
  · cases o with
    | none => exact kt rfl
    | some k => exact absurd h (nI_pos (h1 k rfl))
  · cases o with
    | none => exact absurd (show (-1 : Int32) < 0 by decide) h
    | some k => exact kf k rfl
end ZR
/-- the judgement inside a method with such a contract -/
abbrev Wz (p : Program) (l : Launch) (e : Env) (fr lo : Nat) (s : State) (m : MethodId) (av : List Value) (below : List Frame) (meth : Method) (c : Code) (A : Nat → Prop) (R' : Option Value → Heap → Prop) (H : Heap) (locs : List Loc) (g : JFrame) : Prop :=
  W p l e { frames := fr, cells := 0, slots := 0, locals := lo } s m av.toArray below meth c H locs 0 0 (MQ below (Qz A R') av.toArray s 0 0 A) g
end
section
/-! the cells of a Threads, by its addresses: the order, the numbers by side, the threads by side, the size -/
def cT (G : Gd) (a : Nat → Nat) (p : Nat → Nat) (N : Nat → Nat → Int32) (B F : Nat → Nat → Option Nat) (n : Nat) : va_W :=
  [(a 0, .inr (2, [.ref (a 1), .ref (a 2), .ref (a 3), .ref (a 4), .int (nI n)])),
   (a 1, .inl (G.2.1, 300, .inl (fN p))),
   (a 2, .inl (G.2.2.1, 2, .inr (.inr (.inr (.inr (fun i => some (a (5 + i)))))))),
   (a 3, .inl (G.2.2.1, 2, .inr (.inr (.inr (.inr (fun i => some (a (7 + i)))))))),
   (a 4, .inl (G.2.2.1, 2, .inr (.inr (.inr (.inr (fun i => some (a (9 + i)))))))),
   (a 5, .inl (G.2.1, 300, .inl (N 0))), (a 6, .inl (G.2.1, 300, .inl (N 1))),
   (a 7, .inl (G.2.1, 300, .inl (fO (B 0)))), (a 8, .inl (G.2.1, 300, .inl (fO (B 1)))),
   (a 9, .inl (G.2.1, 300, .inl (fO (F 0)))), (a 10, .inl (G.2.1, 300, .inl (fO (F 1))))]
theorem cT_N {G : Gd} {a p : Nat → Nat} {N : Nat → Nat → Int32} {B F : Nat → Nat → Option Nat} {n d : Nat} {X : va_W} (hd : d < 2) : (cT G a p N B F n ++ X)[5 + d]? = some (a (5 + d), .inl (G.2.1, 300, .inl (N d))) := by
  rcases (show d = 0 ∨ d = 1 by omega) with rfl | rfl <;> rfl
theorem cT_B {G : Gd} {a p : Nat → Nat} {N : Nat → Nat → Int32} {B F : Nat → Nat → Option Nat} {n d : Nat} {X : va_W} (hd : d < 2) : (cT G a p N B F n ++ X)[7 + d]? = some (a (7 + d), .inl (G.2.1, 300, .inl (fO (B d)))) := by
  rcases (show d = 0 ∨ d = 1 by omega) with rfl | rfl <;> rfl
theorem cT_F {G : Gd} {a p : Nat → Nat} {N : Nat → Nat → Int32} {B F : Nat → Nat → Option Nat} {n d : Nat} {X : va_W} (hd : d < 2) : (cT G a p N B F n ++ X)[9 + d]? = some (a (9 + d), .inl (G.2.1, 300, .inl (fO (F d)))) := by
  rcases (show d = 0 ∨ d = 1 by omega) with rfl | rfl <;> rfl
theorem cT_sN {G : Gd} {a p : Nat → Nat} {N : Nat → Nat → Int32} {B F : Nat → Nat → Option Nat} {n d : Nat} {X : va_W} {f : Nat → Int32} (hd : d < 2) : (cT G a p N B F n ++ X).set (5 + d) (a (5 + d), .inl (G.2.1, 300, .inl f)) = cT G a p (va_up N d f) B F n ++ X := by
  rcases (show d = 0 ∨ d = 1 by omega) with rfl | rfl <;> rfl
theorem cT_sB {G : Gd} {a p : Nat → Nat} {N : Nat → Nat → Int32} {B F : Nat → Nat → Option Nat} {n d : Nat} {X : va_W} {f : Nat → Option Nat} (hd : d < 2) : (cT G a p N B F n ++ X).set (7 + d) (a (7 + d), .inl (G.2.1, 300, .inl (fO f))) = cT G a p N (va_up B d f) F n ++ X := by
  rcases (show d = 0 ∨ d = 1 by omega) with rfl | rfl <;> rfl
theorem cT_sF {G : Gd} {a p : Nat → Nat} {N : Nat → Nat → Int32} {B F : Nat → Nat → Option Nat} {n d : Nat} {X : va_W} {f : Nat → Option Nat} (hd : d < 2) : (cT G a p N B F n ++ X).set (9 + d) (a (9 + d), .inl (G.2.1, 300, .inl (fO f))) = cT G a p N B (va_up F d f) n ++ X := by
  rcases (show d = 0 ∨ d = 1 by omega) with rfl | rfl <;> rfl
/-- the cells of a Spread -/
def cS (G : Gd) (a : Nat → Nat) (q r : Nat → Nat) (V : Nat → Nat → Nat) (n : Nat) : va_W :=
  [(a 11, .inr (1, [.ref (a 12), .int (nI n), .ref (a 13), .ref (a 14)])),
   (a 12, .inl (G.2.1, 300, .inl (fN q))), (a 13, .inl (G.2.1, 300, .inl (fN r))),
   (a 14, .inl (G.2.2.1, 2, .inr (.inr (.inr (.inr (fun i => some (a (15 + i)))))))),
   (a 15, .inl (G.2.1, 300, .inl (fN (V 0)))), (a 16, .inl (G.2.1, 300, .inl (fN (V 1))))]
theorem cS_V {G : Gd} {a p : Nat → Nat} {N : Nat → Nat → Int32} {B F : Nat → Nat → Option Nat} {n : Nat} {q r : Nat → Nat} {V : Nat → Nat → Nat} {k d : Nat} (hd : d < 2) : (cT G a p N B F n ++ cS G a q r V k)[15 + d]? = some (a (15 + d), .inl (G.2.1, 300, .inl (fN (V d)))) := by
  rcases (show d = 0 ∨ d = 1 by omega) with rfl | rfl <;> rfl
theorem cS_sV {G : Gd} {a p : Nat → Nat} {N : Nat → Nat → Int32} {B F : Nat → Nat → Option Nat} {n : Nat} {q r : Nat → Nat} {V : Nat → Nat → Nat} {k d : Nat} {f : Nat → Nat} (hd : d < 2) : (cT G a p N B F n ++ cS G a q r V k).set (15 + d) (a (15 + d), .inl (G.2.1, 300, .inl (fN f))) = cT G a p N B F n ++ cS G a q r (va_up V d f) k := by
  rcases (show d = 0 ∨ d = 1 by omega) with rfl | rfl <;> rfl
/-- the cells of a Matching -/
def cM (G : Gd) (a : Nat → Nat) (Hd : Nat → Nat → Nat) (C : Nat → Nat → Option Nat) (w : Nat → Nat) (n : Nat) (cs : Nat → Option Nat) (sn : Nat → Nat) : va_W :=
  [(a 17, .inr (0, [.ref (a 18), .ref (a 21), .ref (a 24), .int (nI n), .ref (a 25), .ref (a 26)])),
   (a 18, .inl (G.2.2.1, 2, .inr (.inr (.inr (.inr (fun i => some (a (19 + i)))))))),
   (a 19, .inl (G.2.1, 300, .inl (fN (Hd 0)))), (a 20, .inl (G.2.1, 300, .inl (fN (Hd 1)))),
   (a 21, .inl (G.2.2.1, 2, .inr (.inr (.inr (.inr (fun i => some (a (22 + i)))))))),
   (a 22, .inl (G.2.1, 300, .inl (fO (C 0)))), (a 23, .inl (G.2.1, 300, .inl (fO (C 1)))),
   (a 24, .inl (G.2.1, 300, .inl (fN w))), (a 25, .inl (G.2.1, 300, .inl (fO cs))), (a 26, .inl (G.2.1, 300, .inl (fN sn)))]
/-- the object itself -/
def cP (a : Nat → Nat) : va_W := [(a 27, .inr (3, [.ref (a 0), .ref (a 11), .ref (a 17)]))]
/-- the cells of the model -/
def cR (G : Gd) (b : Nat → Nat) (n : Nat) (lf rt : Nat → Int32) (lo ro : Nat → Nat) (fo no : Nat → Option Nat) (lm rm : Nat) (pa : Nat → Option Nat) (mt : Nat → Int32) (q : Nat → Nat) (cf : Nat → Option Nat) (fa : Nat → Nat) (kp : Nat → Int32) : va_W :=
  [(b 0, .inr (4, [.int (nI n), .ref (b 1), .ref (b 2), .ref (b 3), .ref (b 4), .ref (b 5), .ref (b 6), .int (nI lm), .int (nI rm), .ref (b 7), .ref (b 8), .ref (b 9), .ref (b 10), .ref (b 11), .ref (b 12)])),
   (b 1, .inl (G.2.1, 300, .inl lf)), (b 2, .inl (G.2.1, 300, .inl rt)), (b 3, .inl (G.2.1, 300, .inl (fN lo))), (b 4, .inl (G.2.1, 300, .inl (fN ro))),
   (b 5, .inl (G.2.1, 300, .inl (fO fo))), (b 6, .inl (G.2.1, 300, .inl (fO no))), (b 7, .inl (G.2.1, 300, .inl (fO pa))), (b 8, .inl (G.2.2.2, 300, .inl mt)),
   (b 9, .inl (G.2.1, 300, .inl (fN q))), (b 10, .inl (G.2.1, 300, .inl (fO cf))), (b 11, .inl (G.2.1, 300, .inl (fN fa))), (b 12, .inl (G.2.1, 300, .inl kp))]
end
section
/-! what the reading methods of Threads answer: K i is the number of the pair at place i on a side -/
def firstR (K : Nat → Int32) (n : Nat) (v : Int32) (o : Option Nat) : Prop :=
  (o = none ∧ ∀ i, i < n → ¬ K i = v) ∨ ∃ i, o = some i ∧ i < n ∧ K i = v ∧ ∀ j, j < i → ¬ K j = v
def lastR (K : Nat → Int32) (n : Nat) (v : Int32) (o : Option Nat) : Prop :=
  (o = none ∧ ∀ i, i < n → ¬ K i = v) ∨ ∃ i, o = some i ∧ i < n ∧ K i = v ∧ ∀ j, i < j → j < n → ¬ K j = v
def placeR (K0 K1 : Nat → Int32) (n : Nat) (x y : Int32) (o : Option Nat) : Prop :=
  (o = none ∧ ∀ i, i < n → ¬ (K0 i = x ∧ K1 i = y)) ∨ ∃ i, o = some i ∧ i < n ∧ (K0 i = x ∧ K1 i = y) ∧ ∀ j, j < i → ¬ (K0 j = x ∧ K1 j = y)
def prevR (K : Nat → Int32) (i : Nat) (o : Option Nat) : Prop :=
  (o = none ∧ ∀ j, j < i → ¬ K j = K i) ∨ ∃ j, o = some j ∧ j < i ∧ K j = K i ∧ ∀ k, j < k → k < i → ¬ K k = K i
def nextR (K : Nat → Int32) (n i : Nat) (o : Option Nat) : Prop :=
  (o = none ∧ ∀ j, i < j → j < n → ¬ K j = K i) ∨ ∃ j, o = some j ∧ i < j ∧ j < n ∧ K j = K i ∧ ∀ k, i < k → k < j → ¬ K k = K i
/-- the links of a side are those of the order -/
def lnkB (p : Nat → Nat) (K : Nat → Int32) (Bd : Nat → Option Nat) (n : Nat) : Prop := ∀ i, i < n → ∃ o, Bd (p i) = Option.map p o ∧ prevR K i o
def lnkF (p : Nat → Nat) (K : Nat → Int32) (Fd : Nat → Option Nat) (n : Nat) : Prop := ∀ i, i < n → ∃ o, Fd (p i) = Option.map p o ∧ nextR K n i o
/-- how many of the first n have the number -/
def cnt (K : Nat → Int32) (v : Int32) : Nat → Nat
  | 0 => 0
  | n + 1 => cnt K v n + (if K n = v then 1 else 0)
theorem cnt_le (K : Nat → Int32) (v : Int32) (n : Nat) : cnt K v n ≤ n := by
  induction n with
  | zero => exact Nat.le_refl _
  | succ n ih => simp only [cnt]; split <;> omega
theorem cnt_hit {K : Nat → Int32} {v : Int32} {n : Nat} (h : K n = v) : cnt K v (n + 1) = cnt K v n + 1 := by simp [cnt, h]
theorem cnt_miss {K : Nat → Int32} {v : Int32} {n : Nat} (h : ¬ K n = v) : cnt K v (n + 1) = cnt K v n := by simp [cnt, h]
theorem cnt_skip {K : Nat → Int32} {v : Int32} {i j : Nat} (hij : i ≤ j) (h : ∀ k, i ≤ k → k < j → ¬ K k = v) : cnt K v j = cnt K v i := by
  induction j with
  | zero => rw [show i = 0 by omega]
  | succ j ih =>
    rcases Nat.lt_or_ge j i with q | q
    · rw [show i = j + 1 by omega]
    · rw [cnt_miss (h j q (by omega))]
      exact ih q (fun k h1 h2 => h k h1 (by omega))
theorem cnt_mono {K : Nat → Int32} {v : Int32} {i j : Nat} (hij : i ≤ j) : cnt K v i ≤ cnt K v j := by
  induction j with
  | zero => rw [show i = 0 by omega]; exact Nat.le_refl _
  | succ j ih =>
    rcases Nat.lt_or_ge j i with q | q
    · rw [show i = j + 1 by omega]; exact Nat.le_refl _
    · have := ih q
      simp only [cnt]
      omega
theorem cnt_lt {K : Nat → Int32} {v : Int32} {i j : Nat} (hij : i < j) (h : K i = v) : cnt K v i < cnt K v j := by
  have := cnt_mono (K := K) (v := v) (show i + 1 ≤ j by omega)
  rw [cnt_hit h] at this
  omega
/-- on the way along a thread: c pairs are behind, o is the next one -/
def stR (K : Nat → Int32) (n : Nat) (v : Int32) (c : Nat) (o : Option Nat) : Prop :=
  (o = none ∧ c = cnt K v n) ∨ ∃ j, o = some j ∧ j < n ∧ K j = v ∧ c = cnt K v j
theorem stR_first {K : Nat → Int32} {n : Nat} {v : Int32} {o : Option Nat} (h : firstR K n v o) : stR K n v 0 o := by
  rcases h with ⟨h1, h2⟩ | ⟨i, h1, h2, h3, h4⟩
  · exact Or.inl ⟨h1, (cnt_skip (Nat.zero_le n) (fun k _ hk => h2 k hk)).symm⟩
  · exact Or.inr ⟨i, h1, h2, h3, (cnt_skip (Nat.zero_le i) (fun k _ hk => h4 k hk)).symm⟩
theorem stR_next {K : Nat → Int32} {n j : Nat} {v : Int32} {o : Option Nat} (hj : j < n) (hv : K j = v) (h : nextR K n j o) : stR K n v (cnt K v j + 1) o := by
  rcases h with ⟨h1, h2⟩ | ⟨i, h1, h2, h3, h4, h5⟩
  · refine Or.inl ⟨h1, ?_⟩
    rw [← cnt_hit hv]
    exact (cnt_skip hj (fun k a b => by rw [← hv]; exact h2 k (by omega) b)).symm
  · refine Or.inr ⟨i, h1, h3, h4.trans hv, ?_⟩
    rw [← cnt_hit hv]
    exact (cnt_skip h2 (fun k a b => by rw [← hv]; exact h5 k (by omega) b)).symm
/-- pair number x of a thread -/
def nthR (K : Nat → Int32) (n : Nat) (v x : Int32) (o : Option Nat) : Prop :=
  (o = none ∧ ∀ j, j < n → K j = v → ¬ x = nI (cnt K v j)) ∨ ∃ j, o = some j ∧ j < n ∧ K j = v ∧ x = nI (cnt K v j)
/-- how many different ones among the first n -/
def dis (K : Nat → Int32) : Nat → Nat
  | 0 => 0
  | n + 1 => dis K n + (if ∀ j, j < n → ¬ K j = K n then 1 else 0)
theorem mp_lt {p : Nat → Nat} {o : Option Nat} {n k : Nat} (hp : ∀ i, i < 300 → p i < 300) (hn : n ≤ 300) (ho : ∀ j, o = some j → j < n) (h : Option.map p o = some k) : k < 300 := by
  obtain ⟨j, h1, rfl⟩ := Option.map_eq_some_iff.mp h
  exact hp j (by have := ho j h1; omega)
theorem firstR_lt {K : Nat → Int32} {n : Nat} {v : Int32} {o : Option Nat} (h : firstR K n v o) : ∀ j, o = some j → j < n := by
  intro j hj
  rcases h with ⟨h1, -⟩ | ⟨i, h1, h2, -⟩
  · rw [h1] at hj; cases hj
  · rw [h1] at hj; cases hj; exact h2
theorem prevR_lt {K : Nat → Int32} {i : Nat} {o : Option Nat} (h : prevR K i o) : ∀ j, o = some j → j < i := by
  intro j hj
  rcases h with ⟨h1, -⟩ | ⟨k, h1, h2, -⟩
  · rw [h1] at hj; cases hj
  · rw [h1] at hj; cases hj; exact h2
theorem nextR_lt {K : Nat → Int32} {n i : Nat} {o : Option Nat} (h : nextR K n i o) : ∀ j, o = some j → j < n := by
  intro j hj
  rcases h with ⟨h1, -⟩ | ⟨k, h1, h2, h3, -⟩
  · rw [h1] at hj; cases hj
  · rw [h1] at hj; cases hj; exact h3
theorem stR_lt {K : Nat → Int32} {n c : Nat} {v : Int32} {o : Option Nat} (h : stR K n v c o) : ∀ j, o = some j → j < n := by
  intro j hj
  rcases h with ⟨h1, -⟩ | ⟨i, h1, h2, -⟩
  · rw [h1] at hj; cases hj
  · rw [h1] at hj; cases hj; exact h2
end
section
set_option maxHeartbeats 4000000 in
set_option maxRecDepth 100000 in
/-- Threads.firstOf: the first slot of a number, or NONE -/
theorem c_firstOf (l : Launch) (G : Gd) (a p : Nat → Nat) (N : Nat → Nat → Int32) (B F : Nat → Nat → Option Nat) (n : Nat) (d : Nat) (v : Int32) (hd : d < 2) (hn : n ≤ 300) (hp : ∀ i, i < 300 → p i < 300) : Mt l yX2_firstOf wsX2_firstOf 0 0 [.ref (a 0), .int (nI d), .int (v)] G (cT G a p N B F n ++ []) (fun _ => False) (fun r _ => ∃ o : Option Nat, r = some (.int (lk (Option.map p o))) ∧ firstR (fun i => N d (p i)) n v o) := by
  refine Mt.mk cX2_firstOf 4 (some .int) (by decide) rfl (Nat.le_of_ble_eq_true rfl) ?_
  intro p9 e s m below meth c ls hx hb hr hml hts hown hlocks hP hK hl
  have hinX2 : ∀ w ∈ wsX20, w ∈ wsX2_firstOf := by decide +kernel
  have hS : va_S (fun _ => False) s.heap s.heap [] := va_S.rf
  have hl : lv_has ls 4 [(0, .ref (a 0)), (1, .int (nI d)), (2, .int (v))] := hl
  have hown : s.vm.findClass RX2 = some m.cls := hown
  refine lv_iconst (v := nI 0) hx hb dX2_firstOf_0 rfl ?_
  refine lv_istore_n (lv' := [(3, .int (nI 0)), (0, .ref (a 0)), (1, .int (nI d)), (2, .int (v))]) hx hb dX2_firstOf_1 rfl hl (by decide) rfl (fun ls hl => ?_)
  have loop : ∀ (k9 : Nat) (i : Nat) (H : Heap) (locs : List Loc) (ls : Array Slot), n < i + k9 → i ≤ n → (∀ j, j < i → ¬ N d (p j) = v) → va_P G.1 vwCl (cT G a p N B F n ++ []) H → va_S (fun _ => False) s.heap H locs → lv_has ls 4 [(3, .int (nI i)), (0, .ref (a 0)), (1, .int (nI d)), (2, .int (v))] → Wz p9 l e 0 0 s m [.ref (a 0), .int (nI d), .int (v)] below meth c (fun _ => False) (fun r _ => ∃ o : Option Nat, r = some (.int (lk (Option.map p o))) ∧ firstR (fun i => N d (p i)) n v o) H locs (F0 m 2 ls []) := by
    intro k9
    induction k9 with
    | zero =>
      intro i H locs ls hfuel hi hinv hP hS hl
      exact absurd hfuel (by omega)
    | succ k9 ih =>
      intro i H locs ls hfuel hi hinv hP hS hl
      refine lv_iload_n hx hb dX2_firstOf_2 rfl (lv_at hl 0 rfl) ?_
      refine lv_aload_n hx hb dX2_firstOf_3 rfl (lv_at hl 1 rfl) ?_
      refine va_get (D := G.1) (ci := 2) (v := .int (nI n)) (C := RX2) (T := TX2) (N := 5) hx hb hts hinX2 hown hK.1 hP 0 rfl rfl 4 (by decide) (hts (.fieldLink RX2 26 "PairThreads$Threads" "size" "I") (by decide +kernel)) (fun _ h9 => h9) rfl dX2_firstOf_4 ?_
      refine z_icmp_ge (tgt := 40) hx hb (by omega) (by omega) dX2_firstOf_7 (by decide) (fun hc1 => ?_) (fun hc1 => ?_)
      · refine lv_iconst (v := (-1)) hx hb dX2_firstOf_40 rfl ?_
        refine z_top (y := lk (Option.map p none)) (rfl) ?_
        exact z_iret hx hb hr hlocks ⟨none, rfl, Or.inl ⟨rfl, fun j hj => hinv j (by omega)⟩⟩ hS dX2_firstOf_41
      · have hpi := hp i (by omega)
        refine lv_aload_n hx hb dX2_firstOf_10 rfl (lv_at hl 1 rfl) ?_
        refine va_get (D := G.1) (ci := 2) (v := .ref (a 2)) (C := RX2) (T := TX2) (N := 5) hx hb hts hinX2 hown hK.1 hP 0 rfl rfl 1 (by decide) (hts (.fieldLink RX2 17 "PairThreads$Threads" "number" "[[I") (by decide +kernel)) (fun _ h9 => h9) rfl dX2_firstOf_11 ?_
        refine lv_iload_n hx hb dX2_firstOf_14 rfl (lv_at hl 2 rfl) ?_
        refine z_ald hx hb hK hP 2 rfl (j := d) (by omega) (by decide) dX2_firstOf_15 ?_
        refine lv_aload_n hx hb dX2_firstOf_16 rfl (lv_at hl 1 rfl) ?_
        refine va_get (D := G.1) (ci := 2) (v := .ref (a 1)) (C := RX2) (T := TX2) (N := 5) hx hb hts hinX2 hown hK.1 hP 0 rfl rfl 0 (by decide) (hts (.fieldLink RX2 9 "PairThreads$Threads" "order" "[I") (by decide +kernel)) (fun _ h9 => h9) rfl dX2_firstOf_17 ?_
        refine lv_iload_n hx hb dX2_firstOf_20 rfl (lv_at hl 0 rfl) ?_
        refine z_ialdN hx hb hK hP 1 rfl (j := i) (by omega) (by decide) dX2_firstOf_21 ?_
        refine z_iald hx hb hK hP (5 + d) (cT_N hd) (j := p i) (by omega) (by decide) dX2_firstOf_22 ?_
        refine lv_iload_n hx hb dX2_firstOf_23 rfl (lv_at hl 3 rfl) ?_
        refine lv_icmp_ne (tgt := 34) hx hb dX2_firstOf_24 (by decide) (fun hc2 => ?_) (fun hc2 => ?_)
        · refine z_iinc (lv' := [(3, .int (nI (i + 1))), (0, .ref (a 0)), (1, .int (nI d)), (2, .int (v))]) hx hb dX2_firstOf_34 hl (k := 0) rfl (by decide) rfl (fun ls hl => ?_)
          refine lv_goto (tgt := 2) hx hb dX2_firstOf_37 (by decide) ?_
          exact ih (i + 1) H locs ls (by omega) (by omega) (fun j hj => by rcases Nat.lt_succ_iff_lt_or_eq.mp hj with q | q; exact hinv j q; exact q ▸ hc2) hP hS (lv_sub hl [0, 1, 2, 3] rfl)
        · refine lv_aload_n hx hb dX2_firstOf_27 rfl (lv_at hl 1 rfl) ?_
          refine va_get (D := G.1) (ci := 2) (v := .ref (a 1)) (C := RX2) (T := TX2) (N := 5) hx hb hts hinX2 hown hK.1 hP 0 rfl rfl 0 (by decide) (hts (.fieldLink RX2 9 "PairThreads$Threads" "order" "[I") (by decide +kernel)) (fun _ h9 => h9) rfl dX2_firstOf_28 ?_
          refine lv_iload_n hx hb dX2_firstOf_31 rfl (lv_at hl 0 rfl) ?_
          refine z_ialdN hx hb hK hP 1 rfl (j := i) (by omega) (by decide) dX2_firstOf_32 ?_
          refine z_top (y := lk (Option.map p (some i))) (rfl) ?_
          exact z_iret hx hb hr hlocks ⟨some i, rfl, Or.inr ⟨i, rfl, by omega, hc2, hinv⟩⟩ hS dX2_firstOf_33
  exact loop (n + 1) 0 _ _ ls (by omega) (by omega) (fun j hj => absurd hj (Nat.not_lt_zero j)) hP hS (lv_sub hl [0, 1, 2, 3] rfl)

set_option maxHeartbeats 4000000 in
set_option maxRecDepth 100000 in
/-- Threads.placeOf: the place of a pair, or NONE -/
theorem c_placeOf (l : Launch) (G : Gd) (a p : Nat → Nat) (N : Nat → Nat → Int32) (B F : Nat → Nat → Option Nat) (n : Nat) (x y : Int32) (hn : n ≤ 300) (hp : ∀ i, i < 300 → p i < 300) : Mt l yX2_placeOf wsX2_placeOf 0 0 [.ref (a 0), .int (x), .int (y)] G (cT G a p N B F n ++ []) (fun _ => False) (fun r _ => ∃ o : Option Nat, r = some (.int (lk o)) ∧ placeR (fun i => N 0 (p i)) (fun i => N 1 (p i)) n x y o) := by
  refine Mt.mk cX2_placeOf 5 (some .int) (by decide) rfl (Nat.le_of_ble_eq_true rfl) ?_
  intro p9 e s m below meth c ls hx hb hr hml hts hown hlocks hP hK hl
  have hinX2 : ∀ w ∈ wsX20, w ∈ wsX2_placeOf := by decide +kernel
  have hS : va_S (fun _ => False) s.heap s.heap [] := va_S.rf
  have hl : lv_has ls 5 [(0, .ref (a 0)), (1, .int (x)), (2, .int (y))] := hl
  have hown : s.vm.findClass RX2 = some m.cls := hown
  refine lv_iconst (v := nI 0) hx hb dX2_placeOf_0 rfl ?_
  refine lv_istore_n (lv' := [(3, .int (nI 0)), (0, .ref (a 0)), (1, .int (x)), (2, .int (y))]) hx hb dX2_placeOf_1 rfl hl (by decide) rfl (fun ls hl => ?_)
  have loop : ∀ (k9 : Nat) (i : Nat) (H : Heap) (locs : List Loc) (ls : Array Slot), n < i + k9 → i ≤ n → (∀ j, j < i → ¬ (N 0 (p j) = x ∧ N 1 (p j) = y)) → va_P G.1 vwCl (cT G a p N B F n ++ []) H → va_S (fun _ => False) s.heap H locs → lv_has ls 5 [(3, .int (nI i)), (0, .ref (a 0)), (1, .int (x)), (2, .int (y))] → Wz p9 l e 0 0 s m [.ref (a 0), .int (x), .int (y)] below meth c (fun _ => False) (fun r _ => ∃ o : Option Nat, r = some (.int (lk o)) ∧ placeR (fun i => N 0 (p i)) (fun i => N 1 (p i)) n x y o) H locs (F0 m 2 ls []) := by
    intro k9
    induction k9 with
    | zero =>
      intro i H locs ls hfuel hi hinv hP hS hl
      exact absurd hfuel (by omega)
    | succ k9 ih =>
      intro i H locs ls hfuel hi hinv hP hS hl
      refine lv_iload_n hx hb dX2_placeOf_2 rfl (lv_at hl 0 rfl) ?_
      refine lv_aload_n hx hb dX2_placeOf_3 rfl (lv_at hl 1 rfl) ?_
      refine va_get (D := G.1) (ci := 2) (v := .int (nI n)) (C := RX2) (T := TX2) (N := 5) hx hb hts hinX2 hown hK.1 hP 0 rfl rfl 4 (by decide) (hts (.fieldLink RX2 26 "PairThreads$Threads" "size" "I") (by decide +kernel)) (fun _ h9 => h9) rfl dX2_placeOf_4 ?_
      refine z_icmp_ge (tgt := 52) hx hb (by omega) (by omega) dX2_placeOf_7 (by decide) (fun hc1 => ?_) (fun hc1 => ?_)
      · refine lv_iconst (v := (-1)) hx hb dX2_placeOf_52 rfl ?_
        refine z_top (y := lk none) (rfl) ?_
        exact z_iret hx hb hr hlocks ⟨none, rfl, Or.inl ⟨rfl, fun j hj => hinv j (by omega)⟩⟩ hS dX2_placeOf_53
      · have hpi := hp i (by omega)
        refine lv_aload_n hx hb dX2_placeOf_10 rfl (lv_at hl 1 rfl) ?_
        refine va_get (D := G.1) (ci := 2) (v := .ref (a 1)) (C := RX2) (T := TX2) (N := 5) hx hb hts hinX2 hown hK.1 hP 0 rfl rfl 0 (by decide) (hts (.fieldLink RX2 9 "PairThreads$Threads" "order" "[I") (by decide +kernel)) (fun _ h9 => h9) rfl dX2_placeOf_11 ?_
        refine lv_iload_n hx hb dX2_placeOf_14 rfl (lv_at hl 0 rfl) ?_
        refine z_ialdN hx hb hK hP 1 rfl (j := i) (by omega) (by decide) dX2_placeOf_15 ?_
        refine lv_istore (lv' := [(4, .int (nI (p i))), (3, .int (nI i)), (0, .ref (a 0)), (1, .int (x)), (2, .int (y))]) hx hb dX2_placeOf_16 hl (by decide) rfl (fun ls hl => ?_)
        refine lv_aload_n hx hb dX2_placeOf_18 rfl (lv_at hl 2 rfl) ?_
        refine va_get (D := G.1) (ci := 2) (v := .ref (a 2)) (C := RX2) (T := TX2) (N := 5) hx hb hts hinX2 hown hK.1 hP 0 rfl rfl 1 (by decide) (hts (.fieldLink RX2 17 "PairThreads$Threads" "number" "[[I") (by decide +kernel)) (fun _ h9 => h9) rfl dX2_placeOf_19 ?_
        refine lv_iconst (v := nI 0) hx hb dX2_placeOf_22 rfl ?_
        refine z_ald hx hb hK hP 2 rfl (j := 0) (by omega) (by decide) dX2_placeOf_23 ?_
        refine lv_iload hx hb dX2_placeOf_24 (lv_at hl 0 rfl) ?_
        refine z_iald hx hb hK hP 5 rfl (j := p i) (by omega) (by decide) dX2_placeOf_26 ?_
        refine lv_iload_n hx hb dX2_placeOf_27 rfl (lv_at hl 3 rfl) ?_
        refine lv_icmp_ne (tgt := 46) hx hb dX2_placeOf_28 (by decide) (fun hc2 => ?_) (fun hc2 => ?_)
        · refine z_iinc (lv' := [(3, .int (nI (i + 1))), (4, .int (nI (p i))), (0, .ref (a 0)), (1, .int (x)), (2, .int (y))]) hx hb dX2_placeOf_46 hl (k := 1) rfl (by decide) rfl (fun ls hl => ?_)
          refine lv_goto (tgt := 2) hx hb dX2_placeOf_49 (by decide) ?_
          exact ih (i + 1) H locs ls (by omega) (by omega) (fun j hj => by rcases Nat.lt_succ_iff_lt_or_eq.mp hj with q | q; exact hinv j q; exact q ▸ (fun q2 => hc2 q2.1)) hP hS (lv_sub hl [0, 2, 3, 4] rfl)
        · refine lv_aload_n hx hb dX2_placeOf_31 rfl (lv_at hl 2 rfl) ?_
          refine va_get (D := G.1) (ci := 2) (v := .ref (a 2)) (C := RX2) (T := TX2) (N := 5) hx hb hts hinX2 hown hK.1 hP 0 rfl rfl 1 (by decide) (hts (.fieldLink RX2 17 "PairThreads$Threads" "number" "[[I") (by decide +kernel)) (fun _ h9 => h9) rfl dX2_placeOf_32 ?_
          refine lv_iconst (v := nI 1) hx hb dX2_placeOf_35 rfl ?_
          refine z_ald hx hb hK hP 2 rfl (j := 1) (by omega) (by decide) dX2_placeOf_36 ?_
          refine lv_iload hx hb dX2_placeOf_37 (lv_at hl 0 rfl) ?_
          refine z_iald hx hb hK hP 6 rfl (j := p i) (by omega) (by decide) dX2_placeOf_39 ?_
          refine lv_iload_n hx hb dX2_placeOf_40 rfl (lv_at hl 4 rfl) ?_
          refine lv_icmp_ne (tgt := 46) hx hb dX2_placeOf_41 (by decide) (fun hc3 => ?_) (fun hc3 => ?_)
          · refine z_iinc (lv' := [(3, .int (nI (i + 1))), (4, .int (nI (p i))), (0, .ref (a 0)), (1, .int (x)), (2, .int (y))]) hx hb dX2_placeOf_46 hl (k := 1) rfl (by decide) rfl (fun ls hl => ?_)
            refine lv_goto (tgt := 2) hx hb dX2_placeOf_49 (by decide) ?_
            exact ih (i + 1) H locs ls (by omega) (by omega) (fun j hj => by rcases Nat.lt_succ_iff_lt_or_eq.mp hj with q | q; exact hinv j q; exact q ▸ (fun q2 => hc3 q2.2)) hP hS (lv_sub hl [0, 2, 3, 4] rfl)
          · refine lv_iload_n hx hb dX2_placeOf_44 rfl (lv_at hl 1 rfl) ?_
            refine z_top (y := lk (some i)) (rfl) ?_
            exact z_iret hx hb hr hlocks ⟨some i, rfl, Or.inr ⟨i, rfl, by omega, ⟨hc2, hc3⟩, hinv⟩⟩ hS dX2_placeOf_45
  exact loop (n + 1) 0 _ _ ls (by omega) (by omega) (fun j hj => absurd hj (Nat.not_lt_zero j)) hP hS (lv_sub hl [0, 1, 2, 3] rfl)

set_option maxHeartbeats 4000000 in
set_option maxRecDepth 100000 in
/-- Threads.lastOf: the last slot of a number, or NONE -/
theorem c_lastOf (l : Launch) (G : Gd) (a p : Nat → Nat) (N : Nat → Nat → Int32) (B F : Nat → Nat → Option Nat) (n : Nat) (d : Nat) (v : Int32) (hd : d < 2) (hn : n ≤ 300) (hp : ∀ i, i < 300 → p i < 300) : Mt l yX2_lastOf wsX2_lastOf 0 0 [.ref (a 0), .int (nI d), .int (v)] G (cT G a p N B F n ++ []) (fun _ => False) (fun r _ => ∃ o : Option Nat, r = some (.int (lk (Option.map p o))) ∧ lastR (fun i => N d (p i)) n v o) := by
  refine Mt.mk cX2_lastOf 4 (some .int) (by decide) rfl (Nat.le_of_ble_eq_true rfl) ?_
  intro p9 e s m below meth c ls hx hb hr hml hts hown hlocks hP hK hl
  have hinX2 : ∀ w ∈ wsX20, w ∈ wsX2_lastOf := by decide +kernel
  have hS : va_S (fun _ => False) s.heap s.heap [] := va_S.rf
  have hl : lv_has ls 4 [(0, .ref (a 0)), (1, .int (nI d)), (2, .int (v))] := hl
  have hown : s.vm.findClass RX2 = some m.cls := hown
  refine lv_aload_n hx hb dX2_lastOf_0 rfl (lv_at hl 0 rfl) ?_
  refine va_get (D := G.1) (ci := 2) (v := .int (nI n)) (C := RX2) (T := TX2) (N := 5) hx hb hts hinX2 hown hK.1 hP 0 rfl rfl 4 (by decide) (hts (.fieldLink RX2 26 "PairThreads$Threads" "size" "I") (by decide +kernel)) (fun _ h9 => h9) rfl dX2_lastOf_1 ?_
  refine lv_iconst (v := nI 1) hx hb dX2_lastOf_4 rfl ?_
  refine lv_isub hx hb dX2_lastOf_5 ?_
  refine z_top (y := lk (pr n)) (lk_pr _) ?_
  refine lv_istore_n (lv' := [(3, .int (lk (pr n))), (0, .ref (a 0)), (1, .int (nI d)), (2, .int (v))]) hx hb dX2_lastOf_6 rfl hl (by decide) rfl (fun ls hl => ?_)
  have loop : ∀ (k9 : Nat) (k : Nat) (H : Heap) (locs : List Loc) (ls : Array Slot), k < k9 → k ≤ n → (∀ j, k ≤ j → j < n → ¬ N d (p j) = v) → va_P G.1 vwCl (cT G a p N B F n ++ []) H → va_S (fun _ => False) s.heap H locs → lv_has ls 4 [(3, .int (lk (pr k))), (0, .ref (a 0)), (1, .int (nI d)), (2, .int (v))] → Wz p9 l e 0 0 s m [.ref (a 0), .int (nI d), .int (v)] below meth c (fun _ => False) (fun r _ => ∃ o : Option Nat, r = some (.int (lk (Option.map p o))) ∧ lastR (fun i => N d (p i)) n v o) H locs (F0 m 7 ls []) := by
    intro k9
    induction k9 with
    | zero =>
      intro k H locs ls hfuel hk hinv hP hS hl
      exact absurd hfuel (by omega)
    | succ k9 ih =>
      intro k H locs ls hfuel hk hinv hP hS hl
      have hpk : ∀ i, pr k = some i → k = i + 1 := fun i hi => by cases k with | zero => cases hi | succ z => cases hi; rfl
      refine lv_iload_n hx hb dX2_lastOf_7 rfl (lv_at hl 0 rfl) ?_
      refine z_if_lt (tgt := 41) hx hb (fun i hi => by have := hpk i hi; omega) dX2_lastOf_8 (by decide) (fun hc1 => ?_) (fun i hc1 => ?_)
      · have hk0 : k = 0 := by cases k with | zero => rfl | succ z => cases hc1
        refine lv_iconst (v := (-1)) hx hb dX2_lastOf_41 rfl ?_
        refine z_top (y := lk (Option.map p none)) (rfl) ?_
        exact z_iret hx hb hr hlocks ⟨none, rfl, Or.inl ⟨rfl, fun j hj => hinv j (by omega) hj⟩⟩ hS dX2_lastOf_42
      · have hki := hpk i hc1
        rw [hc1] at hl
        have hl : lv_has ls 4 [(3, .int (nI i)), (0, .ref (a 0)), (1, .int (nI d)), (2, .int (v))] := hl
        have hpi := hp i (by omega)
        refine lv_aload_n hx hb dX2_lastOf_11 rfl (lv_at hl 1 rfl) ?_
        refine va_get (D := G.1) (ci := 2) (v := .ref (a 2)) (C := RX2) (T := TX2) (N := 5) hx hb hts hinX2 hown hK.1 hP 0 rfl rfl 1 (by decide) (hts (.fieldLink RX2 17 "PairThreads$Threads" "number" "[[I") (by decide +kernel)) (fun _ h9 => h9) rfl dX2_lastOf_12 ?_
        refine lv_iload_n hx hb dX2_lastOf_15 rfl (lv_at hl 2 rfl) ?_
        refine z_ald hx hb hK hP 2 rfl (j := d) (by omega) (by decide) dX2_lastOf_16 ?_
        refine lv_aload_n hx hb dX2_lastOf_17 rfl (lv_at hl 1 rfl) ?_
        refine va_get (D := G.1) (ci := 2) (v := .ref (a 1)) (C := RX2) (T := TX2) (N := 5) hx hb hts hinX2 hown hK.1 hP 0 rfl rfl 0 (by decide) (hts (.fieldLink RX2 9 "PairThreads$Threads" "order" "[I") (by decide +kernel)) (fun _ h9 => h9) rfl dX2_lastOf_18 ?_
        refine lv_iload_n hx hb dX2_lastOf_21 rfl (lv_at hl 0 rfl) ?_
        refine z_ialdN hx hb hK hP 1 rfl (j := i) (by omega) (by decide) dX2_lastOf_22 ?_
        refine z_iald hx hb hK hP (5 + d) (cT_N hd) (j := p i) (by omega) (by decide) dX2_lastOf_23 ?_
        refine lv_iload_n hx hb dX2_lastOf_24 rfl (lv_at hl 3 rfl) ?_
        refine lv_icmp_ne (tgt := 35) hx hb dX2_lastOf_25 (by decide) (fun hc2 => ?_) (fun hc2 => ?_)
        · refine z_iincm (lv' := [(3, .int (lk (pr i))), (0, .ref (a 0)), (1, .int (nI d)), (2, .int (v))]) hx hb dX2_lastOf_35 hl (k := 0) rfl (by decide) rfl (fun ls hl => ?_)
          refine lv_goto (tgt := 7) hx hb dX2_lastOf_38 (by decide) ?_
          exact ih i H locs ls (by omega) (by omega) (fun j h1 h2 => by rcases Nat.eq_or_lt_of_le h1 with q | q; exact q ▸ hc2; exact hinv j (by omega) h2) hP hS (lv_sub hl [0, 1, 2, 3] rfl)
        · refine lv_aload_n hx hb dX2_lastOf_28 rfl (lv_at hl 1 rfl) ?_
          refine va_get (D := G.1) (ci := 2) (v := .ref (a 1)) (C := RX2) (T := TX2) (N := 5) hx hb hts hinX2 hown hK.1 hP 0 rfl rfl 0 (by decide) (hts (.fieldLink RX2 9 "PairThreads$Threads" "order" "[I") (by decide +kernel)) (fun _ h9 => h9) rfl dX2_lastOf_29 ?_
          refine lv_iload_n hx hb dX2_lastOf_32 rfl (lv_at hl 0 rfl) ?_
          refine z_ialdN hx hb hK hP 1 rfl (j := i) (by omega) (by decide) dX2_lastOf_33 ?_
          refine z_top (y := lk (Option.map p (some i))) (rfl) ?_
          exact z_iret hx hb hr hlocks ⟨some i, rfl, Or.inr ⟨i, rfl, by omega, hc2, fun j h1 h2 => hinv j (by omega) h2⟩⟩ hS dX2_lastOf_34
  exact loop (n + 1) n _ _ ls (by omega) (by omega) (fun j h1 h2 => absurd h2 (by omega)) hP hS (lv_sub hl [0, 1, 2, 3] rfl)

set_option maxHeartbeats 4000000 in
set_option maxRecDepth 100000 in
/-- Threads.headOf: the first slot of the thread of a slot -/
theorem c_headOf (l : Launch) (G : Gd) (a p : Nat → Nat) (N : Nat → Nat → Int32) (B F : Nat → Nat → Option Nat) (n : Nat) (d i : Nat) (hd : d < 2) (hi : i < n) (hn : n ≤ 300) (hp : ∀ i, i < 300 → p i < 300) (hB : lnkB p (fun i => N d (p i)) (B d) n) : Mt l yX2_headOf wsX2_headOf 0 0 [.ref (a 0), .int (nI d), .int (nI (p i))] G (cT G a p N B F n ++ []) (fun _ => False) (fun r _ => ∃ h : Nat, r = some (.int (nI (p h))) ∧ h ≤ i ∧ N d (p h) = N d (p i) ∧ ∀ j, j < h → ¬ N d (p j) = N d (p i)) := by
  refine Mt.mk cX2_headOf 5 (some .int) (by decide) rfl (Nat.le_of_ble_eq_true rfl) ?_
  intro p9 e s m below meth c ls hx hb hr hml hts hown hlocks hP hK hl
  have hinX2 : ∀ w ∈ wsX20, w ∈ wsX2_headOf := by decide +kernel
  have hS : va_S (fun _ => False) s.heap s.heap [] := va_S.rf
  have hl : lv_has ls 5 [(0, .ref (a 0)), (1, .int (nI d)), (2, .int (nI (p i)))] := hl
  have hown : s.vm.findClass RX2 = some m.cls := hown
  refine lv_iload_n hx hb dX2_headOf_0 rfl (lv_at hl 2 rfl) ?_
  refine lv_istore_n (lv' := [(3, .int (nI (p i))), (0, .ref (a 0)), (1, .int (nI d)), (2, .int (nI (p i)))]) hx hb dX2_headOf_1 rfl hl (by decide) rfl (fun ls hl => ?_)
  refine lv_iconst (v := nI 0) hx hb dX2_headOf_2 rfl ?_
  refine lv_istore (lv' := [(4, .int (nI 0)), (3, .int (nI (p i))), (0, .ref (a 0)), (1, .int (nI d)), (2, .int (nI (p i)))]) hx hb dX2_headOf_3 hl (by decide) rfl (fun ls hl => ?_)
  have loop : ∀ (k9 : Nat) (h : Nat) (t : Nat) (H : Heap) (locs : List Loc) (ls : Array Slot), i < t + k9 → h + t ≤ i → N d (p h) = N d (p i) → va_P G.1 vwCl (cT G a p N B F n ++ []) H → va_S (fun _ => False) s.heap H locs → lv_has ls 5 [(4, .int (nI t)), (3, .int (nI (p h))), (0, .ref (a 0)), (1, .int (nI d)), (2, .int (nI (p i)))] → Wz p9 l e 0 0 s m [.ref (a 0), .int (nI d), .int (nI (p i))] below meth c (fun _ => False) (fun r _ => ∃ h : Nat, r = some (.int (nI (p h))) ∧ h ≤ i ∧ N d (p h) = N d (p i) ∧ ∀ j, j < h → ¬ N d (p j) = N d (p i)) H locs (F0 m 5 ls []) := by
    intro k9
    induction k9 with
    | zero =>
      intro h t H locs ls hfuel ht hv hP hS hl
      exact absurd hfuel (by omega)
    | succ k9 ih =>
      intro h t H locs ls hfuel ht hv hP hS hl
      have hph := hp h (by omega)
      refine lv_iload hx hb dX2_headOf_5 (lv_at hl 0 rfl) ?_
      refine lv_aload_n hx hb dX2_headOf_7 rfl (lv_at hl 2 rfl) ?_
      refine va_get (D := G.1) (ci := 2) (v := .int (nI n)) (C := RX2) (T := TX2) (N := 5) hx hb hts hinX2 hown hK.1 hP 0 rfl rfl 4 (by decide) (hts (.fieldLink RX2 26 "PairThreads$Threads" "size" "I") (by decide +kernel)) (fun _ h9 => h9) rfl dX2_headOf_8 ?_
      refine z_icmp_ge (tgt := 41) hx hb (by omega) (by omega) dX2_headOf_11 (by decide) (fun hc1 => ?_) (fun hc1 => ?_)
      · exact absurd hc1 (by omega)
      · obtain ⟨o, ho, hpr⟩ := hB h (by omega)
        refine lv_aload_n hx hb dX2_headOf_14 rfl (lv_at hl 2 rfl) ?_
        refine va_get (D := G.1) (ci := 2) (v := .ref (a 3)) (C := RX2) (T := TX2) (N := 5) hx hb hts hinX2 hown hK.1 hP 0 rfl rfl 2 (by decide) (hts (.fieldLink RX2 20 "PairThreads$Threads" "before" "[[I") (by decide +kernel)) (fun _ h9 => h9) rfl dX2_headOf_15 ?_
        refine lv_iload_n hx hb dX2_headOf_18 rfl (lv_at hl 3 rfl) ?_
        refine z_ald hx hb hK hP 3 rfl (j := d) (by omega) (by decide) dX2_headOf_19 ?_
        refine lv_iload_n hx hb dX2_headOf_20 rfl (lv_at hl 1 rfl) ?_
        refine z_ialdO hx hb hK hP (7 + d) (cT_B hd) (j := p h) (by omega) (by decide) dX2_headOf_21 ?_
        refine z_top (y := lk (Option.map p o)) (congrArg lk ho) ?_
        refine lv_iconst (v := (-1)) hx hb dX2_headOf_22 rfl ?_
        refine z_none_eq (tgt := 41) hx hb (fun k hk => by have := mp_lt hp (show h ≤ 300 by omega) (prevR_lt hpr) hk; omega) dX2_headOf_23 (by decide) (fun hc2 => ?_) (fun k hc2 => ?_)
        · refine lv_iload_n hx hb dX2_headOf_41 rfl (lv_at hl 1 rfl) ?_
          rcases hpr with ⟨h1, h2⟩ | ⟨j, h1, -⟩
          · exact z_iret hx hb hr hlocks ⟨h, rfl, by omega, hv, fun j hj => by rw [← hv]; exact h2 j hj⟩ hS dX2_headOf_42
          · rw [h1] at hc2; cases hc2
        · rcases hpr with ⟨h1, -⟩ | ⟨j, h1, h2, h3, -⟩
          · rw [h1] at hc2; cases hc2
          · have hBj : B d (p h) = some (p j) := by rw [ho, h1]; rfl
            refine lv_aload_n hx hb dX2_headOf_26 rfl (lv_at hl 2 rfl) ?_
            refine va_get (D := G.1) (ci := 2) (v := .ref (a 3)) (C := RX2) (T := TX2) (N := 5) hx hb hts hinX2 hown hK.1 hP 0 rfl rfl 2 (by decide) (hts (.fieldLink RX2 20 "PairThreads$Threads" "before" "[[I") (by decide +kernel)) (fun _ h9 => h9) rfl dX2_headOf_27 ?_
            refine lv_iload_n hx hb dX2_headOf_30 rfl (lv_at hl 3 rfl) ?_
            refine z_ald hx hb hK hP 3 rfl (j := d) (by omega) (by decide) dX2_headOf_31 ?_
            refine lv_iload_n hx hb dX2_headOf_32 rfl (lv_at hl 1 rfl) ?_
            refine z_ialdO hx hb hK hP (7 + d) (cT_B hd) (j := p h) (by omega) (by decide) dX2_headOf_33 ?_
            refine z_top (y := nI (p j)) ((congrArg lk hBj).trans rfl) ?_
            refine lv_istore_n (lv' := [(3, .int (nI (p j))), (4, .int (nI t)), (0, .ref (a 0)), (1, .int (nI d)), (2, .int (nI (p i)))]) hx hb dX2_headOf_34 rfl hl (by decide) rfl (fun ls hl => ?_)
            refine z_iinc (lv' := [(4, .int (nI (t + 1))), (3, .int (nI (p j))), (0, .ref (a 0)), (1, .int (nI d)), (2, .int (nI (p i)))]) hx hb dX2_headOf_35 hl (k := 1) rfl (by decide) rfl (fun ls hl => ?_)
            refine lv_goto (tgt := 5) hx hb dX2_headOf_38 (by decide) ?_
            exact ih j (t + 1) H locs ls (by omega) (by omega) (h3.trans hv) hP hS (lv_sub hl [0, 1, 2, 3, 4] rfl)
  exact loop (i + 1) i 0 _ _ ls (by omega) (by omega) rfl hP hS (lv_sub hl [0, 1, 2, 3, 4] rfl)

set_option maxHeartbeats 4000000 in
set_option maxRecDepth 100000 in
/-- Threads.lengthOf: how many pairs have the number -/
theorem c_lengthOf (l : Launch) (G : Gd) (a p : Nat → Nat) (N : Nat → Nat → Int32) (B F : Nat → Nat → Option Nat) (n : Nat) (d : Nat) (v : Int32) (hd : d < 2) (hn : n ≤ 300) (hp : ∀ i, i < 300 → p i < 300) (hF : lnkF p (fun i => N d (p i)) (F d) n) : Mt l yX2_lengthOf wsX2_lengthOf 1 23 [.ref (a 0), .int (nI d), .int (v)] G (cT G a p N B F n ++ []) (fun _ => False) (fun r _ => r = some (.int (nI (cnt (fun i => N d (p i)) v n)))) := by
  refine Mt.mk cX2_lengthOf 6 (some .int) (by decide) rfl (Nat.le_of_ble_eq_true rfl) ?_
  intro p9 e s m below meth c ls hx hb hr hml hts hown hlocks hP hK hl
  have hinX2 : ∀ w ∈ wsX20, w ∈ wsX2_lengthOf := by decide +kernel
  have hS : va_S (fun _ => False) s.heap s.heap [] := va_S.rf
  have hl : lv_has ls 6 [(0, .ref (a 0)), (1, .int (nI d)), (2, .int (v))] := hl
  have hown : s.vm.findClass RX2 = some m.cls := hown
  refine lv_iconst (v := nI 0) hx hb dX2_lengthOf_0 rfl ?_
  refine lv_istore_n (lv' := [(3, .int (nI 0)), (0, .ref (a 0)), (1, .int (nI d)), (2, .int (v))]) hx hb dX2_lengthOf_1 rfl hl (by decide) rfl (fun ls hl => ?_)
  refine lv_aload_n hx hb dX2_lengthOf_2 rfl (lv_at hl 1 rfl) ?_
  refine lv_iload_n hx hb dX2_lengthOf_3 rfl (lv_at hl 2 rfl) ?_
  refine lv_iload_n hx hb dX2_lengthOf_4 rfl (lv_at hl 3 rfl) ?_
  refine z_callV (rest := []) 2 ⟨hx, hb, hml, hown, hts⟩ hK (c_firstOf l G a p N B F n d v hd hn hp) gX2_lengthOf_X2_firstOf rfl (by decide +kernel) ⟨Nat.le_of_ble_eq_true rfl, Nat.le_of_ble_eq_true rfl⟩ hP 0 rfl rfl rfl rfl hl.1 rfl (Nat.le_of_ble_eq_true rfl) dX2_lengthOf_5 ⟨Nat.le_refl _, Nat.le_refl _⟩ hS (fun _ h => h.elim) (fun v9 H9 locs hR9 hk9 hS => ?_)
  obtain ⟨o, rfl, ho⟩ := hR9
  have hP := P_keep0 hP hk9
  clear hk9
  generalize H9 = H at hP hS ⊢
  refine W.eq (g2 := F0 m 8 ls [.int (lk (Option.map p o))]) rfl ?_
  have hst : stR (fun i => N d (p i)) n v 0 o := stR_first ho
  refine lv_istore (lv' := [(4, .int (lk (Option.map p o))), (3, .int (nI 0)), (0, .ref (a 0)), (1, .int (nI d)), (2, .int (v))]) hx hb dX2_lengthOf_8 hl (by decide) rfl (fun ls hl => ?_)
  refine lv_iconst (v := nI 0) hx hb dX2_lengthOf_10 rfl ?_
  refine lv_istore (lv' := [(5, .int (nI 0)), (4, .int (lk (Option.map p o))), (3, .int (nI 0)), (0, .ref (a 0)), (1, .int (nI d)), (2, .int (v))]) hx hb dX2_lengthOf_11 hl (by decide) rfl (fun ls hl => ?_)
  have loop : ∀ (k9 : Nat) (c1 : Nat) (o : Option Nat) (H : Heap) (locs : List Loc) (ls : Array Slot), n < c1 + k9 → c1 ≤ n → stR (fun i => N d (p i)) n v c1 o → va_P G.1 vwCl (cT G a p N B F n ++ []) H → va_S (fun _ => False) s.heap H locs → lv_has ls 6 [(5, .int (nI c1)), (4, .int (lk (Option.map p o))), (3, .int (nI c1)), (0, .ref (a 0)), (1, .int (nI d)), (2, .int (v))] → Wz p9 l e 1 23 s m [.ref (a 0), .int (nI d), .int (v)] below meth c (fun _ => False) (fun r _ => r = some (.int (nI (cnt (fun i => N d (p i)) v n)))) H locs (F0 m 13 ls []) := by
    intro k9
    induction k9 with
    | zero =>
      intro c1 o H locs ls hfuel hcn hst hP hS hl
      exact absurd hfuel (by omega)
    | succ k9 ih =>
      intro c1 o H locs ls hfuel hcn hst hP hS hl
      have hc1 : c1 ≤ n := by rcases hst with ⟨-, h⟩ | ⟨j, -, h2, -, h⟩; rw [h]; exact cnt_le _ _ _; have := cnt_le (fun i => N d (p i)) v j; omega
      refine lv_iload hx hb dX2_lengthOf_13 (lv_at hl 0 rfl) ?_
      refine lv_aload_n hx hb dX2_lengthOf_15 rfl (lv_at hl 3 rfl) ?_
      refine va_get (D := G.1) (ci := 2) (v := .int (nI n)) (C := RX2) (T := TX2) (N := 5) hx hb hts hinX2 hown hK.1 hP 0 rfl rfl 4 (by decide) (hts (.fieldLink RX2 26 "PairThreads$Threads" "size" "I") (by decide +kernel)) (fun _ h9 => h9) rfl dX2_lengthOf_16 ?_
      refine z_icmp_ge (tgt := 48) hx hb (by omega) (by omega) dX2_lengthOf_19 (by decide) (fun hc1 => ?_) (fun hc1 => ?_)
      · refine lv_iload_n hx hb dX2_lengthOf_48 rfl (lv_at hl 2 rfl) ?_
        have he : c1 = cnt (fun i => N d (p i)) v n := by rcases hst with ⟨-, h⟩ | ⟨j, -, h2, -, h⟩; exact h; have := cnt_le (fun i => N d (p i)) v j; omega
        exact z_iret hx hb hr hlocks (by rw [he]) hS dX2_lengthOf_49
      · refine lv_iload hx hb dX2_lengthOf_22 (lv_at hl 1 rfl) ?_
        refine lv_iconst (v := (-1)) hx hb dX2_lengthOf_24 rfl ?_
        refine z_none_eq (tgt := 48) hx hb (fun k hk => by have := mp_lt hp hn (stR_lt hst) hk; omega) dX2_lengthOf_25 (by decide) (fun hc2 => ?_) (fun k hc2 => ?_)
        · refine lv_iload_n hx hb dX2_lengthOf_48 rfl (lv_at hl 2 rfl) ?_
          have he : c1 = cnt (fun i => N d (p i)) v n := by rcases hst with ⟨-, h⟩ | ⟨j, h1, -⟩; exact h; rw [h1] at hc2; cases hc2
          exact z_iret hx hb hr hlocks (by rw [he]) hS dX2_lengthOf_49
        · rcases hst with ⟨h1, -⟩ | ⟨j, h1, h2, h3, h4⟩
          · rw [h1] at hc2; cases hc2
          · subst h1
            have hl : lv_has ls 6 [(5, .int (nI c1)), (4, .int (nI (p j))), (3, .int (nI c1)), (0, .ref (a 0)), (1, .int (nI d)), (2, .int (v))] := hl
            have hpj := hp j (by omega)
            obtain ⟨o2, ho2, hnx⟩ := hF j h2
            refine z_iinc (lv' := [(3, .int (nI (c1 + 1))), (5, .int (nI c1)), (4, .int (nI (p j))), (0, .ref (a 0)), (1, .int (nI d)), (2, .int (v))]) hx hb dX2_lengthOf_28 hl (k := 2) rfl (by decide) rfl (fun ls hl => ?_)
            refine lv_aload_n hx hb dX2_lengthOf_31 rfl (lv_at hl 3 rfl) ?_
            refine va_get (D := G.1) (ci := 2) (v := .ref (a 4)) (C := RX2) (T := TX2) (N := 5) hx hb hts hinX2 hown hK.1 hP 0 rfl rfl 3 (by decide) (hts (.fieldLink RX2 23 "PairThreads$Threads" "after" "[[I") (by decide +kernel)) (fun _ h9 => h9) rfl dX2_lengthOf_32 ?_
            refine lv_iload_n hx hb dX2_lengthOf_35 rfl (lv_at hl 4 rfl) ?_
            refine z_ald hx hb hK hP 4 rfl (j := d) (by omega) (by decide) dX2_lengthOf_36 ?_
            refine lv_iload hx hb dX2_lengthOf_37 (lv_at hl 2 rfl) ?_
            refine z_ialdO hx hb hK hP (9 + d) (cT_F hd) (j := p j) (by omega) (by decide) dX2_lengthOf_39 ?_
            refine z_top (y := lk (Option.map p o2)) (congrArg lk ho2) ?_
            refine lv_istore (lv' := [(4, .int (lk (Option.map p o2))), (3, .int (nI (c1 + 1))), (5, .int (nI c1)), (0, .ref (a 0)), (1, .int (nI d)), (2, .int (v))]) hx hb dX2_lengthOf_40 hl (by decide) rfl (fun ls hl => ?_)
            refine z_iinc (lv' := [(5, .int (nI (c1 + 1))), (4, .int (lk (Option.map p o2))), (3, .int (nI (c1 + 1))), (0, .ref (a 0)), (1, .int (nI d)), (2, .int (v))]) hx hb dX2_lengthOf_42 hl (k := 2) rfl (by decide) rfl (fun ls hl => ?_)
            refine lv_goto (tgt := 13) hx hb dX2_lengthOf_45 (by decide) ?_
            exact ih (c1 + 1) o2 H locs ls (by omega) (by omega) (by rw [h4]; exact stR_next h2 h3 hnx) hP hS (lv_sub hl [0, 1, 2, 3, 4, 5] rfl)
  exact loop (n + 1) 0 o _ _ ls (by omega) (by omega) hst hP hS (lv_sub hl [0, 1, 2, 3, 4, 5] rfl)

set_option maxHeartbeats 4000000 in
set_option maxRecDepth 100000 in
/-- Threads.inThread: the slot of pair x in the thread of a number, or NONE -/
theorem c_inThread (l : Launch) (G : Gd) (a p : Nat → Nat) (N : Nat → Nat → Int32) (B F : Nat → Nat → Option Nat) (n : Nat) (d : Nat) (v x : Int32) (hd : d < 2) (hn : n ≤ 300) (hp : ∀ i, i < 300 → p i < 300) (hF : lnkF p (fun i => N d (p i)) (F d) n) : Mt l yX2_inThread wsX2_inThread 1 23 [.ref (a 0), .int (nI d), .int (v), .int (x)] G (cT G a p N B F n ++ []) (fun _ => False) (fun r _ => ∃ o : Option Nat, r = some (.int (lk (Option.map p o))) ∧ nthR (fun i => N d (p i)) n v x o) := by
  refine Mt.mk cX2_inThread 6 (some .int) (by decide) rfl (Nat.le_of_ble_eq_true rfl) ?_
  intro p9 e s m below meth c ls hx hb hr hml hts hown hlocks hP hK hl
  have hinX2 : ∀ w ∈ wsX20, w ∈ wsX2_inThread := by decide +kernel
  have hS : va_S (fun _ => False) s.heap s.heap [] := va_S.rf
  have hl : lv_has ls 6 [(0, .ref (a 0)), (1, .int (nI d)), (2, .int (v)), (3, .int (x))] := hl
  have hown : s.vm.findClass RX2 = some m.cls := hown
  refine lv_iload_n hx hb dX2_inThread_0 rfl (lv_at hl 3 rfl) ?_
  refine lv_if_lt (tgt := 12) hx hb dX2_inThread_1 (by decide) (fun hc1 => ?_) (fun hc1 => ?_)
  · refine lv_iconst (v := (-1)) hx hb dX2_inThread_12 rfl ?_
    refine z_top (y := lk (Option.map p none)) (rfl) ?_
    exact z_iret hx hb hr hlocks ⟨none, rfl, Or.inl ⟨rfl, fun j hj _ hq => by rw [hq] at hc1; have := cnt_le (fun i => N d (p i)) v j; exact absurd hc1 (nI_pos (by omega))⟩⟩ hS dX2_inThread_13
  · obtain ⟨x0, hx0, hxe⟩ := nI_of hc1
    subst hxe
    refine lv_iload_n hx hb dX2_inThread_4 rfl (lv_at hl 3 rfl) ?_
    refine lv_aload_n hx hb dX2_inThread_5 rfl (lv_at hl 0 rfl) ?_
    refine va_get (D := G.1) (ci := 2) (v := .int (nI n)) (C := RX2) (T := TX2) (N := 5) hx hb hts hinX2 hown hK.1 hP 0 rfl rfl 4 (by decide) (hts (.fieldLink RX2 26 "PairThreads$Threads" "size" "I") (by decide +kernel)) (fun _ h9 => h9) rfl dX2_inThread_6 ?_
    refine z_icmp_lt (tgt := 14) hx hb (by omega) (by omega) dX2_inThread_9 (by decide) (fun hc2 => ?_) (fun hc2 => ?_)
    · refine lv_aload_n hx hb dX2_inThread_14 rfl (lv_at hl 0 rfl) ?_
      refine lv_iload_n hx hb dX2_inThread_15 rfl (lv_at hl 1 rfl) ?_
      refine lv_iload_n hx hb dX2_inThread_16 rfl (lv_at hl 2 rfl) ?_
      refine z_callV (rest := []) 2 ⟨hx, hb, hml, hown, hts⟩ hK (c_firstOf l G a p N B F n d v hd hn hp) gX2_inThread_X2_firstOf rfl (by decide +kernel) ⟨Nat.le_of_ble_eq_true rfl, Nat.le_of_ble_eq_true rfl⟩ hP 0 rfl rfl rfl rfl hl.1 rfl (Nat.le_of_ble_eq_true rfl) dX2_inThread_17 ⟨Nat.le_refl _, Nat.le_refl _⟩ hS (fun _ h => h.elim) (fun v9 H9 locs hR9 hk9 hS => ?_)
      obtain ⟨o, rfl, ho⟩ := hR9
      have hP := P_keep0 hP hk9
      clear hk9
      generalize H9 = H at hP hS ⊢
      refine W.eq (g2 := F0 m 20 ls [.int (lk (Option.map p o))]) rfl ?_
      have hst : stR (fun i => N d (p i)) n v 0 o := stR_first ho
      refine lv_istore (lv' := [(4, .int (lk (Option.map p o))), (0, .ref (a 0)), (1, .int (nI d)), (2, .int (v)), (3, .int (nI x0))]) hx hb dX2_inThread_20 hl (by decide) rfl (fun ls hl => ?_)
      refine lv_iconst (v := nI 0) hx hb dX2_inThread_22 rfl ?_
      refine lv_istore (lv' := [(5, .int (nI 0)), (4, .int (lk (Option.map p o))), (0, .ref (a 0)), (1, .int (nI d)), (2, .int (v)), (3, .int (nI x0))]) hx hb dX2_inThread_23 hl (by decide) rfl (fun ls hl => ?_)
      have loop : ∀ (k9 : Nat) (c1 : Nat) (o : Option Nat) (H : Heap) (locs : List Loc) (ls : Array Slot), x0 < c1 + k9 → c1 ≤ x0 → stR (fun i => N d (p i)) n v c1 o → va_P G.1 vwCl (cT G a p N B F n ++ []) H → va_S (fun _ => False) s.heap H locs → lv_has ls 6 [(5, .int (nI c1)), (4, .int (lk (Option.map p o))), (0, .ref (a 0)), (1, .int (nI d)), (2, .int (v)), (3, .int (nI x0))] → Wz p9 l e 1 23 s m [.ref (a 0), .int (nI d), .int (v), .int (nI x0)] below meth c (fun _ => False) (fun r _ => ∃ o : Option Nat, r = some (.int (lk (Option.map p o))) ∧ nthR (fun i => N d (p i)) n v (nI x0) o) H locs (F0 m 25 ls []) := by
        intro k9
        induction k9 with
        | zero =>
          intro c1 o H locs ls hfuel hcx hst hP hS hl
          exact absurd hfuel (by omega)
        | succ k9 ih =>
          intro c1 o H locs ls hfuel hcx hst hP hS hl
          refine lv_iload hx hb dX2_inThread_25 (lv_at hl 0 rfl) ?_
          refine lv_iload_n hx hb dX2_inThread_27 rfl (lv_at hl 5 rfl) ?_
          refine z_icmp_ge (tgt := 54) hx hb (by omega) (by omega) dX2_inThread_28 (by decide) (fun hc3 => ?_) (fun hc3 => ?_)
          · refine lv_iload hx hb dX2_inThread_54 (lv_at hl 1 rfl) ?_
            have he : c1 = x0 := by omega
            subst he
            rcases hst with ⟨h1, h2⟩ | ⟨j, h1, h2, h3, h4⟩
            · exact z_iret hx hb hr hlocks ⟨o, rfl, Or.inl ⟨h1, fun j hj hv hq => by have h5 := cnt_lt (K := (fun i => N d (p i))) hj hv; rw [nI_eq (by omega) (by have := cnt_le (fun i => N d (p i)) v j; omega)] at hq; omega⟩⟩ hS dX2_inThread_56
            · exact z_iret hx hb hr hlocks ⟨o, rfl, Or.inr ⟨j, h1, h2, h3, congrArg nI h4⟩⟩ hS dX2_inThread_56
          · refine lv_iload hx hb dX2_inThread_31 (lv_at hl 1 rfl) ?_
            refine lv_iconst (v := (-1)) hx hb dX2_inThread_33 rfl ?_
            refine z_none_eq (tgt := 54) hx hb (fun k hk => by have := mp_lt hp hn (stR_lt hst) hk; omega) dX2_inThread_34 (by decide) (fun hc4 => ?_) (fun k hc4 => ?_)
            · refine lv_iload hx hb dX2_inThread_54 (lv_at hl 1 rfl) ?_
              rcases hst with ⟨h1, h2⟩ | ⟨j, h1, -⟩
              · exact z_iret hx hb hr hlocks ⟨o, rfl, Or.inl ⟨h1, fun j hj hv hq => by have h5 := cnt_lt (K := (fun i => N d (p i))) hj hv; rw [nI_eq (by omega) (by have := cnt_le (fun i => N d (p i)) v j; omega)] at hq; omega⟩⟩ hS dX2_inThread_56
              · rw [h1] at hc4; cases hc4
            · rcases hst with ⟨h1, -⟩ | ⟨j, h1, h2, h3, h4⟩
              · rw [h1] at hc4; cases hc4
              · subst h1
                have hl : lv_has ls 6 [(5, .int (nI c1)), (4, .int (nI (p j))), (0, .ref (a 0)), (1, .int (nI d)), (2, .int (v)), (3, .int (nI x0))] := hl
                have hpj := hp j (by omega)
                obtain ⟨o2, ho2, hnx⟩ := hF j h2
                refine lv_aload_n hx hb dX2_inThread_37 rfl (lv_at hl 2 rfl) ?_
                refine va_get (D := G.1) (ci := 2) (v := .ref (a 4)) (C := RX2) (T := TX2) (N := 5) hx hb hts hinX2 hown hK.1 hP 0 rfl rfl 3 (by decide) (hts (.fieldLink RX2 23 "PairThreads$Threads" "after" "[[I") (by decide +kernel)) (fun _ h9 => h9) rfl dX2_inThread_38 ?_
                refine lv_iload_n hx hb dX2_inThread_41 rfl (lv_at hl 3 rfl) ?_
                refine z_ald hx hb hK hP 4 rfl (j := d) (by omega) (by decide) dX2_inThread_42 ?_
                refine lv_iload hx hb dX2_inThread_43 (lv_at hl 1 rfl) ?_
                refine z_ialdO hx hb hK hP (9 + d) (cT_F hd) (j := p j) (by omega) (by decide) dX2_inThread_45 ?_
                refine z_top (y := lk (Option.map p o2)) (congrArg lk ho2) ?_
                refine lv_istore (lv' := [(4, .int (lk (Option.map p o2))), (5, .int (nI c1)), (0, .ref (a 0)), (1, .int (nI d)), (2, .int (v)), (3, .int (nI x0))]) hx hb dX2_inThread_46 hl (by decide) rfl (fun ls hl => ?_)
                refine z_iinc (lv' := [(5, .int (nI (c1 + 1))), (4, .int (lk (Option.map p o2))), (0, .ref (a 0)), (1, .int (nI d)), (2, .int (v)), (3, .int (nI x0))]) hx hb dX2_inThread_48 hl (k := 1) rfl (by decide) rfl (fun ls hl => ?_)
                refine lv_goto (tgt := 25) hx hb dX2_inThread_51 (by decide) ?_
                exact ih (c1 + 1) o2 H locs ls (by omega) (by omega) (by rw [h4]; exact stR_next h2 h3 hnx) hP hS (lv_sub hl [0, 1, 2, 3, 4, 5] rfl)
      exact loop (x0 + 1) 0 o _ _ ls (by omega) (by omega) hst hP hS (lv_sub hl [0, 1, 2, 3, 4, 5] rfl)
    · refine lv_iconst (v := (-1)) hx hb dX2_inThread_12 rfl ?_
      refine z_top (y := lk (Option.map p none)) (rfl) ?_
      exact z_iret hx hb hr hlocks ⟨none, rfl, Or.inl ⟨rfl, fun j hj _ hq => by have := cnt_le (fun i => N d (p i)) v j; rw [nI_eq (by omega) (by omega)] at hq; omega⟩⟩ hS dX2_inThread_13

set_option maxHeartbeats 4000000 in
set_option maxRecDepth 100000 in
/-- Threads.threadsOn: how many different numbers -/
theorem c_threadsOn (l : Launch) (G : Gd) (a p : Nat → Nat) (N : Nat → Nat → Int32) (B F : Nat → Nat → Option Nat) (n : Nat) (d : Nat) (hd : d < 2) (hn : n ≤ 300) (hp : ∀ i, i < 300 → p i < 300) (hB : lnkB p (fun i => N d (p i)) (B d) n) : Mt l yX2_threadsOn wsX2_threadsOn 0 0 [.ref (a 0), .int (nI d)] G (cT G a p N B F n ++ []) (fun _ => False) (fun r _ => r = some (.int (nI (dis (fun i => N d (p i)) n)))) := by
  refine Mt.mk cX2_threadsOn 4 (some .int) (by decide) rfl (Nat.le_of_ble_eq_true rfl) ?_
  intro p9 e s m below meth c ls hx hb hr hml hts hown hlocks hP hK hl
  have hinX2 : ∀ w ∈ wsX20, w ∈ wsX2_threadsOn := by decide +kernel
  have hS : va_S (fun _ => False) s.heap s.heap [] := va_S.rf
  have hl : lv_has ls 4 [(0, .ref (a 0)), (1, .int (nI d))] := hl
  have hown : s.vm.findClass RX2 = some m.cls := hown
  refine lv_iconst (v := nI 0) hx hb dX2_threadsOn_0 rfl ?_
  refine lv_istore_n (lv' := [(2, .int (nI 0)), (0, .ref (a 0)), (1, .int (nI d))]) hx hb dX2_threadsOn_1 rfl hl (by decide) rfl (fun ls hl => ?_)
  refine lv_iconst (v := nI 0) hx hb dX2_threadsOn_2 rfl ?_
  refine lv_istore_n (lv' := [(3, .int (nI 0)), (2, .int (nI 0)), (0, .ref (a 0)), (1, .int (nI d))]) hx hb dX2_threadsOn_3 rfl hl (by decide) rfl (fun ls hl => ?_)
  have loop : ∀ (k9 : Nat) (i : Nat) (H : Heap) (locs : List Loc) (ls : Array Slot), n < i + k9 → i ≤ n → va_P G.1 vwCl (cT G a p N B F n ++ []) H → va_S (fun _ => False) s.heap H locs → lv_has ls 4 [(3, .int (nI i)), (2, .int (nI (dis (fun i => N d (p i)) i))), (0, .ref (a 0)), (1, .int (nI d))] → Wz p9 l e 0 0 s m [.ref (a 0), .int (nI d)] below meth c (fun _ => False) (fun r _ => r = some (.int (nI (dis (fun i => N d (p i)) n)))) H locs (F0 m 4 ls []) := by
    intro k9
    induction k9 with
    | zero =>
      intro i H locs ls hfuel hi hP hS hl
      exact absurd hfuel (by omega)
    | succ k9 ih =>
      intro i H locs ls hfuel hi hP hS hl
      refine lv_iload_n hx hb dX2_threadsOn_4 rfl (lv_at hl 0 rfl) ?_
      refine lv_aload_n hx hb dX2_threadsOn_5 rfl (lv_at hl 2 rfl) ?_
      refine va_get (D := G.1) (ci := 2) (v := .int (nI n)) (C := RX2) (T := TX2) (N := 5) hx hb hts hinX2 hown hK.1 hP 0 rfl rfl 4 (by decide) (hts (.fieldLink RX2 26 "PairThreads$Threads" "size" "I") (by decide +kernel)) (fun _ h9 => h9) rfl dX2_threadsOn_6 ?_
      refine z_icmp_ge (tgt := 38) hx hb (by omega) (by omega) dX2_threadsOn_9 (by decide) (fun hc1 => ?_) (fun hc1 => ?_)
      · refine lv_iload_n hx hb dX2_threadsOn_38 rfl (lv_at hl 1 rfl) ?_
        exact z_iret hx hb hr hlocks (by rw [show i = n by omega]) hS dX2_threadsOn_39
      · have hpi := hp i (by omega)
        obtain ⟨o, ho, hpr⟩ := hB i (by omega)
        refine lv_aload_n hx hb dX2_threadsOn_12 rfl (lv_at hl 2 rfl) ?_
        refine va_get (D := G.1) (ci := 2) (v := .ref (a 3)) (C := RX2) (T := TX2) (N := 5) hx hb hts hinX2 hown hK.1 hP 0 rfl rfl 2 (by decide) (hts (.fieldLink RX2 20 "PairThreads$Threads" "before" "[[I") (by decide +kernel)) (fun _ h9 => h9) rfl dX2_threadsOn_13 ?_
        refine lv_iload_n hx hb dX2_threadsOn_16 rfl (lv_at hl 3 rfl) ?_
        refine z_ald hx hb hK hP 3 rfl (j := d) (by omega) (by decide) dX2_threadsOn_17 ?_
        refine lv_aload_n hx hb dX2_threadsOn_18 rfl (lv_at hl 2 rfl) ?_
        refine va_get (D := G.1) (ci := 2) (v := .ref (a 1)) (C := RX2) (T := TX2) (N := 5) hx hb hts hinX2 hown hK.1 hP 0 rfl rfl 0 (by decide) (hts (.fieldLink RX2 9 "PairThreads$Threads" "order" "[I") (by decide +kernel)) (fun _ h9 => h9) rfl dX2_threadsOn_19 ?_
        refine lv_iload_n hx hb dX2_threadsOn_22 rfl (lv_at hl 0 rfl) ?_
        refine z_ialdN hx hb hK hP 1 rfl (j := i) (by omega) (by decide) dX2_threadsOn_23 ?_
        refine z_ialdO hx hb hK hP (7 + d) (cT_B hd) (j := p i) (by omega) (by decide) dX2_threadsOn_24 ?_
        refine z_top (y := lk (Option.map p o)) (congrArg lk ho) ?_
        refine lv_iconst (v := (-1)) hx hb dX2_threadsOn_25 rfl ?_
        refine z_none_ne (tgt := 32) hx hb (fun k hk => by have := mp_lt hp (show i ≤ 300 by omega) (prevR_lt hpr) hk; omega) dX2_threadsOn_26 (by decide) (fun k hc2 => ?_) (fun hc2 => ?_)
        · have he : dis (fun i => N d (p i)) (i + 1) = dis (fun i => N d (p i)) i := by rcases hpr with ⟨h1, -⟩ | ⟨j, h1, h2, h3, -⟩; rw [h1] at hc2; cases hc2; simp only [dis]; rw [if_neg (fun q => q j h2 h3)]; rfl
          refine z_iinc (lv' := [(3, .int (nI (i + 1))), (2, .int (nI (dis (fun i => N d (p i)) i))), (0, .ref (a 0)), (1, .int (nI d))]) hx hb dX2_threadsOn_32 hl (k := 0) rfl (by decide) rfl (fun ls hl => ?_)
          refine lv_goto (tgt := 4) hx hb dX2_threadsOn_35 (by decide) ?_
          rw [← he] at hl
          have hl : lv_has ls 4 [(3, .int (nI (i + 1))), (2, .int (nI (dis (fun i => N d (p i)) (i + 1)))), (0, .ref (a 0)), (1, .int (nI d))] := hl
          exact ih (i + 1) H locs ls (by omega) (by omega) hP hS (lv_sub hl [0, 1, 2, 3] rfl)
        · have he : dis (fun i => N d (p i)) (i + 1) = dis (fun i => N d (p i)) i + 1 := by rcases hpr with ⟨-, h1⟩ | ⟨j, h1, -⟩; simp only [dis]; rw [if_pos h1]; rw [h1] at hc2; cases hc2
          refine z_iinc (lv' := [(2, .int (nI (dis (fun i => N d (p i)) i + 1))), (3, .int (nI i)), (0, .ref (a 0)), (1, .int (nI d))]) hx hb dX2_threadsOn_29 hl (k := 1) rfl (by decide) rfl (fun ls hl => ?_)
          refine z_iinc (lv' := [(3, .int (nI (i + 1))), (2, .int (nI (dis (fun i => N d (p i)) i + 1))), (0, .ref (a 0)), (1, .int (nI d))]) hx hb dX2_threadsOn_32 hl (k := 1) rfl (by decide) rfl (fun ls hl => ?_)
          refine lv_goto (tgt := 4) hx hb dX2_threadsOn_35 (by decide) ?_
          rw [← he] at hl
          have hl : lv_has ls 4 [(3, .int (nI (i + 1))), (2, .int (nI (dis (fun i => N d (p i)) (i + 1)))), (0, .ref (a 0)), (1, .int (nI d))] := hl
          exact ih (i + 1) H locs ls (by omega) (by omega) hP hS (lv_sub hl [0, 1, 2, 3] rfl)
  exact loop (n + 1) 0 _ _ ls (by omega) (by omega) hP hS (lv_sub hl [0, 1, 2, 3] rfl)
end
section
/-! threads: what tying on and untying does to the links -/
theorem up_id {α : Type} (f : Nat → α) (d : Nat) : va_up f d (f d) = f := by
  funext i
  by_cases h : i = d <;> simp [va_up, h]
def tieFd (p : Nat → Nat) (f : Nat → Option Nat) (sl : Nat) (o : Option Nat) : Nat → Option Nat := match o with
  | none => va_up f sl none
  | some j => va_up (va_up f sl none) (p j) (some sl)
theorem tie_B {p : Nat → Nat} {K K' : Nat → Int32} {b : Nat → Option Nat} {n : Nat} {v : Int32} {o : Option Nat} (hinj : ∀ i j, i ≤ n → j ≤ n → p i = p j → i = j) (hK : ∀ i, i < n → K' i = K i) (hv : K' n = v) (hB : lnkB p K b n) (hl : lastR K n v o) :
    lnkB p K' (va_up b (p n) (Option.map p o)) (n + 1) := by
  intro i hi
  rcases Nat.lt_succ_iff_lt_or_eq.mp hi with q | q
  · obtain ⟨o1, h1, h2⟩ := hB i q
    refine ⟨o1, ?_, ?_⟩
    · rw [up_n (fun e => by have := hinj i n (by omega) (by omega) e; omega)]; exact h1
    · rcases h2 with ⟨e, h3⟩ | ⟨j, e, h3, h4, h5⟩
      · exact Or.inl ⟨e, fun j hj => by rw [hK j (by omega), hK i q]; exact h3 j hj⟩
      · exact Or.inr ⟨j, e, h3, by rw [hK j (by omega), hK i q]; exact h4, fun k a b => by rw [hK k (by omega), hK i q]; exact h5 k a b⟩
  · subst q
    refine ⟨o, up_s _ _ _, ?_⟩
    rcases hl with ⟨e, h3⟩ | ⟨j, e, h3, h4, h5⟩
    · exact Or.inl ⟨e, fun j hj => by rw [hK j hj, hv]; exact h3 j hj⟩
    · exact Or.inr ⟨j, e, h3, by rw [hK j h3, hv]; exact h4, fun k a b => by rw [hK k b, hv]; exact h5 k a b⟩
theorem tie_F {p : Nat → Nat} {K K' : Nat → Int32} {f : Nat → Option Nat} {n : Nat} {v : Int32} {o : Option Nat} (hinj : ∀ i j, i ≤ n → j ≤ n → p i = p j → i = j) (hK : ∀ i, i < n → K' i = K i) (hv : K' n = v) (hF : lnkF p K f n) (hl : lastR K n v o) :
    lnkF p K' (tieFd p f (p n) o) (n + 1) := by
  have hol : ∀ j, o = some j → j < n := by
    intro j hj
    rcases hl with ⟨e, -⟩ | ⟨k, e, h3, -⟩
    · rw [e] at hj; cases hj
    · rw [e] at hj; cases hj; exact h3
  intro i hi
  rcases Nat.lt_succ_iff_lt_or_eq.mp hi with q | q
  · obtain ⟨o1, h1, h2⟩ := hF i q
    by_cases hiv : o = some i
    · refine ⟨some n, ?_, ?_⟩
      · subst hiv
        exact up_s _ _ _
      · rcases hl with ⟨e, -⟩ | ⟨j, e, h3, h4, h5⟩
        · rw [e] at hiv; cases hiv
        · rw [e] at hiv
          cases hiv
          exact Or.inr ⟨n, rfl, q, by omega, by rw [hv, hK i q, h4], fun k a b => by rw [hK k b, hK i q, h4]; exact h5 k a b⟩
    · have he : tieFd p f (p n) o (p i) = f (p i) := by
        have hne : p i ≠ p n := fun e => by have := hinj i n (by omega) (by omega) e; omega
        cases o with
        | none => exact up_n hne
        | some j =>
          have hj := hol j rfl
          have hne2 : p i ≠ p j := fun e => hiv (by rw [hinj i j (by omega) (by omega) e])
          exact (up_n hne2).trans (up_n hne)
      refine ⟨o1, he.trans h1, ?_⟩
      rcases h2 with ⟨e, h3⟩ | ⟨j, e, h3, h4, h5, h6⟩
      · refine Or.inl ⟨e, fun j a b => ?_⟩
        rcases Nat.lt_succ_iff_lt_or_eq.mp b with q2 | q2
        · rw [hK j q2, hK i q]; exact h3 j a q2
        · subst q2
          rw [hv, hK i q]
          intro hvi
          apply hiv
          rcases hl with ⟨-, h7⟩ | ⟨k, e', a1, a2, a3⟩
          · exact absurd hvi.symm (h7 i q)
          · rcases Nat.lt_trichotomy k i with z | z | z
            · exact absurd hvi.symm (a3 i z q)
            · rw [e', z]
            · exact absurd (a2.trans hvi) (h3 k z a1)
      · exact Or.inr ⟨j, e, h3, by omega, by rw [hK j h4, hK i q]; exact h5, fun k a b => by rw [hK k (by omega), hK i q]; exact h6 k a b⟩
  · subst q
    refine ⟨none, ?_, Or.inl ⟨rfl, fun j a b => by omega⟩⟩
    cases o with
    | none => exact up_s _ _ _
    | some j =>
      have hj := hol j rfl
      have hne : p i ≠ p j := fun e => by have := hinj i j (by omega) (by omega) e; omega
      exact (up_n hne).trans (up_s _ _ _)
/-- the places behind t move up -/
def sg (t i : Nat) : Nat := if i < t then i else i + 1
def ds (t j : Nat) : Nat := if j < t then j else j - 1
theorem sg_ne (t i : Nat) : sg t i ≠ t := by unfold sg; split <;> omega
theorem sg_lt {t i n : Nat} (h : i + 1 < n) : sg t i < n := by unfold sg; split <;> omega
theorem sg_ds {t j : Nat} (h : j ≠ t) : sg t (ds t j) = j := by unfold sg ds; split <;> (try split) <;> omega
theorem ds_sg (t i : Nat) : ds t (sg t i) = i := by unfold sg ds; split <;> (try split) <;> omega
theorem sg_mono {t i j : Nat} (h : i < j) : sg t i < sg t j := by unfold sg; split <;> split <;> omega
theorem ds_mono {t i j : Nat} (hi : i ≠ t) (hj : j ≠ t) (h : i < j) : ds t i < ds t j := by unfold ds; split <;> split <;> omega
theorem ds_lt {t j n : Nat} (hj : j ≠ t) (h : j < n) (ht : t < n) : ds t j + 1 < n := by unfold ds; split <;> omega
def unt (p : Nat → Nat) (f : Nat → Option Nat) (o1 o2 : Option Nat) : Nat → Option Nat := match o1 with
  | none => f
  | some j => va_up f (p j) (Option.map p o2)
theorem unt_keep {p : Nat → Nat} {f : Nat → Option Nat} {o1 o2 : Option Nat} {i n : Nat} (hinj : ∀ i j, i < n → j < n → p i = p j → i = j) (hi : i < n) (hl : ∀ j, o1 = some j → j < n) (h : ¬ o1 = some i) : unt p f o1 o2 (p i) = f (p i) := by
  cases o1 with
  | none => rfl
  | some j => exact up_n (fun e => h (by rw [hinj i j hi (hl j rfl) e]))
theorem map_eq {p p' : Nat → Nat} {o : Option Nat} (h : ∀ j, o = some j → p' j = p j) : Option.map p o = Option.map p' o := by
  cases o with
  | none => rfl
  | some j => exact congrArg some (h j rfl).symm
theorem map_ds {p p' : Nat → Nat} {o : Option Nat} {t n : Nat} (hp' : ∀ i, i + 1 < n → p' i = p (sg t i)) (ht : t < n) (hn : ¬ o = some t) (hl : ∀ j, o = some j → j < n) : Option.map p o = Option.map p' (Option.map (ds t) o) := by
  cases o with
  | none => rfl
  | some j =>
    have hj : j ≠ t := fun e => hn (by rw [e])
    refine congrArg some ?_
    rw [hp' _ (ds_lt hj (hl j rfl) ht), sg_ds hj]
theorem unt_B {p p' : Nat → Nat} {K : Nat → Int32} {b : Nat → Option Nat} {n t : Nat} {ob of' : Option Nat} (ht : t < n) (hinj : ∀ i j, i < n → j < n → p i = p j → i = j) (hp' : ∀ i, i + 1 < n → p' i = p (sg t i)) (hB : lnkB p K b n) (hob : prevR K t ob) (hof : nextR K n t of') :
    lnkB p' (fun i => K (sg t i)) (unt p b of' ob) (n - 1) := by
  intro i hi
  have hi' : i + 1 < n := by omega
  have hs := sg_lt (t := t) hi'
  have hsn := sg_ne t i
  obtain ⟨o, h1, h2⟩ := hB (sg t i) hs
  rw [hp' i hi']
  by_cases hn : of' = some (sg t i)
  · refine ⟨ob, ?_, ?_⟩
    · subst hn
      refine (up_s _ _ _).trans (map_eq (fun j hj => ?_))
      have hjt := prevR_lt hob j hj
      rw [hp' j (by omega)]
      simp [sg, hjt]
    · rcases hof with ⟨e, -⟩ | ⟨k, e, a1, a2, a3, a4⟩
      · rw [e] at hn; cases hn
      · rw [e] at hn
        cases hn
        rcases hob with ⟨e2, b1⟩ | ⟨j, e2, b1, b2, b3⟩
        · refine Or.inl ⟨e2, fun j hj => ?_⟩
          show ¬ K (sg t j) = K (sg t i)
          rw [a3]
          have hm := sg_mono (t := t) hj
          rcases Nat.lt_trichotomy (sg t j) t with z | z | z
          · exact b1 _ z
          · exact absurd z (sg_ne t j)
          · exact a4 _ z hm
        · have hji : j < i := by unfold sg at a1; split at a1 <;> omega
          refine Or.inr ⟨j, e2, hji, ?_, fun k h3 h4 => ?_⟩
          · show K (sg t j) = K (sg t i)
            rw [a3, show sg t j = j by simp [sg, b1]]
            exact b2
          · show ¬ K (sg t k) = K (sg t i)
            rw [a3]
            have hm := sg_mono (t := t) h4
            have hm2 := sg_mono (t := t) h3
            rw [show sg t j = j by simp [sg, b1]] at hm2
            rcases Nat.lt_trichotomy (sg t k) t with z | z | z
            · exact b3 _ hm2 z
            · exact absurd z (sg_ne t k)
            · exact a4 _ z hm
  · have hot : ¬ o = some t := by
      intro e
      apply hn
      rcases h2 with ⟨e2, -⟩ | ⟨j, e2, a1, a2, a3⟩
      · rw [e2] at e; cases e
      · rw [e2] at e
        cases e
        rcases hof with ⟨e3, c1⟩ | ⟨k, e3, c1, c2, c3, c4⟩
        · exact absurd a2.symm (c1 _ a1 hs)
        · rcases Nat.lt_trichotomy k (sg t i) with z | z | z
          · exact absurd (c3.trans a2) (a3 k c1 z)
          · rw [e3, z]
          · exact absurd a2.symm (c4 _ a1 z)
    refine ⟨Option.map (ds t) o, ?_, ?_⟩
    · rw [unt_keep hinj hs (fun j hj => nextR_lt hof j hj) hn, h1]
      exact map_ds hp' ht hot (fun j hj => by have := prevR_lt h2 j hj; omega)
    · rcases h2 with ⟨e, a1⟩ | ⟨j, e, a1, a2, a3⟩
      · exact Or.inl ⟨by rw [e]; rfl, fun j hj => a1 _ (sg_mono hj)⟩
      · have hj : j ≠ t := fun z => hot (by rw [e, z])
        have hm := ds_mono hj hsn a1
        rw [ds_sg] at hm
        refine Or.inr ⟨ds t j, by rw [e]; rfl, hm, ?_, fun k h3 h4 => ?_⟩
        · show K (sg t (ds t j)) = _
          rw [sg_ds hj]; exact a2
        · have hm2 := sg_mono (t := t) h3
          rw [sg_ds hj] at hm2
          exact a3 _ hm2 (sg_mono h4)
theorem unt_F {p p' : Nat → Nat} {K : Nat → Int32} {f : Nat → Option Nat} {n t : Nat} {ob of' : Option Nat} (ht : t < n) (hinj : ∀ i j, i < n → j < n → p i = p j → i = j) (hp' : ∀ i, i + 1 < n → p' i = p (sg t i)) (hF : lnkF p K f n) (hob : prevR K t ob) (hof : nextR K n t of') :
    lnkF p' (fun i => K (sg t i)) (unt p f ob of') (n - 1) := by
  intro i hi
  have hi' : i + 1 < n := by omega
  have hs := sg_lt (t := t) hi'
  have hsn := sg_ne t i
  obtain ⟨o, h1, h2⟩ := hF (sg t i) hs
  have hofn : ¬ of' = some t := by
    intro e
    rcases hof with ⟨e2, -⟩ | ⟨k, e2, c1, -⟩
    · rw [e2] at e; cases e
    · rw [e2] at e; cases e; omega
  rw [hp' i hi']
  by_cases hn : ob = some (sg t i)
  · refine ⟨Option.map (ds t) of', ?_, ?_⟩
    · subst hn
      refine (up_s _ _ _).trans ?_
      exact map_ds hp' ht hofn (fun j hj => nextR_lt hof j hj)
    · rcases hob with ⟨e, -⟩ | ⟨k, e, a1, a2, a3⟩
      · rw [e] at hn; cases hn
      · rw [e] at hn
        cases hn
        rcases hof with ⟨e2, b1⟩ | ⟨j, e2, b1, b2, b3, b4⟩
        · refine Or.inl ⟨by rw [e2]; rfl, fun j hj hj2 => ?_⟩
          show ¬ K (sg t j) = K (sg t i)
          rw [a2]
          have hm := sg_mono (t := t) hj
          have hl := sg_lt (t := t) (show j + 1 < n by omega)
          rcases Nat.lt_trichotomy (sg t j) t with z | z | z
          · exact a3 _ hm z
          · exact absurd z (sg_ne t j)
          · exact b1 _ z hl
        · have hj : j ≠ t := by omega
          have hm := ds_mono hsn hj (show sg t i < j by omega)
          rw [ds_sg] at hm
          refine Or.inr ⟨ds t j, by rw [e2]; rfl, hm, by have := ds_lt hj b2 ht; omega, ?_, fun k h3 h4 => ?_⟩
          · show K (sg t (ds t j)) = K (sg t i)
            rw [sg_ds hj, a2]; exact b3
          · show ¬ K (sg t k) = K (sg t i)
            rw [a2]
            have hm2 := sg_mono (t := t) h3
            have hm3 := sg_mono (t := t) h4
            rw [sg_ds hj] at hm3
            rcases Nat.lt_trichotomy (sg t k) t with z | z | z
            · exact a3 _ hm2 z
            · exact absurd z (sg_ne t k)
            · exact b4 _ z hm3
  · have hot : ¬ o = some t := by
      intro e
      apply hn
      rcases h2 with ⟨e2, -⟩ | ⟨j, e2, a1, a1', a2, a3⟩
      · rw [e2] at e; cases e
      · rw [e2] at e
        cases e
        rcases hob with ⟨e3, c1⟩ | ⟨k, e3, c1, c2, c3⟩
        · exact absurd a2.symm (c1 _ a1)
        · rcases Nat.lt_trichotomy k (sg t i) with z | z | z
          · exact absurd a2.symm (c3 _ z a1)
          · rw [e3, z]
          · exact absurd (c2.trans a2) (a3 k z c1)
    refine ⟨Option.map (ds t) o, ?_, ?_⟩
    · rw [unt_keep hinj hs (fun j hj => by have := prevR_lt hob j hj; omega) hn, h1]
      exact map_ds hp' ht hot (fun j hj => nextR_lt h2 j hj)
    · rcases h2 with ⟨e, a1⟩ | ⟨j, e, a1, a1', a2, a3⟩
      · exact Or.inl ⟨by rw [e]; rfl, fun j hj hj2 => a1 _ (sg_mono hj) (sg_lt (by omega))⟩
      · have hj : j ≠ t := fun z => hot (by rw [e, z])
        have hm := ds_mono hsn hj a1
        rw [ds_sg] at hm
        refine Or.inr ⟨ds t j, by rw [e]; rfl, hm, by have := ds_lt hj a1' ht; omega, ?_, fun k h3 h4 => ?_⟩
        · show K (sg t (ds t j)) = _
          rw [sg_ds hj]; exact a2
        · have hm2 := sg_mono (t := t) h4
          rw [sg_ds hj] at hm2
          exact a3 _ (sg_mono h3) hm2
end
section
/-! the state of a Threads, told by the list of its pairs in order -/
abbrev Pr : Type := Int32 × Int32
def sd (d : Nat) (x : Pr) : Int32 := if d = 0 then x.1 else x.2
def key (d : Nat) (L : List Pr) (i : Nat) : Int32 := sd d (L.getD i (0, 0))
def aT (a : Nat → Nat) : List Nat := [a 0, a 1, a 2, a 3, a 4, a 5, a 6, a 7, a 8, a 9, a 10]
def TI (p : Nat → Nat) (N : Nat → Nat → Int32) (B F : Nat → Nat → Option Nat) (L : List Pr) : Prop :=
  (∀ i, i < 300 → p i < 300) ∧ (∀ i j, i < 300 → j < 300 → p i = p j → i = j) ∧ L.length ≤ 300 ∧ (∀ d i, d < 2 → i < L.length → N d (p i) = key d L i) ∧ ∀ d, d < 2 → lnkB p (fun i => N d (p i)) (B d) L.length ∧ lnkF p (fun i => N d (p i)) (F d) L.length
def cTL (G : Gd) (a : Nat → Nat) (L : List Pr) (h : Heap) : Prop := ∃ (p : Nat → Nat) (N : Nat → Nat → Int32) (B F : Nat → Nat → Option Nat), TI p N B F L ∧ va_P G.1 vwCl (cT G a p N B F L.length ++ []) h
theorem key_app {d : Nat} {L : List Pr} {x : Pr} {i : Nat} (h : i < L.length) : key d (L ++ [x]) i = key d L i := by
  unfold key
  rw [List.getD_eq_getElem?_getD, List.getD_eq_getElem?_getD, List.getElem?_append_left h]
theorem key_new {d : Nat} {L : List Pr} {x : Pr} : key d (L ++ [x]) L.length = sd d x := by
  unfold key
  rw [List.getD_eq_getElem?_getD, List.getElem?_append_right (Nat.le_refl _)]
  simp
theorem key_erase {d t i : Nat} {L : List Pr} : key d (L.eraseIdx t) i = key d L (sg t i) := by
  unfold key
  rw [List.getD_eq_getElem?_getD, List.getD_eq_getElem?_getD, List.getElem?_eraseIdx]
  unfold sg
  split <;> rfl
theorem TI_append {p : Nat → Nat} {N : Nat → Nat → Int32} {B F : Nat → Nat → Option Nat} {L : List Pr} {x y : Int32} {o0 o1 : Option Nat} (h : TI p N B F L) (hl : L.length < 300) (N1 N2 : Nat → Nat → Int32) (B1 B2 F1 F2 : Nat → Nat → Option Nat)
    (eN1 : N1 = va_up N 0 (upd (N 0) (p L.length) x)) (eB1 : B1 = va_up B 0 (va_up (B 0) (p L.length) (Option.map p o0))) (eF1 : F1 = va_up F 0 (tieFd p (F 0) (p L.length) o0))
    (eN2 : N2 = va_up N1 1 (upd (N1 1) (p L.length) y)) (eB2 : B2 = va_up B1 1 (va_up (B1 1) (p L.length) (Option.map p o1))) (eF2 : F2 = va_up F1 1 (tieFd p (F1 1) (p L.length) o1))
    (h0 : lastR (fun i => N 0 (p i)) L.length x o0) (h1 : lastR (fun i => N1 1 (p i)) L.length y o1) : TI p N2 B2 F2 (L ++ [(x, y)]) := by
  obtain ⟨hp, hinj, hn, hk, hlk⟩ := h
  have a0 : N2 0 = upd (N 0) (p L.length) x := by rw [eN2, up_n (by decide), eN1, up_s]
  have a1 : N2 1 = upd (N 1) (p L.length) y := by rw [eN2, up_s, eN1, up_n (by decide)]
  have b0 : B2 0 = va_up (B 0) (p L.length) (Option.map p o0) := by rw [eB2, up_n (by decide), eB1, up_s]
  have b1 : B2 1 = va_up (B 1) (p L.length) (Option.map p o1) := by rw [eB2, up_s, eB1, up_n (by decide)]
  have f0 : F2 0 = tieFd p (F 0) (p L.length) o0 := by rw [eF2, up_n (by decide), eF1, up_s]
  have f1 : F2 1 = tieFd p (F 1) (p L.length) o1 := by rw [eF2, up_s, eF1, up_n (by decide)]
  have n1 : N1 1 = N 1 := by rw [eN1, up_n (by decide)]
  rw [n1] at h1
  have hij : ∀ i j, i ≤ L.length → j ≤ L.length → p i = p j → i = j := fun i j q1 q2 => hinj i j (by omega) (by omega)
  have hlen : (L ++ [(x, y)]).length = L.length + 1 := by simp
  have kk : ∀ (M : Nat → Int32) (v : Int32) (i : Nat), i < L.length → upd M (p L.length) v (p i) = M (p i) := fun M v i hi => pk_un (fun e => by have := hij i L.length (by omega) (by omega) e; omega)
  refine ⟨hp, hinj, by omega, fun d i hd hi => ?_, fun d hd => ?_⟩
  · rw [hlen] at hi
    rcases (show d = 0 ∨ d = 1 by omega) with rfl | rfl
    · rcases Nat.lt_succ_iff_lt_or_eq.mp hi with q | q
      · rw [a0, kk _ _ i q, key_app q]; exact hk 0 i (by omega) q
      · subst q; rw [a0, key_new]; exact pk_us
    · rcases Nat.lt_succ_iff_lt_or_eq.mp hi with q | q
      · rw [a1, kk _ _ i q, key_app q]; exact hk 1 i (by omega) q
      · subst q; rw [a1, key_new]; exact pk_us
  · rw [hlen]
    rcases (show d = 0 ∨ d = 1 by omega) with rfl | rfl
    · rw [a0, b0, f0]
      exact ⟨tie_B hij (fun i hi => kk _ _ i hi) pk_us (hlk 0 (by omega)).1 h0, tie_F hij (fun i hi => kk _ _ i hi) pk_us (hlk 0 (by omega)).2 h0⟩
    · rw [a1, b1, f1]
      exact ⟨tie_B hij (fun i hi => kk _ _ i hi) pk_us (hlk 1 (by omega)).1 h1, tie_F hij (fun i hi => kk _ _ i hi) pk_us (hlk 1 (by omega)).2 h1⟩
theorem lnkB_to {p : Nat → Nat} {K K' : Nat → Int32} {b : Nat → Option Nat} {n : Nat} (hK : ∀ i, i < n → K' i = K i) (h : lnkB p K b n) : lnkB p K' b n := by
  intro i hi
  obtain ⟨o, h1, h2⟩ := h i hi
  refine ⟨o, h1, ?_⟩
  rcases h2 with ⟨e, a1⟩ | ⟨j, e, a1, a2, a3⟩
  · exact Or.inl ⟨e, fun j hj => by rw [hK j (by omega), hK i hi]; exact a1 j hj⟩
  · exact Or.inr ⟨j, e, a1, by rw [hK j (by omega), hK i hi]; exact a2, fun k h3 h4 => by rw [hK k (by omega), hK i hi]; exact a3 k h3 h4⟩
theorem lnkF_to {p : Nat → Nat} {K K' : Nat → Int32} {f : Nat → Option Nat} {n : Nat} (hK : ∀ i, i < n → K' i = K i) (h : lnkF p K f n) : lnkF p K' f n := by
  intro i hi
  obtain ⟨o, h1, h2⟩ := h i hi
  refine ⟨o, h1, ?_⟩
  rcases h2 with ⟨e, a1⟩ | ⟨j, e, a1, a0, a2, a3⟩
  · exact Or.inl ⟨e, fun j hj hj2 => by rw [hK j hj2, hK i hi]; exact a1 j hj hj2⟩
  · exact Or.inr ⟨j, e, a1, a0, by rw [hK j a0, hK i hi]; exact a2, fun k h3 h4 => by rw [hK k (by omega), hK i hi]; exact a3 k h3 h4⟩
theorem cpy_fN (p : Nat → Nat) (s t n : Nat) : va_cpy (fN p) (fN p) s t n = fN (va_cpy p p s t n) := by
  funext j
  unfold va_cpy fN
  by_cases h : t ≤ j ∧ j < t + n <;> simp [h]
theorem TI_takeOut {p p' : Nat → Nat} {N : Nat → Nat → Int32} {B F : Nat → Nat → Option Nat} {L : List Pr} {t : Nat} {ob0 of0 ob1 of1 : Option Nat} (h : TI p N B F L) (ht : t < L.length) (B1 B2 F1 F2 : Nat → Nat → Option Nat)
    (eB1 : B1 = va_up B 0 (unt p (B 0) of0 ob0)) (eF1 : F1 = va_up F 0 (unt p (F 0) ob0 of0)) (eB2 : B2 = va_up B1 1 (unt p (B1 1) of1 ob1)) (eF2 : F2 = va_up F1 1 (unt p (F1 1) ob1 of1))
    (hb0 : prevR (fun i => N 0 (p i)) t ob0) (hf0 : nextR (fun i => N 0 (p i)) L.length t of0) (hb1 : prevR (fun i => N 1 (p i)) t ob1) (hf1 : nextR (fun i => N 1 (p i)) L.length t of1)
    (ep : p' = va_up (va_cpy p p (t + 1) t (L.length - 1 - t)) (L.length - 1) (p t)) : TI p' N B2 F2 (L.eraseIdx t) := by
  obtain ⟨hp, hinj, hn, hk, hlk⟩ := h
  have hp' : ∀ i, i + 1 < L.length → p' i = p (sg t i) := by
    intro i hi
    rw [ep, up_n (by omega)]
    unfold sg
    split
    · exact pk_cpy_out (Or.inl (by omega))
    · rw [pk_cpy_in (by omega) (by omega)]
      congr 1; omega
  have hpl : p' (L.length - 1) = p t := by rw [ep, up_s]
  have hpo : ∀ i, L.length ≤ i → p' i = p i := by
    intro i hi
    rw [ep, up_n (by omega)]
    exact pk_cpy_out (Or.inr (by omega))
  have hlen : (L.eraseIdx t).length = L.length - 1 := List.length_eraseIdx_of_lt ht
  have hcase : ∀ i, i < 300 → ∃ k, k < 300 ∧ p' i = p k ∧ ((i + 1 < L.length ∧ k = sg t i) ∨ (i + 1 = L.length ∧ k = t) ∨ (L.length ≤ i ∧ k = i)) := by
    intro i hi
    rcases Nat.lt_trichotomy (i + 1) L.length with q | q | q
    · exact ⟨sg t i, by have := sg_lt (t := t) q; omega, hp' i q, Or.inl ⟨q, rfl⟩⟩
    · exact ⟨t, by omega, by rw [show i = L.length - 1 by omega]; exact hpl, Or.inr (Or.inl ⟨q, rfl⟩)⟩
    · exact ⟨i, hi, hpo i (by omega), Or.inr (Or.inr ⟨by omega, rfl⟩)⟩
  have b0 : B2 0 = unt p (B 0) of0 ob0 := by rw [eB2, up_n (by decide), eB1, up_s]
  have b1 : B2 1 = unt p (B 1) of1 ob1 := by rw [eB2, up_s, eB1, up_n (by decide)]
  have f0 : F2 0 = unt p (F 0) ob0 of0 := by rw [eF2, up_n (by decide), eF1, up_s]
  have f1 : F2 1 = unt p (F 1) ob1 of1 := by rw [eF2, up_s, eF1, up_n (by decide)]
  have hij : ∀ i j, i < L.length → j < L.length → p i = p j → i = j := fun i j q1 q2 => hinj i j (by omega) (by omega)
  refine ⟨fun i hi => ?_, fun i j hi hj e => ?_, by omega, fun d i hd hi => ?_, fun d hd => ?_⟩
  · obtain ⟨k, h1, h2, -⟩ := hcase i hi
    rw [h2]; exact hp k h1
  · obtain ⟨k, h1, h2, h3⟩ := hcase i hi
    obtain ⟨k2, h4, h5, h6⟩ := hcase j hj
    have hkk := hinj k k2 h1 h4 (by rw [← h2, ← h5]; exact e)
    subst hkk
    rcases h3 with ⟨q1, q2⟩ | ⟨q1, q2⟩ | ⟨q1, q2⟩ <;> rcases h6 with ⟨r1, r2⟩ | ⟨r1, r2⟩ | ⟨r1, r2⟩
    · have := congrArg (ds t) (q2.symm.trans r2); rw [ds_sg, ds_sg] at this; exact this
    · exact absurd (q2.symm.trans r2) (sg_ne t i)
    · have := sg_lt (t := t) q1; omega
    · exact absurd (r2.symm.trans q2) (sg_ne t j)
    · omega
    · omega
    · have := sg_lt (t := t) r1; omega
    · omega
    · omega
  · rw [hlen] at hi
    rw [hp' i (by omega), key_erase]
    exact hk d _ hd (sg_lt (by omega))
  · rw [hlen]
    rcases (show d = 0 ∨ d = 1 by omega) with rfl | rfl
    · rw [b0, f0]
      have u1 := unt_B (K := fun i => N 0 (p i)) ht hij hp' (hlk 0 (by omega)).1 hb0 hf0
      have u2 := unt_F (K := fun i => N 0 (p i)) ht hij hp' (hlk 0 (by omega)).2 hb0 hf0
      exact ⟨lnkB_to (fun i hi => by rw [hp' i (by omega)]) u1, lnkF_to (fun i hi => by rw [hp' i (by omega)]) u2⟩
    · rw [b1, f1]
      have u1 := unt_B (K := fun i => N 1 (p i)) ht hij hp' (hlk 1 (by omega)).1 hb1 hf1
      have u2 := unt_F (K := fun i => N 1 (p i)) ht hij hp' (hlk 1 (by omega)).2 hb1 hf1
      exact ⟨lnkB_to (fun i hi => by rw [hp' i (by omega)]) u1, lnkF_to (fun i hi => by rw [hp' i (by omega)]) u2⟩
end
section
set_option maxHeartbeats 4000000 in
set_option maxRecDepth 100000 in
/-- Threads.isSoundFrom: the thread goes as the order does -/
theorem c_isSoundFrom (l : Launch) (G : Gd) (a p : Nat → Nat) (N : Nat → Nat → Int32) (B F : Nat → Nat → Option Nat) (n : Nat) (d t : Nat) (hd : d < 2) (ht : t < n) (hn : n ≤ 300) (hp : ∀ i, i < 300 → p i < 300) (hB : lnkB p (fun i => N d (p i)) (B d) n) (hF : lnkF p (fun i => N d (p i)) (F d) n) (hf : ∀ j, j < t → ¬ N d (p j) = N d (p t)) : Mt l yX2_isSoundFrom wsX2_isSoundFrom 0 0 [.ref (a 0), .int (nI d), .int (nI t)] G (cT G a p N B F n ++ []) (fun _ => False) (fun r _ => r = some (.int (nI 1))) := by
  refine Mt.mk cX2_isSoundFrom 8 (some .boolean) (by decide) rfl (Nat.le_of_ble_eq_true rfl) ?_
  intro p9 e s m below meth c ls hx hb hr hml hts hown hlocks hP hK hl
  have hinX2 : ∀ w ∈ wsX20, w ∈ wsX2_isSoundFrom := by decide +kernel
  have hS : va_S (fun _ => False) s.heap s.heap [] := va_S.rf
  have hl : lv_has ls 8 [(0, .ref (a 0)), (1, .int (nI d)), (2, .int (nI t))] := hl
  have hown : s.vm.findClass RX2 = some m.cls := hown
  have hpt := hp t (by omega)
  refine lv_aload_n hx hb dX2_isSoundFrom_0 rfl (lv_at hl 0 rfl) ?_
  refine va_get (D := G.1) (ci := 2) (v := .ref (a 1)) (C := RX2) (T := TX2) (N := 5) hx hb hts hinX2 hown hK.1 hP 0 rfl rfl 0 (by decide) (hts (.fieldLink RX2 9 "PairThreads$Threads" "order" "[I") (by decide +kernel)) (fun _ h9 => h9) rfl dX2_isSoundFrom_1 ?_
  refine lv_iload_n hx hb dX2_isSoundFrom_4 rfl (lv_at hl 2 rfl) ?_
  refine z_ialdN hx hb hK hP 1 rfl (j := t) (by omega) (by decide) dX2_isSoundFrom_5 ?_
  refine lv_istore_n (lv' := [(3, .int (nI (p t))), (0, .ref (a 0)), (1, .int (nI d)), (2, .int (nI t))]) hx hb dX2_isSoundFrom_6 rfl hl (by decide) rfl (fun ls hl => ?_)
  refine lv_iconst (v := (-1)) hx hb dX2_isSoundFrom_7 rfl ?_
  refine lv_istore (lv' := [(4, .int ((-1))), (3, .int (nI (p t))), (0, .ref (a 0)), (1, .int (nI d)), (2, .int (nI t))]) hx hb dX2_isSoundFrom_8 hl (by decide) rfl (fun ls hl => ?_)
  refine lv_aload_n hx hb dX2_isSoundFrom_10 rfl (lv_at hl 2 rfl) ?_
  refine va_get (D := G.1) (ci := 2) (v := .ref (a 2)) (C := RX2) (T := TX2) (N := 5) hx hb hts hinX2 hown hK.1 hP 0 rfl rfl 1 (by decide) (hts (.fieldLink RX2 17 "PairThreads$Threads" "number" "[[I") (by decide +kernel)) (fun _ h9 => h9) rfl dX2_isSoundFrom_11 ?_
  refine lv_iload_n hx hb dX2_isSoundFrom_14 rfl (lv_at hl 3 rfl) ?_
  refine z_ald hx hb hK hP 2 rfl (j := d) (by omega) (by decide) dX2_isSoundFrom_15 ?_
  refine lv_iload_n hx hb dX2_isSoundFrom_16 rfl (lv_at hl 1 rfl) ?_
  refine z_iald hx hb hK hP (5 + d) (cT_N hd) (j := p t) (by omega) (by decide) dX2_isSoundFrom_17 ?_
  refine lv_istore (lv' := [(5, .int (N d (p t))), (4, .int ((-1))), (3, .int (nI (p t))), (0, .ref (a 0)), (1, .int (nI d)), (2, .int (nI t))]) hx hb dX2_isSoundFrom_18 hl (by decide) rfl (fun ls hl => ?_)
  refine lv_iload_n hx hb dX2_isSoundFrom_20 rfl (lv_at hl 5 rfl) ?_
  refine lv_istore (lv' := [(6, .int (nI t)), (5, .int (N d (p t))), (4, .int ((-1))), (3, .int (nI (p t))), (0, .ref (a 0)), (1, .int (nI d)), (2, .int (nI t))]) hx hb dX2_isSoundFrom_21 hl (by decide) rfl (fun ls hl => ?_)
  have hdue0 : (fun i (o : Option Nat) => (o = none ∧ ∀ j, i ≤ j → j < n → ¬ N d (p j) = N d (p t)) ∨ ∃ j, o = some j ∧ i ≤ j ∧ j < n ∧ N d (p j) = N d (p t) ∧ ∀ k, i ≤ k → k < j → ¬ N d (p k) = N d (p t)) t (some t) := Or.inr ⟨t, rfl, Nat.le_refl _, ht, rfl, fun k h1 h2 => absurd h2 (by omega)⟩
  have loop : ∀ (k9 : Nat) (i : Nat) (o : Option Nat) (u : Option Nat) (H : Heap) (locs : List Loc) (ls : Array Slot), n < i + k9 → t ≤ i ∧ i ≤ n → ((o = none ∧ ∀ j, i ≤ j → j < n → ¬ N d (p j) = N d (p t)) ∨ ∃ j, o = some j ∧ i ≤ j ∧ j < n ∧ N d (p j) = N d (p t) ∧ ∀ k, i ≤ k → k < j → ¬ N d (p k) = N d (p t)) → ((u = none ∧ ∀ j, j < i → ¬ N d (p j) = N d (p t)) ∨ ∃ j, u = some j ∧ j < i ∧ N d (p j) = N d (p t) ∧ ∀ k, j < k → k < i → ¬ N d (p k) = N d (p t)) → va_P G.1 vwCl (cT G a p N B F n ++ []) H → va_S (fun _ => False) s.heap H locs → lv_has ls 8 [(6, .int (nI i)), (5, .int (N d (p t))), (4, .int (lk (Option.map p u))), (3, .int (lk (Option.map p o))), (0, .ref (a 0)), (1, .int (nI d)), (2, .int (nI t))] → Wz p9 l e 0 0 s m [.ref (a 0), .int (nI d), .int (nI t)] below meth c (fun _ => False) (fun r _ => r = some (.int (nI 1))) H locs (F0 m 23 ls []) := by
    intro k9
    induction k9 with
    | zero =>
      intro i o u H locs ls hfuel hi hdue hprev hP hS hl
      exact absurd hfuel (by omega)
    | succ k9 ih =>
      intro i o u H locs ls hfuel hi hdue hprev hP hS hl
      refine lv_iload hx hb dX2_isSoundFrom_23 (lv_at hl 0 rfl) ?_
      refine lv_aload_n hx hb dX2_isSoundFrom_25 rfl (lv_at hl 4 rfl) ?_
      refine va_get (D := G.1) (ci := 2) (v := .int (nI n)) (C := RX2) (T := TX2) (N := 5) hx hb hts hinX2 hown hK.1 hP 0 rfl rfl 4 (by decide) (hts (.fieldLink RX2 26 "PairThreads$Threads" "size" "I") (by decide +kernel)) (fun _ h9 => h9) rfl dX2_isSoundFrom_26 ?_
      refine z_icmp_ge (tgt := 100) hx hb (by omega) (by omega) dX2_isSoundFrom_29 (by decide) (fun hc1 => ?_) (fun hc1 => ?_)
      · have ho : o = none := by rcases hdue with ⟨h1, -⟩ | ⟨j, -, h2, h3, -⟩; exact h1; omega
        subst ho
        have hl : lv_has ls 8 [(6, .int (nI i)), (5, .int (N d (p t))), (4, .int (lk (Option.map p u))), (3, .int (lk none)), (0, .ref (a 0)), (1, .int (nI d)), (2, .int (nI t))] := hl
        refine lv_iload_n hx hb dX2_isSoundFrom_100 rfl (lv_at hl 3 rfl) ?_
        refine lv_iconst (v := (-1)) hx hb dX2_isSoundFrom_101 rfl ?_
        refine z_none_ne (tgt := 109) hx hb (fun k hk => by cases hk) dX2_isSoundFrom_102 (by decide) (fun k hc2 => ?_) (fun hc2 => ?_)
        · cases hc2
        · refine lv_iconst (v := nI 1) hx hb dX2_isSoundFrom_105 rfl ?_
          refine lv_goto (tgt := 110) hx hb dX2_isSoundFrom_106 (by decide) ?_
          exact z_zret hx hb hr rfl hlocks rfl hS dX2_isSoundFrom_110
      · have hpi := hp i (by omega)
        refine lv_aload_n hx hb dX2_isSoundFrom_32 rfl (lv_at hl 4 rfl) ?_
        refine va_get (D := G.1) (ci := 2) (v := .ref (a 1)) (C := RX2) (T := TX2) (N := 5) hx hb hts hinX2 hown hK.1 hP 0 rfl rfl 0 (by decide) (hts (.fieldLink RX2 9 "PairThreads$Threads" "order" "[I") (by decide +kernel)) (fun _ h9 => h9) rfl dX2_isSoundFrom_33 ?_
        refine lv_iload hx hb dX2_isSoundFrom_36 (lv_at hl 0 rfl) ?_
        refine z_ialdN hx hb hK hP 1 rfl (j := i) (by omega) (by decide) dX2_isSoundFrom_38 ?_
        refine lv_istore (lv' := [(7, .int (nI (p i))), (6, .int (nI i)), (5, .int (N d (p t))), (4, .int (lk (Option.map p u))), (3, .int (lk (Option.map p o))), (0, .ref (a 0)), (1, .int (nI d)), (2, .int (nI t))]) hx hb dX2_isSoundFrom_39 hl (by decide) rfl (fun ls hl => ?_)
        refine lv_aload_n hx hb dX2_isSoundFrom_41 rfl (lv_at hl 5 rfl) ?_
        refine va_get (D := G.1) (ci := 2) (v := .ref (a 2)) (C := RX2) (T := TX2) (N := 5) hx hb hts hinX2 hown hK.1 hP 0 rfl rfl 1 (by decide) (hts (.fieldLink RX2 17 "PairThreads$Threads" "number" "[[I") (by decide +kernel)) (fun _ h9 => h9) rfl dX2_isSoundFrom_42 ?_
        refine lv_iload_n hx hb dX2_isSoundFrom_45 rfl (lv_at hl 6 rfl) ?_
        refine z_ald hx hb hK hP 2 rfl (j := d) (by omega) (by decide) dX2_isSoundFrom_46 ?_
        refine lv_iload hx hb dX2_isSoundFrom_47 (lv_at hl 0 rfl) ?_
        refine z_iald hx hb hK hP (5 + d) (cT_N hd) (j := p i) (by omega) (by decide) dX2_isSoundFrom_49 ?_
        refine lv_iload hx hb dX2_isSoundFrom_50 (lv_at hl 2 rfl) ?_
        refine lv_icmp_eq (tgt := 58) hx hb dX2_isSoundFrom_52 (by decide) (fun hc3 => ?_) (fun hc3 => ?_)
        · have ho : o = some i := by rcases hdue with ⟨-, h1⟩ | ⟨j, h1, h2, h3, h4, h5⟩; exact absurd hc3 (h1 i (Nat.le_refl _) (by omega)); rcases Nat.eq_or_lt_of_le h2 with q | q; rw [h1, q]; exact absurd hc3 (h5 i (Nat.le_refl _) q)
          subst ho
          have hl : lv_has ls 8 [(7, .int (nI (p i))), (6, .int (nI i)), (5, .int (N d (p t))), (4, .int (lk (Option.map p u))), (3, .int (nI (p i))), (0, .ref (a 0)), (1, .int (nI d)), (2, .int (nI t))] := hl
          refine lv_iload hx hb dX2_isSoundFrom_58 (lv_at hl 0 rfl) ?_
          refine lv_iload_n hx hb dX2_isSoundFrom_60 rfl (lv_at hl 4 rfl) ?_
          refine z_icmp_ne (tgt := 78) hx hb (by omega) (by omega) dX2_isSoundFrom_61 (by decide) (fun hc4 => ?_) (fun hc4 => ?_)
          · exact absurd rfl hc4
          · obtain ⟨ob, hob, hpr⟩ := hB i (by omega)
            have hub : ob = u := by
              have hpr : prevR (fun i => N d (p i)) i ob := hpr
              rcases hpr with ⟨e1, h1⟩ | ⟨j, e1, h1, h2, h3⟩ <;> rcases hprev with ⟨e2, g1⟩ | ⟨k, e2, g1, g2, g3⟩
              · rw [e1, e2]
              · exact absurd (g2.trans hc3.symm) (h1 k g1)
              · exact absurd (h2.trans hc3) (g1 j h1)
              · rcases Nat.lt_trichotomy j k with z | z | z
                · exact absurd (g2.trans hc3.symm) (h3 k z g1)
                · rw [e1, e2, z]
                · exact absurd (h2.trans hc3) (g3 j z h1)
            subst hub
            refine lv_aload_n hx hb dX2_isSoundFrom_64 rfl (lv_at hl 5 rfl) ?_
            refine va_get (D := G.1) (ci := 2) (v := .ref (a 3)) (C := RX2) (T := TX2) (N := 5) hx hb hts hinX2 hown hK.1 hP 0 rfl rfl 2 (by decide) (hts (.fieldLink RX2 20 "PairThreads$Threads" "before" "[[I") (by decide +kernel)) (fun _ h9 => h9) rfl dX2_isSoundFrom_65 ?_
            refine lv_iload_n hx hb dX2_isSoundFrom_68 rfl (lv_at hl 6 rfl) ?_
            refine z_ald hx hb hK hP 3 rfl (j := d) (by omega) (by decide) dX2_isSoundFrom_69 ?_
            refine lv_iload hx hb dX2_isSoundFrom_70 (lv_at hl 0 rfl) ?_
            refine z_ialdO hx hb hK hP (7 + d) (cT_B hd) (j := p i) (by omega) (by decide) dX2_isSoundFrom_72 ?_
            refine lv_iload hx hb dX2_isSoundFrom_73 (lv_at hl 3 rfl) ?_
            refine lv_icmp_eq (tgt := 80) hx hb dX2_isSoundFrom_75 (by decide) (fun hc5 => ?_) (fun hc5 => ?_)
            · obtain ⟨o2, ho2, hnx⟩ := hF i (by omega)
              refine lv_iload hx hb dX2_isSoundFrom_80 (lv_at hl 0 rfl) ?_
              refine lv_istore (lv' := [(4, .int (nI (p i))), (7, .int (nI (p i))), (6, .int (nI i)), (5, .int (N d (p t))), (3, .int (nI (p i))), (0, .ref (a 0)), (1, .int (nI d)), (2, .int (nI t))]) hx hb dX2_isSoundFrom_82 hl (by decide) rfl (fun ls hl => ?_)
              refine lv_aload_n hx hb dX2_isSoundFrom_84 rfl (lv_at hl 5 rfl) ?_
              refine va_get (D := G.1) (ci := 2) (v := .ref (a 4)) (C := RX2) (T := TX2) (N := 5) hx hb hts hinX2 hown hK.1 hP 0 rfl rfl 3 (by decide) (hts (.fieldLink RX2 23 "PairThreads$Threads" "after" "[[I") (by decide +kernel)) (fun _ h9 => h9) rfl dX2_isSoundFrom_85 ?_
              refine lv_iload_n hx hb dX2_isSoundFrom_88 rfl (lv_at hl 6 rfl) ?_
              refine z_ald hx hb hK hP 4 rfl (j := d) (by omega) (by decide) dX2_isSoundFrom_89 ?_
              refine lv_iload hx hb dX2_isSoundFrom_90 (lv_at hl 1 rfl) ?_
              refine z_ialdO hx hb hK hP (9 + d) (cT_F hd) (j := p i) (by omega) (by decide) dX2_isSoundFrom_92 ?_
              refine z_top (y := lk (Option.map p o2)) (congrArg lk ho2) ?_
              refine lv_istore_n (lv' := [(3, .int (lk (Option.map p o2))), (4, .int (nI (p i))), (7, .int (nI (p i))), (6, .int (nI i)), (5, .int (N d (p t))), (0, .ref (a 0)), (1, .int (nI d)), (2, .int (nI t))]) hx hb dX2_isSoundFrom_93 rfl hl (by decide) rfl (fun ls hl => ?_)
              refine z_iinc (lv' := [(6, .int (nI (i + 1))), (3, .int (lk (Option.map p o2))), (4, .int (nI (p i))), (7, .int (nI (p i))), (5, .int (N d (p t))), (0, .ref (a 0)), (1, .int (nI d)), (2, .int (nI t))]) hx hb dX2_isSoundFrom_94 hl (k := 3) rfl (by decide) rfl (fun ls hl => ?_)
              refine lv_goto (tgt := 23) hx hb dX2_isSoundFrom_97 (by decide) ?_
              have hl : lv_has ls 8 [(6, .int (nI (i + 1))), (3, .int (lk (Option.map p o2))), (4, .int (lk (Option.map p (some i)))), (7, .int (nI (p i))), (5, .int (N d (p t))), (0, .ref (a 0)), (1, .int (nI d)), (2, .int (nI t))] := hl
              have hnx : nextR (fun i => N d (p i)) n i o2 := hnx
              exact ih (i + 1) o2 (some i) H locs ls (by omega) ⟨by omega, by omega⟩ (by rcases hnx with ⟨e1, h1⟩ | ⟨j, e1, h1, h2, h3, h4⟩; exact Or.inl ⟨e1, fun j q1 q2 q3 => h1 j q1 q2 (q3.trans hc3.symm)⟩; exact Or.inr ⟨j, e1, h1, h2, h3.trans hc3, fun k q1 q2 q3 => h4 k q1 q2 (q3.trans hc3.symm)⟩) (Or.inr ⟨i, rfl, by omega, hc3, fun k q1 q2 => absurd q2 (by omega)⟩) hP hS (lv_sub hl [0, 4, 2, 1, 5, 6, 7] rfl)
            · exact absurd (congrArg lk hob) hc5
        · refine lv_goto (tgt := 94) hx hb dX2_isSoundFrom_55 (by decide) ?_
          refine z_iinc (lv' := [(6, .int (nI (i + 1))), (7, .int (nI (p i))), (5, .int (N d (p t))), (4, .int (lk (Option.map p u))), (3, .int (lk (Option.map p o))), (0, .ref (a 0)), (1, .int (nI d)), (2, .int (nI t))]) hx hb dX2_isSoundFrom_94 hl (k := 1) rfl (by decide) rfl (fun ls hl => ?_)
          refine lv_goto (tgt := 23) hx hb dX2_isSoundFrom_97 (by decide) ?_
          exact ih (i + 1) o u H locs ls (by omega) ⟨by omega, by omega⟩ (by rcases hdue with ⟨e1, h1⟩ | ⟨j, e1, h1, h2, h3, h4⟩; exact Or.inl ⟨e1, fun j q1 q2 => h1 j (by omega) q2⟩; exact Or.inr ⟨j, e1, by rcases Nat.eq_or_lt_of_le h1 with q | q; rw [← q] at h3; exact absurd h3 hc3; exact q, h2, h3, fun k q1 q2 => h4 k (by omega) q2⟩) (by rcases hprev with ⟨e1, h1⟩ | ⟨j, e1, h1, h2, h3⟩; exact Or.inl ⟨e1, (fun j hj => by rcases Nat.lt_succ_iff_lt_or_eq.mp hj with q | q; exact h1 j q; exact q ▸ hc3)⟩; exact Or.inr ⟨j, e1, by omega, h2, fun k q1 q2 => by rcases Nat.lt_succ_iff_lt_or_eq.mp q2 with q | q; exact h3 k q1 q; exact q ▸ hc3⟩) hP hS (lv_sub hl [0, 2, 3, 4, 5, 6, 7] rfl)
  have hl : lv_has ls 8 [(6, .int (nI t)), (5, .int (N d (p t))), (4, .int (lk (Option.map p none))), (3, .int (nI (p t))), (0, .ref (a 0)), (1, .int (nI d)), (2, .int (nI t))] := hl
  have hl : lv_has ls 8 [(6, .int (nI t)), (5, .int (N d (p t))), (4, .int (lk (Option.map p none))), (3, .int (lk (Option.map p (some t)))), (0, .ref (a 0)), (1, .int (nI d)), (2, .int (nI t))] := hl
  exact loop (n + 1) t (some t) none _ _ ls (by omega) ⟨by omega, by omega⟩ hdue0 (Or.inl ⟨rfl, hf⟩) hP hS (lv_sub hl [0, 1, 2, 3, 4, 5, 6] rfl)

set_option maxHeartbeats 4000000 in
set_option maxRecDepth 100000 in
/-- Threads.areSound: it always is so -/
theorem c_areSound (l : Launch) (G : Gd) (a p : Nat → Nat) (N : Nat → Nat → Int32) (B F : Nat → Nat → Option Nat) (n : Nat) (d : Nat) (hd : d < 2) (hn : n ≤ 300) (hp : ∀ i, i < 300 → p i < 300) (hij : ∀ i j, i < 300 → j < 300 → p i = p j → i = j) (hB : lnkB p (fun i => N d (p i)) (B d) n) (hF : lnkF p (fun i => N d (p i)) (F d) n) : Mt l yX2_areSound wsX2_areSound 1 27 [.ref (a 0), .int (nI d)] G (cT G a p N B F n ++ []) (fun _ => False) (fun r _ => r = some (.int (nI 1))) := by
  refine Mt.mk cX2_areSound 4 (some .boolean) (by decide) rfl (Nat.le_of_ble_eq_true rfl) ?_
  intro p9 e s m below meth c ls hx hb hr hml hts hown hlocks hP hK hl
  have hinX2 : ∀ w ∈ wsX20, w ∈ wsX2_areSound := by decide +kernel
  have hS : va_S (fun _ => False) s.heap s.heap [] := va_S.rf
  have hl : lv_has ls 4 [(0, .ref (a 0)), (1, .int (nI d))] := hl
  have hown : s.vm.findClass RX2 = some m.cls := hown
  refine lv_iconst (v := nI 0) hx hb dX2_areSound_0 rfl ?_
  refine lv_istore_n (lv' := [(2, .int (nI 0)), (0, .ref (a 0)), (1, .int (nI d))]) hx hb dX2_areSound_1 rfl hl (by decide) rfl (fun ls hl => ?_)
  have loop : ∀ (k9 : Nat) (i : Nat) (H : Heap) (locs : List Loc) (ls : Array Slot), n < i + k9 → i ≤ n → va_P G.1 vwCl (cT G a p N B F n ++ []) H → va_S (fun _ => False) s.heap H locs → lv_has ls 4 [(2, .int (nI i)), (0, .ref (a 0)), (1, .int (nI d))] → Wz p9 l e 1 27 s m [.ref (a 0), .int (nI d)] below meth c (fun _ => False) (fun r _ => r = some (.int (nI 1))) H locs (F0 m 2 ls []) := by
    intro k9
    induction k9 with
    | zero =>
      intro i H locs ls hfuel hi hP hS hl
      exact absurd hfuel (by omega)
    | succ k9 ih =>
      intro i H locs ls hfuel hi hP hS hl
      refine lv_iload_n hx hb dX2_areSound_2 rfl (lv_at hl 0 rfl) ?_
      refine lv_aload_n hx hb dX2_areSound_3 rfl (lv_at hl 1 rfl) ?_
      refine va_get (D := G.1) (ci := 2) (v := .int (nI n)) (C := RX2) (T := TX2) (N := 5) hx hb hts hinX2 hown hK.1 hP 0 rfl rfl 4 (by decide) (hts (.fieldLink RX2 26 "PairThreads$Threads" "size" "I") (by decide +kernel)) (fun _ h9 => h9) rfl dX2_areSound_4 ?_
      refine z_icmp_ge (tgt := 51) hx hb (by omega) (by omega) dX2_areSound_7 (by decide) (fun hc1 => ?_) (fun hc1 => ?_)
      · refine lv_iconst (v := nI 1) hx hb dX2_areSound_51 rfl ?_
        exact z_zret hx hb hr rfl hlocks rfl hS dX2_areSound_52
      · have hpi := hp i (by omega)
        refine lv_aload_n hx hb dX2_areSound_10 rfl (lv_at hl 1 rfl) ?_
        refine va_get (D := G.1) (ci := 2) (v := .ref (a 1)) (C := RX2) (T := TX2) (N := 5) hx hb hts hinX2 hown hK.1 hP 0 rfl rfl 0 (by decide) (hts (.fieldLink RX2 9 "PairThreads$Threads" "order" "[I") (by decide +kernel)) (fun _ h9 => h9) rfl dX2_areSound_11 ?_
        refine lv_iload_n hx hb dX2_areSound_14 rfl (lv_at hl 0 rfl) ?_
        refine z_ialdN hx hb hK hP 1 rfl (j := i) (by omega) (by decide) dX2_areSound_15 ?_
        refine lv_istore_n (lv' := [(3, .int (nI (p i))), (2, .int (nI i)), (0, .ref (a 0)), (1, .int (nI d))]) hx hb dX2_areSound_16 rfl hl (by decide) rfl (fun ls hl => ?_)
        refine lv_aload_n hx hb dX2_areSound_17 rfl (lv_at hl 2 rfl) ?_
        refine lv_iload_n hx hb dX2_areSound_18 rfl (lv_at hl 3 rfl) ?_
        refine lv_aload_n hx hb dX2_areSound_19 rfl (lv_at hl 2 rfl) ?_
        refine va_get (D := G.1) (ci := 2) (v := .ref (a 2)) (C := RX2) (T := TX2) (N := 5) hx hb hts hinX2 hown hK.1 hP 0 rfl rfl 1 (by decide) (hts (.fieldLink RX2 17 "PairThreads$Threads" "number" "[[I") (by decide +kernel)) (fun _ h9 => h9) rfl dX2_areSound_20 ?_
        refine lv_iload_n hx hb dX2_areSound_23 rfl (lv_at hl 3 rfl) ?_
        refine z_ald hx hb hK hP 2 rfl (j := d) (by omega) (by decide) dX2_areSound_24 ?_
        refine lv_iload_n hx hb dX2_areSound_25 rfl (lv_at hl 0 rfl) ?_
        refine z_iald hx hb hK hP (5 + d) (cT_N hd) (j := p i) (by omega) (by decide) dX2_areSound_26 ?_
        refine z_callV (rest := []) 2 ⟨hx, hb, hml, hown, hts⟩ hK (c_firstOf l G a p N B F n d (N d (p i)) hd hn hp) gX2_areSound_X2_firstOf rfl (by decide +kernel) ⟨Nat.le_of_ble_eq_true rfl, Nat.le_of_ble_eq_true rfl⟩ hP 0 rfl rfl rfl rfl hl.1 rfl (Nat.le_of_ble_eq_true rfl) dX2_areSound_27 ⟨Nat.le_refl _, Nat.le_refl _⟩ hS (fun _ h => h.elim) (fun v9 H9 locs hR9 hk9 hS => ?_)
        obtain ⟨o, rfl, ho⟩ := hR9
        have hP := P_keep0 hP hk9
        clear hk9
        generalize H9 = H at hP hS ⊢
        refine W.eq (g2 := F0 m 30 ls [.int (lk (Option.map p o))]) rfl ?_
        rcases ho with ⟨ho, hno⟩ | ⟨f, ho, hf1, hf2, hf3⟩
        · exact absurd rfl (hno i (by omega))
        · subst ho
          have hpf := hp f (by omega)
          refine z_top (y := nI (p f)) (rfl) ?_
          refine lv_iload_n hx hb dX2_areSound_30 rfl (lv_at hl 0 rfl) ?_
          refine z_icmp_ne (tgt := 45) hx hb (by omega) (by omega) dX2_areSound_31 (by decide) (fun hc2 => ?_) (fun hc2 => ?_)
          · refine z_iinc (lv' := [(2, .int (nI (i + 1))), (3, .int (nI (p i))), (0, .ref (a 0)), (1, .int (nI d))]) hx hb dX2_areSound_45 hl (k := 1) rfl (by decide) rfl (fun ls hl => ?_)
            refine lv_goto (tgt := 2) hx hb dX2_areSound_48 (by decide) ?_
            exact ih (i + 1) H locs ls (by omega) (by omega) hP hS (lv_sub hl [0, 2, 3] rfl)
          · have hfi := hij f i (by omega) (by omega) hc2
            subst hfi
            have hl : lv_has ls 4 [(3, .int (nI (p f))), (2, .int (nI f)), (0, .ref (a 0)), (1, .int (nI d))] := hl
            refine lv_aload_n hx hb dX2_areSound_34 rfl (lv_at hl 2 rfl) ?_
            refine lv_iload_n hx hb dX2_areSound_35 rfl (lv_at hl 3 rfl) ?_
            refine lv_iload_n hx hb dX2_areSound_36 rfl (lv_at hl 1 rfl) ?_
            refine z_callV (rest := []) 2 ⟨hx, hb, hml, hown, hts⟩ hK (c_isSoundFrom l G a p N B F n d f hd hf1 hn hp hB hF hf3) gX2_areSound_X2_isSoundFrom rfl (by decide +kernel) ⟨Nat.le_of_ble_eq_true rfl, Nat.le_of_ble_eq_true rfl⟩ hP 0 rfl rfl rfl rfl hl.1 rfl (Nat.le_of_ble_eq_true rfl) dX2_areSound_37 ⟨Nat.le_refl _, Nat.le_refl _⟩ hS (fun _ h => h.elim) (fun v9 H9 locs hR9 hk9 hS => ?_)
            obtain rfl := hR9
            have hP := P_keep0 hP hk9
            clear hk9
            generalize H9 = H at hP hS ⊢
            refine W.eq (g2 := F0 m 40 ls [.int (nI 1)]) rfl ?_
            refine z_if_ne (tgt := 45) hx hb (by omega) dX2_areSound_40 (by decide) (fun hc3 => ?_) (fun hc3 => ?_)
            · refine z_iinc (lv' := [(2, .int (nI (f + 1))), (3, .int (nI (p f))), (0, .ref (a 0)), (1, .int (nI d))]) hx hb dX2_areSound_45 hl (k := 1) rfl (by decide) rfl (fun ls hl => ?_)
              refine lv_goto (tgt := 2) hx hb dX2_areSound_48 (by decide) ?_
              exact ih (f + 1) H locs ls (by omega) (by omega) hP hS (lv_sub hl [0, 2, 3] rfl)
            · exact absurd hc3 (by decide)
  exact loop (n + 1) 0 _ _ ls (by omega) (by omega) hP hS (lv_sub hl [0, 1, 2] rfl)

set_option maxHeartbeats 4000000 in
set_option maxRecDepth 100000 in
/-- Threads.tieOn -/
theorem c_tieOn (l : Launch) (G : Gd) (a p : Nat → Nat) (N : Nat → Nat → Int32) (B F : Nat → Nat → Option Nat) (n : Nat) (d sl : Nat) (v : Int32) (hd : d < 2) (hsl : sl < 300) (hn : n ≤ 300) (hp : ∀ i, i < 300 → p i < 300) (hnd : (aT a).Nodup) : Mt l yX2_tieOn wsX2_tieOn 1 23 [.ref (a 0), .int (nI d), .int (nI sl), .int (v)] G (cT G a p N B F n ++ []) (fun q => q ∈ aT a) (fun r h => r = none ∧ ∃ o : Option Nat, lastR (fun i => N d (p i)) n v o ∧ va_P G.1 vwCl (cT G a p (va_up N d (upd (N d) sl v)) (va_up B d (va_up (B d) sl (Option.map p o))) (va_up F d (tieFd p (F d) sl o)) n ++ []) h) := by
  refine Mt.mk cX2_tieOn 5 none (by decide) rfl (Nat.le_of_ble_eq_true rfl) ?_
  intro p9 e s m below meth c ls hx hb hr hml hts hown hlocks hP hK hl
  have hinX2 : ∀ w ∈ wsX20, w ∈ wsX2_tieOn := by decide +kernel
  have hS : va_S (fun q => q ∈ aT a) s.heap s.heap [] := va_S.rf
  have hl : lv_has ls 5 [(0, .ref (a 0)), (1, .int (nI d)), (2, .int (nI sl)), (3, .int (v))] := hl
  have hown : s.vm.findClass RX2 = some m.cls := hown
  have hDD : ∀ ws : va_W, ws.map Prod.fst = aT a → va_D (fun q => q ∈ aT a) ws := D_of hnd (fun q h => h)
  refine lv_aload_n hx hb dX2_tieOn_0 rfl (lv_at hl 0 rfl) ?_
  refine lv_iload_n hx hb dX2_tieOn_1 rfl (lv_at hl 1 rfl) ?_
  refine lv_iload_n hx hb dX2_tieOn_2 rfl (lv_at hl 3 rfl) ?_
  refine z_callV (rest := []) 2 ⟨hx, hb, hml, hown, hts⟩ hK (c_lastOf l G a p N B F n d v hd hn hp) gX2_tieOn_X2_lastOf rfl (by decide +kernel) ⟨Nat.le_of_ble_eq_true rfl, Nat.le_of_ble_eq_true rfl⟩ hP 0 rfl rfl rfl rfl hl.1 rfl (Nat.le_of_ble_eq_true rfl) dX2_tieOn_3 ⟨Nat.le_refl _, Nat.le_refl _⟩ hS (fun _ h => h.elim) (fun v9 H9 locs hR9 hk9 hS => ?_)
  obtain ⟨o, rfl, ho⟩ := hR9
  have hP := P_keep0 hP hk9
  clear hk9
  generalize H9 = H at hP hS ⊢
  refine W.eq (g2 := F0 m 6 ls [.int (lk (Option.map p o))]) rfl ?_
  have hol : ∀ j, o = some j → j < n := fun j hj => by rcases ho with ⟨e1, -⟩ | ⟨k, e1, h1, -⟩; rw [e1] at hj; cases hj; rw [e1] at hj; cases hj; exact h1
  refine lv_istore (lv' := [(4, .int (lk (Option.map p o))), (0, .ref (a 0)), (1, .int (nI d)), (2, .int (nI sl)), (3, .int (v))]) hx hb dX2_tieOn_6 hl (by decide) rfl (fun ls hl => ?_)
  refine lv_aload_n hx hb dX2_tieOn_8 rfl (lv_at hl 1 rfl) ?_
  refine va_get (D := G.1) (ci := 2) (v := .ref (a 2)) (C := RX2) (T := TX2) (N := 5) hx hb hts hinX2 hown hK.1 hP 0 rfl rfl 1 (by decide) (hts (.fieldLink RX2 17 "PairThreads$Threads" "number" "[[I") (by decide +kernel)) (fun _ h9 => h9) rfl dX2_tieOn_9 ?_
  refine lv_iload_n hx hb dX2_tieOn_12 rfl (lv_at hl 2 rfl) ?_
  refine z_ald hx hb hK hP 2 rfl (j := d) (by omega) (by decide) dX2_tieOn_13 ?_
  refine lv_iload_n hx hb dX2_tieOn_14 rfl (lv_at hl 3 rfl) ?_
  refine lv_iload_n hx hb dX2_tieOn_15 rfl (lv_at hl 4 rfl) ?_
  refine z_iast hx hb hK hP (hDD _ rfl) hS (5 + d) (cT_N hd) (j := sl) (by omega) (by decide) dX2_tieOn_16 (fun H locs hP hS => ?_)
  rw [cT_sN hd] at hP
  refine lv_aload_n hx hb dX2_tieOn_17 rfl (lv_at hl 1 rfl) ?_
  refine va_get (D := G.1) (ci := 2) (v := .ref (a 3)) (C := RX2) (T := TX2) (N := 5) hx hb hts hinX2 hown hK.1 hP 0 rfl rfl 2 (by decide) (hts (.fieldLink RX2 20 "PairThreads$Threads" "before" "[[I") (by decide +kernel)) (fun _ h9 => h9) rfl dX2_tieOn_18 ?_
  refine lv_iload_n hx hb dX2_tieOn_21 rfl (lv_at hl 2 rfl) ?_
  refine z_ald hx hb hK hP 3 rfl (j := d) (by omega) (by decide) dX2_tieOn_22 ?_
  refine lv_iload_n hx hb dX2_tieOn_23 rfl (lv_at hl 3 rfl) ?_
  refine lv_iload hx hb dX2_tieOn_24 (lv_at hl 0 rfl) ?_
  refine z_iastO hx hb hK hP (hDD _ rfl) hS (7 + d) (cT_B hd) (j := sl) (by omega) (by decide) dX2_tieOn_26 (fun H locs hP hS => ?_)
  rw [cT_sB hd] at hP
  refine lv_aload_n hx hb dX2_tieOn_27 rfl (lv_at hl 1 rfl) ?_
  refine va_get (D := G.1) (ci := 2) (v := .ref (a 4)) (C := RX2) (T := TX2) (N := 5) hx hb hts hinX2 hown hK.1 hP 0 rfl rfl 3 (by decide) (hts (.fieldLink RX2 23 "PairThreads$Threads" "after" "[[I") (by decide +kernel)) (fun _ h9 => h9) rfl dX2_tieOn_28 ?_
  refine lv_iload_n hx hb dX2_tieOn_31 rfl (lv_at hl 2 rfl) ?_
  refine z_ald hx hb hK hP 4 rfl (j := d) (by omega) (by decide) dX2_tieOn_32 ?_
  refine lv_iload_n hx hb dX2_tieOn_33 rfl (lv_at hl 3 rfl) ?_
  refine lv_iconst (v := (-1)) hx hb dX2_tieOn_34 rfl ?_
  refine z_top (y := lk none) (rfl) ?_
  refine z_iastO hx hb hK hP (hDD _ rfl) hS (9 + d) (cT_F hd) (j := sl) (by omega) (by decide) dX2_tieOn_35 (fun H locs hP hS => ?_)
  rw [cT_sF hd] at hP
  refine lv_iload hx hb dX2_tieOn_36 (lv_at hl 0 rfl) ?_
  refine lv_iconst (v := (-1)) hx hb dX2_tieOn_38 rfl ?_
  refine z_none_eq (tgt := 52) hx hb (fun k hk => by have := mp_lt hp hn hol hk; omega) dX2_tieOn_39 (by decide) (fun hc1 => ?_) (fun k hc1 => ?_)
  · have hon : o = none := by cases o with | none => rfl | some j => cases hc1
    subst hon
    exact z_vret hx hb hr hlocks ⟨rfl, none, ho, hP⟩ hS dX2_tieOn_52
  · obtain ⟨j, hoj, hjk⟩ := Option.map_eq_some_iff.mp hc1
    subst hoj
    clear hjk
    have hl : lv_has ls 5 [(4, .int (nI (p j))), (0, .ref (a 0)), (1, .int (nI d)), (2, .int (nI sl)), (3, .int (v))] := hl
    have hpj := hp j (by have := hol j rfl; omega)
    refine lv_aload_n hx hb dX2_tieOn_42 rfl (lv_at hl 1 rfl) ?_
    refine va_get (D := G.1) (ci := 2) (v := .ref (a 4)) (C := RX2) (T := TX2) (N := 5) hx hb hts hinX2 hown hK.1 hP 0 rfl rfl 3 (by decide) (hts (.fieldLink RX2 23 "PairThreads$Threads" "after" "[[I") (by decide +kernel)) (fun _ h9 => h9) rfl dX2_tieOn_43 ?_
    refine lv_iload_n hx hb dX2_tieOn_46 rfl (lv_at hl 2 rfl) ?_
    refine z_ald hx hb hK hP 4 rfl (j := d) (by omega) (by decide) dX2_tieOn_47 ?_
    refine lv_iload hx hb dX2_tieOn_48 (lv_at hl 0 rfl) ?_
    refine lv_iload_n hx hb dX2_tieOn_50 rfl (lv_at hl 3 rfl) ?_
    refine z_top (y := lk (some sl)) (rfl) ?_
    refine z_iastO hx hb hK hP (hDD _ rfl) hS (9 + d) (cT_F hd) (j := p j) (by omega) (by decide) dX2_tieOn_51 (fun H locs hP hS => ?_)
    rw [cT_sF hd] at hP
    exact z_vret hx hb hr hlocks ⟨rfl, some j, ho, by rw [bx_uu, up_s] at hP; exact hP⟩ hS dX2_tieOn_52

set_option maxHeartbeats 4000000 in
set_option maxRecDepth 100000 in
/-- Threads.untie -/
theorem c_untie (l : Launch) (G : Gd) (a p : Nat → Nat) (N : Nat → Nat → Int32) (B F : Nat → Nat → Option Nat) (n : Nat) (d sl : Nat) (ob of' : Option Nat) (hd : d < 2) (hsl : sl < 300) (hob : B d sl = Option.map p ob) (hof : F d sl = Option.map p of') (hlb : ∀ j, ob = some j → j < n) (hlf : ∀ j, of' = some j → j < n) (hn : n ≤ 300) (hp : ∀ i, i < 300 → p i < 300) (hnd : (aT a).Nodup) : Mt l yX2_untie wsX2_untie 0 0 [.ref (a 0), .int (nI d), .int (nI sl)] G (cT G a p N B F n ++ []) (fun q => q ∈ aT a) (fun r h => r = none ∧ va_P G.1 vwCl (cT G a p N (va_up B d (unt p (B d) of' ob)) (va_up F d (unt p (F d) ob of')) n ++ []) h) := by
  refine Mt.mk cX2_untie 5 none (by decide) rfl (Nat.le_of_ble_eq_true rfl) ?_
  intro p9 e s m below meth c ls hx hb hr hml hts hown hlocks hP hK hl
  have hinX2 : ∀ w ∈ wsX20, w ∈ wsX2_untie := by decide +kernel
  have hS : va_S (fun q => q ∈ aT a) s.heap s.heap [] := va_S.rf
  have hl : lv_has ls 5 [(0, .ref (a 0)), (1, .int (nI d)), (2, .int (nI sl))] := hl
  have hown : s.vm.findClass RX2 = some m.cls := hown
  have hDD : ∀ ws : va_W, ws.map Prod.fst = aT a → va_D (fun q => q ∈ aT a) ws := D_of hnd (fun q h => h)
  refine lv_aload_n hx hb dX2_untie_0 rfl (lv_at hl 0 rfl) ?_
  refine va_get (D := G.1) (ci := 2) (v := .ref (a 3)) (C := RX2) (T := TX2) (N := 5) hx hb hts hinX2 hown hK.1 hP 0 rfl rfl 2 (by decide) (hts (.fieldLink RX2 20 "PairThreads$Threads" "before" "[[I") (by decide +kernel)) (fun _ h9 => h9) rfl dX2_untie_1 ?_
  refine lv_iload_n hx hb dX2_untie_4 rfl (lv_at hl 1 rfl) ?_
  refine z_ald hx hb hK hP 3 rfl (j := d) (by omega) (by decide) dX2_untie_5 ?_
  refine lv_iload_n hx hb dX2_untie_6 rfl (lv_at hl 2 rfl) ?_
  refine z_ialdO hx hb hK hP (7 + d) (cT_B hd) (j := sl) (by omega) (by decide) dX2_untie_7 ?_
  refine z_top (y := lk (Option.map p ob)) (congrArg lk hob) ?_
  refine lv_istore_n (lv' := [(3, .int (lk (Option.map p ob))), (0, .ref (a 0)), (1, .int (nI d)), (2, .int (nI sl))]) hx hb dX2_untie_8 rfl hl (by decide) rfl (fun ls hl => ?_)
  refine lv_aload_n hx hb dX2_untie_9 rfl (lv_at hl 1 rfl) ?_
  refine va_get (D := G.1) (ci := 2) (v := .ref (a 4)) (C := RX2) (T := TX2) (N := 5) hx hb hts hinX2 hown hK.1 hP 0 rfl rfl 3 (by decide) (hts (.fieldLink RX2 23 "PairThreads$Threads" "after" "[[I") (by decide +kernel)) (fun _ h9 => h9) rfl dX2_untie_10 ?_
  refine lv_iload_n hx hb dX2_untie_13 rfl (lv_at hl 2 rfl) ?_
  refine z_ald hx hb hK hP 4 rfl (j := d) (by omega) (by decide) dX2_untie_14 ?_
  refine lv_iload_n hx hb dX2_untie_15 rfl (lv_at hl 3 rfl) ?_
  refine z_ialdO hx hb hK hP (9 + d) (cT_F hd) (j := sl) (by omega) (by decide) dX2_untie_16 ?_
  refine z_top (y := lk (Option.map p of')) (congrArg lk hof) ?_
  refine lv_istore (lv' := [(4, .int (lk (Option.map p of'))), (3, .int (lk (Option.map p ob))), (0, .ref (a 0)), (1, .int (nI d)), (2, .int (nI sl))]) hx hb dX2_untie_17 hl (by decide) rfl (fun ls hl => ?_)
  refine lv_iload_n hx hb dX2_untie_19 rfl (lv_at hl 1 rfl) ?_
  refine lv_iconst (v := (-1)) hx hb dX2_untie_20 rfl ?_
  refine z_none_eq (tgt := 34) hx hb (fun k hk => by have := mp_lt hp hn hlb hk; omega) dX2_untie_21 (by decide) (fun hc1 => ?_) (fun k hc1 => ?_)
  · have hon : ob = none := by cases ob with | none => rfl | some j => cases hc1
    subst hon
    have hl : lv_has ls 5 [(4, .int (lk (Option.map p of'))), (3, .int (lk (Option.map p none))), (0, .ref (a 0)), (1, .int (nI d)), (2, .int (nI sl))] := hl
    refine lv_iload hx hb dX2_untie_34 (lv_at hl 0 rfl) ?_
    refine lv_iconst (v := (-1)) hx hb dX2_untie_36 rfl ?_
    refine z_none_eq (tgt := 50) hx hb (fun k hk => by have := mp_lt hp hn hlf hk; omega) dX2_untie_37 (by decide) (fun hc2 => ?_) (fun k hc2 => ?_)
    · have hon : of' = none := by cases of' with | none => rfl | some j => cases hc2
      subst hon
      exact z_vret hx hb hr hlocks ⟨rfl, by rw [show unt p (B d) none _ = B d from rfl, up_id]; exact by rw [show unt p (F d) none _ = F d from rfl, up_id]; exact hP⟩ hS dX2_untie_50
    · obtain ⟨j2, hoj, hjk⟩ := Option.map_eq_some_iff.mp hc2
      subst hoj
      clear hjk
      have hl : lv_has ls 5 [(4, .int (nI (p j2))), (3, .int (lk (Option.map p none))), (0, .ref (a 0)), (1, .int (nI d)), (2, .int (nI sl))] := hl
      have hpj2 := hp j2 (by have := hlf j2 rfl; omega)
      refine lv_aload_n hx hb dX2_untie_40 rfl (lv_at hl 2 rfl) ?_
      refine va_get (D := G.1) (ci := 2) (v := .ref (a 3)) (C := RX2) (T := TX2) (N := 5) hx hb hts hinX2 hown hK.1 hP 0 rfl rfl 2 (by decide) (hts (.fieldLink RX2 20 "PairThreads$Threads" "before" "[[I") (by decide +kernel)) (fun _ h9 => h9) rfl dX2_untie_41 ?_
      refine lv_iload_n hx hb dX2_untie_44 rfl (lv_at hl 3 rfl) ?_
      refine z_ald hx hb hK hP 3 rfl (j := d) (by omega) (by decide) dX2_untie_45 ?_
      refine lv_iload hx hb dX2_untie_46 (lv_at hl 0 rfl) ?_
      refine lv_iload_n hx hb dX2_untie_48 rfl (lv_at hl 1 rfl) ?_
      refine z_iastO hx hb hK hP (hDD _ rfl) hS (7 + d) (cT_B hd) (j := p j2) (by omega) (by decide) dX2_untie_49 (fun H locs hP hS => ?_)
      rw [cT_sB hd] at hP
      exact z_vret hx hb hr hlocks ⟨rfl, by rw [show unt p (F d) none _ = F d from rfl, up_id]; exact hP⟩ hS dX2_untie_50
  · obtain ⟨j1, hoj, hjk⟩ := Option.map_eq_some_iff.mp hc1
    subst hoj
    clear hjk
    have hl : lv_has ls 5 [(4, .int (lk (Option.map p of'))), (3, .int (nI (p j1))), (0, .ref (a 0)), (1, .int (nI d)), (2, .int (nI sl))] := hl
    have hpj := hp j1 (by have := hlb j1 rfl; omega)
    refine lv_aload_n hx hb dX2_untie_24 rfl (lv_at hl 2 rfl) ?_
    refine va_get (D := G.1) (ci := 2) (v := .ref (a 4)) (C := RX2) (T := TX2) (N := 5) hx hb hts hinX2 hown hK.1 hP 0 rfl rfl 3 (by decide) (hts (.fieldLink RX2 23 "PairThreads$Threads" "after" "[[I") (by decide +kernel)) (fun _ h9 => h9) rfl dX2_untie_25 ?_
    refine lv_iload_n hx hb dX2_untie_28 rfl (lv_at hl 3 rfl) ?_
    refine z_ald hx hb hK hP 4 rfl (j := d) (by omega) (by decide) dX2_untie_29 ?_
    refine lv_iload_n hx hb dX2_untie_30 rfl (lv_at hl 1 rfl) ?_
    refine lv_iload hx hb dX2_untie_31 (lv_at hl 0 rfl) ?_
    refine z_iastO hx hb hK hP (hDD _ rfl) hS (9 + d) (cT_F hd) (j := p j1) (by omega) (by decide) dX2_untie_33 (fun H locs hP hS => ?_)
    rw [cT_sF hd] at hP
    refine lv_iload hx hb dX2_untie_34 (lv_at hl 0 rfl) ?_
    refine lv_iconst (v := (-1)) hx hb dX2_untie_36 rfl ?_
    refine z_none_eq (tgt := 50) hx hb (fun k hk => by have := mp_lt hp hn hlf hk; omega) dX2_untie_37 (by decide) (fun hc3 => ?_) (fun k hc3 => ?_)
    · have hon : of' = none := by cases of' with | none => rfl | some j => cases hc3
      subst hon
      exact z_vret hx hb hr hlocks ⟨rfl, by rw [show unt p (B d) none _ = B d from rfl, up_id]; exact hP⟩ hS dX2_untie_50
    · obtain ⟨j2, hoj, hjk⟩ := Option.map_eq_some_iff.mp hc3
      subst hoj
      clear hjk
      have hl : lv_has ls 5 [(4, .int (nI (p j2))), (3, .int (nI (p j1))), (0, .ref (a 0)), (1, .int (nI d)), (2, .int (nI sl))] := hl
      have hpj2 := hp j2 (by have := hlf j2 rfl; omega)
      have hl : lv_has ls 5 [(4, .int (nI (p j2))), (3, .int (lk (Option.map p (some j1)))), (0, .ref (a 0)), (1, .int (nI d)), (2, .int (nI sl))] := hl
      refine lv_aload_n hx hb dX2_untie_40 rfl (lv_at hl 2 rfl) ?_
      refine va_get (D := G.1) (ci := 2) (v := .ref (a 3)) (C := RX2) (T := TX2) (N := 5) hx hb hts hinX2 hown hK.1 hP 0 rfl rfl 2 (by decide) (hts (.fieldLink RX2 20 "PairThreads$Threads" "before" "[[I") (by decide +kernel)) (fun _ h9 => h9) rfl dX2_untie_41 ?_
      refine lv_iload_n hx hb dX2_untie_44 rfl (lv_at hl 3 rfl) ?_
      refine z_ald hx hb hK hP 3 rfl (j := d) (by omega) (by decide) dX2_untie_45 ?_
      refine lv_iload hx hb dX2_untie_46 (lv_at hl 0 rfl) ?_
      refine lv_iload_n hx hb dX2_untie_48 rfl (lv_at hl 1 rfl) ?_
      refine z_iastO hx hb hK hP (hDD _ rfl) hS (7 + d) (cT_B hd) (j := p j2) (by omega) (by decide) dX2_untie_49 (fun H locs hP hS => ?_)
      rw [cT_sB hd] at hP
      exact z_vret hx hb hr hlocks ⟨rfl, hP⟩ hS dX2_untie_50
end
section
/-! drop and rename, told by lists -/
theorem take_succ_pr (L : List Pr) {t : Nat} (h : t < L.length) : L.take (t + 1) = L.take t ++ [L.getD t (0, 0)] := by
  rw [List.take_succ, List.getD_eq_getElem?_getD, List.getElem?_eq_getElem h]
  rfl
theorem drop_cons_pr (L : List Pr) {t : Nat} (h : t < L.length) : L.drop t = L.getD t (0, 0) :: L.drop (t + 1) := by
  rw [List.getD_eq_getElem?_getD, List.getElem?_eq_getElem h]
  exact List.drop_eq_getElem_cons h
theorem erase_mid (A B : List Pr) (x : Pr) : (A ++ x :: B).eraseIdx A.length = A ++ B := by
  induction A with
  | nil => rfl
  | cons y A ih => simp [List.eraseIdx, ih]
/-- the pairs without a number -/
def wo (d : Nat) (v : Int32) (L : List Pr) : List Pr := L.filter (fun x => decide (¬ sd d x = v))
theorem wo_app (d : Nat) (v : Int32) (L M : List Pr) : wo d v (L ++ M) = wo d v L ++ wo d v M := List.filter_append ..
theorem wo_hit {d : Nat} {v : Int32} {x : Pr} {L : List Pr} (h : sd d x = v) : wo d v (x :: L) = wo d v L := by simp [wo, h]
theorem wo_miss {d : Nat} {v : Int32} {x : Pr} {L : List Pr} (h : ¬ sd d x = v) : wo d v (x :: L) = x :: wo d v L := by simp [wo, h]
theorem wo_len (d : Nat) (v : Int32) (L : List Pr) : (wo d v L).length ≤ L.length := List.length_filter_le ..
/-- the number that a pair has on the other side, and a pair by a side's number and the other one -/
def od (d : Nat) (x : Pr) : Int32 := if d = 0 then x.2 else x.1
def mkp (d : Nat) (to x : Int32) : Pr := if d = 0 then (to, x) else (x, to)
theorem sd_mkp (d : Nat) (to x : Int32) : sd d (mkp d to x) = to := by unfold sd mkp; split <;> rfl
def renS (d : Nat) (v to : Int32) (M : List Pr) (st : List Pr × Nat) (x : Pr) : List Pr × Nat :=
  if sd d x = v then (if mkp d to (od d x) ∈ M ++ st.1 then st else (st.1 ++ [mkp d to (od d x)], st.2 + 1)) else st
def ren (d : Nat) (v to : Int32) (M L : List Pr) : List Pr × Nat := L.foldl (renS d v to M) ([], 0)
theorem ren_snoc (d : Nat) (v to : Int32) (M L : List Pr) (x : Pr) : ren d v to M (L ++ [x]) = renS d v to M (ren d v to M L) x := by
  unfold ren
  rw [List.foldl_append]
  rfl
theorem mem_wo {d : Nat} {v : Int32} {L : List Pr} {y : Pr} (h : ¬ sd d y = v) : y ∈ wo d v L ↔ y ∈ L := by
  unfold wo
  rw [List.mem_filter]
  simp [h]
/-- a place is found just where the pair is a member -/
theorem placeR_mem {L : List Pr} {K0 K1 : Nat → Int32} {x y : Int32} {o : Option Nat} (h0 : ∀ i, i < L.length → K0 i = key 0 L i) (h1 : ∀ i, i < L.length → K1 i = key 1 L i) (h : placeR K0 K1 L.length x y o) : (o = none ↔ (x, y) ∉ L) := by
  have kx : ∀ i (hi : i < L.length), L[i] = (K0 i, K1 i) := by
    intro i hi
    rw [h0 i hi, h1 i hi]
    unfold key sd
    rw [List.getD_eq_getElem?_getD, List.getElem?_eq_getElem hi]
    rfl
  rcases h with ⟨e, a⟩ | ⟨i, e, a, b, -⟩
  · refine ⟨fun _ hm => ?_, fun _ => e⟩
    obtain ⟨i, hi, he⟩ := List.mem_iff_getElem.mp hm
    rw [kx i hi] at he
    exact a i hi ⟨congrArg Prod.fst he, congrArg Prod.snd he⟩
  · refine ⟨fun q => (by rw [e] at q; cases q), fun q => absurd ?_ q⟩
    have := kx i a
    rw [b.1, b.2] at this
    rw [← this]
    exact List.getElem_mem a
theorem cntK {K K' : Nat → Int32} {v : Int32} {n : Nat} (h : ∀ i, i < n → K i = K' i) : cnt K v n = cnt K' v n := by
  induction n with
  | zero => rfl
  | succ n ih =>
    simp only [cnt]
    rw [ih (fun i hi => h i (by omega)), h n (by omega)]
/-- a pair by its place -/
theorem sd_key (d : Nat) (L : List Pr) (i : Nat) : sd d (L.getD i (0, 0)) = key d L i := rfl
theorem ren_len (d : Nat) (v to : Int32) (M L : List Pr) (t : Nat) (h : t ≤ L.length) : (wo d v (L.take t)).length + (ren d v to M (L.take t)).1.length ≤ t := by
  induction t with
  | zero => simp [wo, ren]
  | succ t ih =>
    have h1 := ih (by omega)
    rw [take_succ_pr L (by omega), wo_app, ren_snoc]
    unfold renS
    by_cases hv : sd d (L.getD t (0, 0)) = v
    · rw [wo_hit hv, if_pos hv]
      split
      · simp [wo]; simp [wo] at h1; omega
      · simp [wo]; simp [wo] at h1; omega
    · rw [wo_miss hv, if_neg hv]
      simp [wo]; simp [wo] at h1; omega
theorem erase_at {A B : List Pr} {x : Pr} {t : Nat} (h : A.length = t) : (A ++ x :: B).eraseIdx t = A ++ B := by
  subst h
  exact erase_mid A B x
theorem wo_split {d t : Nat} {v : Int32} {L : List Pr} (ht : t < L.length) (hx : sd d (L.getD t (0, 0)) = v) : wo d v L = wo d v (L.take t) ++ wo d v (L.drop (t + 1)) := by
  have h := congrArg (wo d v) (List.take_append_drop t L).symm
  rw [wo_app, drop_cons_pr L ht, wo_hit hx] at h
  exact h
theorem move_mem {d t : Nat} {v to : Int32} {L App : List Pr} {y : Pr} (ht : t < L.length) (hx : sd d (L.getD t (0, 0)) = v) (hto : ¬ to = v) (hy : sd d y = to) : y ∈ wo d v (L.take t) ++ (L.drop (t + 1) ++ App) ↔ y ∈ wo d v L ++ App := by
  have hyv : ¬ sd d y = v := by rw [hy]; exact hto
  rw [wo_split ht hx]
  simp only [List.mem_append, mem_wo hyv]
  constructor
  · rintro (h | h | h)
    · exact Or.inl (Or.inl h)
    · exact Or.inl (Or.inr h)
    · exact Or.inr h
  · rintro ((h | h) | h)
    · exact Or.inl h
    · exact Or.inr (Or.inl h)
    · exact Or.inr (Or.inr h)
theorem key_mid {d : Nat} {A B : List Pr} {x : Pr} : key d (A ++ x :: B) A.length = sd d x := by
  unfold key
  rw [List.getD_eq_getElem?_getD, List.getElem?_append_right (Nat.le_refl _)]
  simp
end
section
set_option maxHeartbeats 4000000 in
set_option maxRecDepth 100000 in
/-- Threads.append -/
theorem c_append (l : Launch) (G : Gd) (a p : Nat → Nat) (N : Nat → Nat → Int32) (B F : Nat → Nat → Option Nat) (L : List Pr) (hTI : TI p N B F L) (x y : Int32) (hlt : L.length < 300) (hnd : (aT a).Nodup) : Mt l yX2_append wsX2_append 2 47 [.ref (a 0), .int (x), .int (y)] G (cT G a p N B F L.length ++ []) (fun q => q ∈ aT a) (fun r h => r = none ∧ cTL G a (L ++ [(x, y)]) h) := by
  refine Mt.mk cX2_append 4 none (by decide) rfl (Nat.le_of_ble_eq_true rfl) ?_
  intro p9 e s m below meth c ls hx hb hr hml hts hown hlocks hP hK hl
  have hinX2 : ∀ w ∈ wsX20, w ∈ wsX2_append := by decide +kernel
  have hS : va_S (fun q => q ∈ aT a) s.heap s.heap [] := va_S.rf
  have hl : lv_has ls 4 [(0, .ref (a 0)), (1, .int (x)), (2, .int (y))] := hl
  have hown : s.vm.findClass RX2 = some m.cls := hown
  have hDD : ∀ ws : va_W, ws.map Prod.fst = aT a → va_D (fun q => q ∈ aT a) ws := D_of hnd (fun q h => h)
  obtain ⟨hp, hinj, hn, hk, hlk⟩ := id hTI
  have hpn := hp L.length (by omega)
  refine lv_aload_n hx hb dX2_append_0 rfl (lv_at hl 0 rfl) ?_
  refine va_get (D := G.1) (ci := 2) (v := .ref (a 1)) (C := RX2) (T := TX2) (N := 5) hx hb hts hinX2 hown hK.1 hP 0 rfl rfl 0 (by decide) (hts (.fieldLink RX2 9 "PairThreads$Threads" "order" "[I") (by decide +kernel)) (fun _ h9 => h9) rfl dX2_append_1 ?_
  refine lv_aload_n hx hb dX2_append_4 rfl (lv_at hl 0 rfl) ?_
  refine va_get (D := G.1) (ci := 2) (v := .int (nI L.length)) (C := RX2) (T := TX2) (N := 5) hx hb hts hinX2 hown hK.1 hP 0 rfl rfl 4 (by decide) (hts (.fieldLink RX2 26 "PairThreads$Threads" "size" "I") (by decide +kernel)) (fun _ h9 => h9) rfl dX2_append_5 ?_
  refine z_ialdN hx hb hK hP 1 rfl (j := L.length) (by omega) (by decide) dX2_append_8 ?_
  refine lv_istore_n (lv' := [(3, .int (nI (p L.length))), (0, .ref (a 0)), (1, .int (x)), (2, .int (y))]) hx hb dX2_append_9 rfl hl (by decide) rfl (fun ls hl => ?_)
  refine lv_aload_n hx hb dX2_append_10 rfl (lv_at hl 1 rfl) ?_
  refine lv_iconst (v := nI 0) hx hb dX2_append_11 rfl ?_
  refine lv_iload_n hx hb dX2_append_12 rfl (lv_at hl 0 rfl) ?_
  refine lv_iload_n hx hb dX2_append_13 rfl (lv_at hl 2 rfl) ?_
  refine z_callV (rest := []) 3 ⟨hx, hb, hml, hown, hts⟩ hK (c_tieOn l G a p N B F L.length 0 (p L.length) x (by omega) hpn hn hp hnd) gX2_append_X2_tieOn rfl (by decide +kernel) ⟨Nat.le_of_ble_eq_true rfl, Nat.le_of_ble_eq_true rfl⟩ hP 0 rfl rfl rfl rfl hl.1 rfl (Nat.le_of_ble_eq_true rfl) dX2_append_14 ⟨Nat.le_refl _, Nat.le_refl _⟩ hS (fun _ h => h) (fun v9 H9 locs hR9 hk9 hS => ?_)
  obtain ⟨rfl, o0, hl0, hP⟩ := hR9
  clear hk9
  generalize H9 = H at hP hS ⊢
  refine W.eq (g2 := F0 m 17 ls []) rfl ?_
  obtain ⟨N1, eN1⟩ : ∃ z, z = va_up N 0 (upd (N 0) (p L.length) x) := ⟨_, rfl⟩
  obtain ⟨B1, eB1⟩ : ∃ z, z = va_up B 0 (va_up (B 0) (p L.length) (Option.map p o0)) := ⟨_, rfl⟩
  obtain ⟨F1, eF1⟩ : ∃ z, z = va_up F 0 (tieFd p (F 0) (p L.length) o0) := ⟨_, rfl⟩
  rw [← eN1, ← eB1, ← eF1] at hP
  refine lv_aload_n hx hb dX2_append_17 rfl (lv_at hl 1 rfl) ?_
  refine lv_iconst (v := nI 1) hx hb dX2_append_18 rfl ?_
  refine lv_iload_n hx hb dX2_append_19 rfl (lv_at hl 0 rfl) ?_
  refine lv_iload_n hx hb dX2_append_20 rfl (lv_at hl 3 rfl) ?_
  refine z_callV (rest := []) 3 ⟨hx, hb, hml, hown, hts⟩ hK (c_tieOn l G a p N1 B1 F1 L.length 1 (p L.length) y (by omega) hpn hn hp hnd) gX2_append_X2_tieOn rfl (by decide +kernel) ⟨Nat.le_of_ble_eq_true rfl, Nat.le_of_ble_eq_true rfl⟩ hP 0 rfl rfl rfl rfl hl.1 rfl (Nat.le_of_ble_eq_true rfl) dX2_append_21 ⟨Nat.le_refl _, Nat.le_refl _⟩ hS (fun _ h => h) (fun v9 H9 locs hR9 hk9 hS => ?_)
  obtain ⟨rfl, o1, hl1, hP⟩ := hR9
  clear hk9
  generalize H9 = H at hP hS ⊢
  refine W.eq (g2 := F0 m 24 ls []) rfl ?_
  obtain ⟨N2, eN2⟩ : ∃ z, z = va_up N1 1 (upd (N1 1) (p L.length) y) := ⟨_, rfl⟩
  obtain ⟨B2, eB2⟩ : ∃ z, z = va_up B1 1 (va_up (B1 1) (p L.length) (Option.map p o1)) := ⟨_, rfl⟩
  obtain ⟨F2, eF2⟩ : ∃ z, z = va_up F1 1 (tieFd p (F1 1) (p L.length) o1) := ⟨_, rfl⟩
  rw [← eN2, ← eB2, ← eF2] at hP
  refine lv_aload_n hx hb dX2_append_24 rfl (lv_at hl 1 rfl) ?_
  refine lv_dup hx hb dX2_append_25 rfl ?_
  refine va_get (D := G.1) (ci := 2) (v := .int (nI L.length)) (C := RX2) (T := TX2) (N := 5) hx hb hts hinX2 hown hK.1 hP 0 rfl rfl 4 (by decide) (hts (.fieldLink RX2 26 "PairThreads$Threads" "size" "I") (by decide +kernel)) (fun _ h9 => h9) rfl dX2_append_26 ?_
  refine lv_iconst (v := nI 1) hx hb dX2_append_29 rfl ?_
  refine lv_iadd hx hb dX2_append_30 ?_
  refine z_top (y := nI (L.length + 1)) (nI_add _ _) ?_
  refine va_put (D := G.1) (ci := 2) (v := .int (nI (L.length + 1))) (ty := .int) (C := RX2) (T := TX2) (N := 5) hx hb hts hinX2 tyX2 tyX2_ok nmX2 hown hK.1 hP (hDD _ rfl) hS 0 rfl rfl 4 (by decide) (hts (.fieldLink RX2 26 "PairThreads$Threads" "size" "I") (by decide +kernel)) (fun _ h9 => h9) rfl (by decide +kernel) rfl rfl (Nat.le_of_ble_eq_true rfl) dX2_append_31 (fun H locs hP _ hS => ?_)
  have hP : va_P G.1 vwCl (cT G a p N2 B2 F2 (L.length + 1) ++ []) H := hP
  exact z_vret hx hb hr hlocks ⟨rfl, p, N2, B2, F2, TI_append hTI hlt N1 N2 B1 B2 F1 F2 eN1 eB1 eF1 eN2 eB2 eF2 hl0 hl1, by rw [show (L ++ [(x, y)]).length = L.length + 1 by simp]; exact hP⟩ hS dX2_append_34

set_option maxHeartbeats 4000000 in
set_option maxRecDepth 100000 in
/-- Threads.takeOut -/
theorem c_takeOut (l : Launch) (G : Gd) (a p : Nat → Nat) (N : Nat → Nat → Int32) (B F : Nat → Nat → Option Nat) (L : List Pr) (hTI : TI p N B F L) (t : Nat) (ht : t < L.length) (hnd : (aT a).Nodup) : Mt l yX2_takeOut wsX2_takeOut 1 24 [.ref (a 0), .int (nI t)] G (cT G a p N B F L.length ++ []) (fun q => q ∈ aT a) (fun r h => r = none ∧ cTL G a (L.eraseIdx t) h) := by
  refine Mt.mk cX2_takeOut 3 none (by decide) rfl (Nat.le_of_ble_eq_true rfl) ?_
  intro p9 e s m below meth c ls hx hb hr hml hts hown hlocks hP hK hl
  have hinX2 : ∀ w ∈ wsX20, w ∈ wsX2_takeOut := by decide +kernel
  have hS : va_S (fun q => q ∈ aT a) s.heap s.heap [] := va_S.rf
  have hl : lv_has ls 3 [(0, .ref (a 0)), (1, .int (nI t))] := hl
  have hown : s.vm.findClass RX2 = some m.cls := hown
  have hDD : ∀ ws : va_W, ws.map Prod.fst = aT a → va_D (fun q => q ∈ aT a) ws := D_of hnd (fun q h => h)
  obtain ⟨hp, hinj, hn, hk, hlk⟩ := id hTI
  have hpt := hp t (by omega)
  obtain ⟨ob0, hob0, hb0⟩ := (hlk 0 (by omega)).1 t ht
  obtain ⟨of0, hof0, hf0⟩ := (hlk 0 (by omega)).2 t ht
  obtain ⟨ob1, hob1, hb1⟩ := (hlk 1 (by omega)).1 t ht
  obtain ⟨of1, hof1, hf1⟩ := (hlk 1 (by omega)).2 t ht
  refine lv_aload_n hx hb dX2_takeOut_0 rfl (lv_at hl 0 rfl) ?_
  refine va_get (D := G.1) (ci := 2) (v := .ref (a 1)) (C := RX2) (T := TX2) (N := 5) hx hb hts hinX2 hown hK.1 hP 0 rfl rfl 0 (by decide) (hts (.fieldLink RX2 9 "PairThreads$Threads" "order" "[I") (by decide +kernel)) (fun _ h9 => h9) rfl dX2_takeOut_1 ?_
  refine lv_iload_n hx hb dX2_takeOut_4 rfl (lv_at hl 1 rfl) ?_
  refine z_ialdN hx hb hK hP 1 rfl (j := t) (by omega) (by decide) dX2_takeOut_5 ?_
  refine lv_istore_n (lv' := [(2, .int (nI (p t))), (0, .ref (a 0)), (1, .int (nI t))]) hx hb dX2_takeOut_6 rfl hl (by decide) rfl (fun ls hl => ?_)
  refine lv_aload_n hx hb dX2_takeOut_7 rfl (lv_at hl 1 rfl) ?_
  refine lv_iconst (v := nI 0) hx hb dX2_takeOut_8 rfl ?_
  refine lv_iload_n hx hb dX2_takeOut_9 rfl (lv_at hl 0 rfl) ?_
  refine z_callV (rest := []) 2 ⟨hx, hb, hml, hown, hts⟩ hK (c_untie l G a p N B F L.length 0 (p t) ob0 of0 (by omega) hpt hob0 hof0 (fun j hj => by have := prevR_lt hb0 j hj; omega) (nextR_lt hf0) hn hp hnd) gX2_takeOut_X2_untie rfl (by decide +kernel) ⟨Nat.le_of_ble_eq_true rfl, Nat.le_of_ble_eq_true rfl⟩ hP 0 rfl rfl rfl rfl hl.1 rfl (Nat.le_of_ble_eq_true rfl) dX2_takeOut_10 ⟨Nat.le_refl _, Nat.le_refl _⟩ hS (fun _ h => h) (fun v9 H9 locs hR9 hk9 hS => ?_)
  obtain ⟨rfl, hP⟩ := hR9
  clear hk9
  generalize H9 = H at hP hS ⊢
  refine W.eq (g2 := F0 m 13 ls []) rfl ?_
  obtain ⟨B1, eB1⟩ : ∃ z, z = va_up B 0 (unt p (B 0) of0 ob0) := ⟨_, rfl⟩
  obtain ⟨F1, eF1⟩ : ∃ z, z = va_up F 0 (unt p (F 0) ob0 of0) := ⟨_, rfl⟩
  rw [← eB1, ← eF1] at hP
  refine lv_aload_n hx hb dX2_takeOut_13 rfl (lv_at hl 1 rfl) ?_
  refine lv_iconst (v := nI 1) hx hb dX2_takeOut_14 rfl ?_
  refine lv_iload_n hx hb dX2_takeOut_15 rfl (lv_at hl 0 rfl) ?_
  refine z_callV (rest := []) 2 ⟨hx, hb, hml, hown, hts⟩ hK (c_untie l G a p N B1 F1 L.length 1 (p t) ob1 of1 (by omega) hpt (by rw [eB1, up_n (by decide)]; exact hob1) (by rw [eF1, up_n (by decide)]; exact hof1) (fun j hj => by have := prevR_lt hb1 j hj; omega) (nextR_lt hf1) hn hp hnd) gX2_takeOut_X2_untie rfl (by decide +kernel) ⟨Nat.le_of_ble_eq_true rfl, Nat.le_of_ble_eq_true rfl⟩ hP 0 rfl rfl rfl rfl hl.1 rfl (Nat.le_of_ble_eq_true rfl) dX2_takeOut_16 ⟨Nat.le_refl _, Nat.le_refl _⟩ hS (fun _ h => h) (fun v9 H9 locs hR9 hk9 hS => ?_)
  obtain ⟨rfl, hP⟩ := hR9
  clear hk9
  generalize H9 = H at hP hS ⊢
  refine W.eq (g2 := F0 m 19 ls []) rfl ?_
  obtain ⟨B2, eB2⟩ : ∃ z, z = va_up B1 1 (unt p (B1 1) of1 ob1) := ⟨_, rfl⟩
  obtain ⟨F2, eF2⟩ : ∃ z, z = va_up F1 1 (unt p (F1 1) ob1 of1) := ⟨_, rfl⟩
  rw [← eB2, ← eF2] at hP
  refine lv_aload_n hx hb dX2_takeOut_19 rfl (lv_at hl 1 rfl) ?_
  refine lv_dup hx hb dX2_takeOut_20 rfl ?_
  refine va_get (D := G.1) (ci := 2) (v := .int (nI L.length)) (C := RX2) (T := TX2) (N := 5) hx hb hts hinX2 hown hK.1 hP 0 rfl rfl 4 (by decide) (hts (.fieldLink RX2 26 "PairThreads$Threads" "size" "I") (by decide +kernel)) (fun _ h9 => h9) rfl dX2_takeOut_21 ?_
  refine lv_iconst (v := nI 1) hx hb dX2_takeOut_24 rfl ?_
  refine lv_isub hx hb dX2_takeOut_25 ?_
  refine z_top (y := nI (L.length - 1)) (pk_sub (by omega)) ?_
  refine va_put (D := G.1) (ci := 2) (v := .int (nI (L.length - 1))) (ty := .int) (C := RX2) (T := TX2) (N := 5) hx hb hts hinX2 tyX2 tyX2_ok nmX2 hown hK.1 hP (hDD _ rfl) hS 0 rfl rfl 4 (by decide) (hts (.fieldLink RX2 26 "PairThreads$Threads" "size" "I") (by decide +kernel)) (fun _ h9 => h9) rfl (by decide +kernel) rfl rfl (Nat.le_of_ble_eq_true rfl) dX2_takeOut_26 (fun H locs hP _ hS => ?_)
  have hP : va_P G.1 vwCl (cT G a p N B2 F2 (L.length - 1) ++ []) H := hP
  refine lv_aload_n hx hb dX2_takeOut_29 rfl (lv_at hl 1 rfl) ?_
  refine va_get (D := G.1) (ci := 2) (v := .ref (a 1)) (C := RX2) (T := TX2) (N := 5) hx hb hts hinX2 hown hK.1 hP 0 rfl rfl 0 (by decide) (hts (.fieldLink RX2 9 "PairThreads$Threads" "order" "[I") (by decide +kernel)) (fun _ h9 => h9) rfl dX2_takeOut_30 ?_
  refine lv_iload_n hx hb dX2_takeOut_33 rfl (lv_at hl 2 rfl) ?_
  refine lv_iconst (v := nI 1) hx hb dX2_takeOut_34 rfl ?_
  refine lv_iadd hx hb dX2_takeOut_35 ?_
  refine z_top (y := nI (t + 1)) (nI_add _ _) ?_
  refine lv_aload_n hx hb dX2_takeOut_36 rfl (lv_at hl 1 rfl) ?_
  refine va_get (D := G.1) (ci := 2) (v := .ref (a 1)) (C := RX2) (T := TX2) (N := 5) hx hb hts hinX2 hown hK.1 hP 0 rfl rfl 0 (by decide) (hts (.fieldLink RX2 9 "PairThreads$Threads" "order" "[I") (by decide +kernel)) (fun _ h9 => h9) rfl dX2_takeOut_37 ?_
  refine lv_iload_n hx hb dX2_takeOut_40 rfl (lv_at hl 2 rfl) ?_
  refine lv_aload_n hx hb dX2_takeOut_41 rfl (lv_at hl 1 rfl) ?_
  refine va_get (D := G.1) (ci := 2) (v := .int (nI (L.length - 1))) (C := RX2) (T := TX2) (N := 5) hx hb hts hinX2 hown hK.1 hP 0 rfl rfl 4 (by decide) (hts (.fieldLink RX2 26 "PairThreads$Threads" "size" "I") (by decide +kernel)) (fun _ h9 => h9) rfl dX2_takeOut_42 ?_
  refine lv_iload_n hx hb dX2_takeOut_45 rfl (lv_at hl 2 rfl) ?_
  refine lv_isub hx hb dX2_takeOut_46 ?_
  refine z_top (y := nI (L.length - 1 - t)) (pk_sub (by omega)) ?_
  refine va_copyi hx hb (hml.trans hl.1.symm) hown (hts (.methodLink RX2 45 arraycopyName) (by decide +kernel)) (hts (.native arraycopyName) (by decide +kernel)) (hts (.static arraycopyName) (by decide +kernel)) (hts (.initialized "java/lang/System") (by decide +kernel)) hK.1 hP (hDD _ rfl) hS 1 1 0 0 (ty := .int) rfl rfl rfl rfl rfl (sp := nI (t + 1)) (dp := nI t) (n := nI (L.length - 1 - t)) (nI_pos (by omega)) (nI_pos (by omega)) (nI_pos (by omega)) (by rw [nI_clamp (by omega), nI_clamp (by omega)]; omega) (by rw [nI_clamp (by omega), nI_clamp (by omega)]; omega) (fun _ _ => rfl) (Nat.le_of_ble_eq_true rfl) (Nat.le_of_ble_eq_true rfl) dX2_takeOut_47 (fun H locs hP _ hS => ?_)
  rw [nI_clamp (by omega), nI_clamp (by omega), nI_clamp (by omega), cpy_fN] at hP
  have hP : va_P G.1 vwCl (cT G a (va_cpy p p (t + 1) t (L.length - 1 - t)) N B2 F2 (L.length - 1) ++ []) H := hP
  refine lv_aload_n hx hb dX2_takeOut_50 rfl (lv_at hl 1 rfl) ?_
  refine va_get (D := G.1) (ci := 2) (v := .ref (a 1)) (C := RX2) (T := TX2) (N := 5) hx hb hts hinX2 hown hK.1 hP 0 rfl rfl 0 (by decide) (hts (.fieldLink RX2 9 "PairThreads$Threads" "order" "[I") (by decide +kernel)) (fun _ h9 => h9) rfl dX2_takeOut_51 ?_
  refine lv_aload_n hx hb dX2_takeOut_54 rfl (lv_at hl 1 rfl) ?_
  refine va_get (D := G.1) (ci := 2) (v := .int (nI (L.length - 1))) (C := RX2) (T := TX2) (N := 5) hx hb hts hinX2 hown hK.1 hP 0 rfl rfl 4 (by decide) (hts (.fieldLink RX2 26 "PairThreads$Threads" "size" "I") (by decide +kernel)) (fun _ h9 => h9) rfl dX2_takeOut_55 ?_
  refine lv_iload_n hx hb dX2_takeOut_58 rfl (lv_at hl 0 rfl) ?_
  refine z_iastN hx hb hK hP (hDD _ rfl) hS 1 rfl (j := L.length - 1) (by omega) (by decide) dX2_takeOut_59 (fun H locs hP hS => ?_)
  have hP : va_P G.1 vwCl (cT G a (va_up (va_cpy p p (t + 1) t (L.length - 1 - t)) (L.length - 1) (p t)) N B2 F2 (L.length - 1) ++ []) H := hP
  obtain ⟨p', ep⟩ : ∃ z, z = va_up (va_cpy p p (t + 1) t (L.length - 1 - t)) (L.length - 1) (p t) := ⟨_, rfl⟩
  rw [← ep] at hP
  exact z_vret hx hb hr hlocks ⟨rfl, p', N, B2, F2, TI_takeOut hTI ht B1 B2 F1 F2 eB1 eF1 eB2 eF2 hb0 hf0 hb1 hf1 ep, by rw [List.length_eraseIdx_of_lt ht]; exact hP⟩ hS dX2_takeOut_60

set_option maxHeartbeats 4000000 in
set_option maxRecDepth 100000 in
/-- Threads.takeOutAll -/
theorem c_takeOutAll (l : Launch) (G : Gd) (a p : Nat → Nat) (N : Nat → Nat → Int32) (B F : Nat → Nat → Option Nat) (L : List Pr) (hTI : TI p N B F L) (d : Nat) (v : Int32) (hd : d < 2) (hnd : (aT a).Nodup) : Mt l yX2_takeOutAll wsX2_takeOutAll 2 46 [.ref (a 0), .int (nI d), .int (v)] G (cT G a p N B F L.length ++ []) (fun q => q ∈ aT a) (fun r h => r = some (.int (nI (cnt (key d L) v L.length))) ∧ cTL G a (wo d v L) h) := by
  refine Mt.mk cX2_takeOutAll 5 (some .int) (by decide) rfl (Nat.le_of_ble_eq_true rfl) ?_
  intro p9 e s m below meth c ls hx hb hr hml hts hown hlocks hP hK hl
  have hinX2 : ∀ w ∈ wsX20, w ∈ wsX2_takeOutAll := by decide +kernel
  have hS : va_S (fun q => q ∈ aT a) s.heap s.heap [] := va_S.rf
  have hl : lv_has ls 5 [(0, .ref (a 0)), (1, .int (nI d)), (2, .int (v))] := hl
  have hown : s.vm.findClass RX2 = some m.cls := hown
  have hDD : ∀ ws : va_W, ws.map Prod.fst = aT a → va_D (fun q => q ∈ aT a) ws := D_of hnd (fun q h => h)
  refine lv_iconst (v := nI 0) hx hb dX2_takeOutAll_0 rfl ?_
  refine lv_istore_n (lv' := [(3, .int (nI 0)), (0, .ref (a 0)), (1, .int (nI d)), (2, .int (v))]) hx hb dX2_takeOutAll_1 rfl hl (by decide) rfl (fun ls hl => ?_)
  refine lv_aload_n hx hb dX2_takeOutAll_2 rfl (lv_at hl 1 rfl) ?_
  refine va_get (D := G.1) (ci := 2) (v := .int (nI L.length)) (C := RX2) (T := TX2) (N := 5) hx hb hts hinX2 hown hK.1 hP 0 rfl rfl 4 (by decide) (hts (.fieldLink RX2 26 "PairThreads$Threads" "size" "I") (by decide +kernel)) (fun _ h9 => h9) rfl dX2_takeOutAll_3 ?_
  refine lv_iconst (v := nI 1) hx hb dX2_takeOutAll_6 rfl ?_
  refine lv_isub hx hb dX2_takeOutAll_7 ?_
  refine z_top (y := lk (pr L.length)) (lk_pr _) ?_
  refine lv_istore (lv' := [(4, .int (lk (pr L.length))), (3, .int (nI 0)), (0, .ref (a 0)), (1, .int (nI d)), (2, .int (v))]) hx hb dX2_takeOutAll_8 hl (by decide) rfl (fun ls hl => ?_)
  have loop : ∀ (k9 : Nat) (k : Nat) (M : List Pr) (p : Nat → Nat) (N : Nat → Nat → Int32) (B : Nat → Nat → Option Nat) (F : Nat → Nat → Option Nat) (H : Heap) (locs : List Loc) (ls : Array Slot), k < k9 → k ≤ L.length → M = L.take k ++ wo d v (L.drop k) → TI p N B F M → va_P G.1 vwCl (cT G a p N B F M.length ++ []) H → va_S (fun q => q ∈ aT a) s.heap H locs → lv_has ls 5 [(4, .int (lk (pr k))), (3, .int (nI (cnt (key d L) v L.length - cnt (key d L) v k))), (0, .ref (a 0)), (1, .int (nI d)), (2, .int (v))] → Wz p9 l e 2 46 s m [.ref (a 0), .int (nI d), .int (v)] below meth c (fun q => q ∈ aT a) (fun r h => r = some (.int (nI (cnt (key d L) v L.length))) ∧ cTL G a (wo d v L) h) H locs (F0 m 10 ls []) := by
    intro k9
    induction k9 with
    | zero =>
      intro k M p N B F H locs ls hfuel hk hM hTI hP hS hl
      exact absurd hfuel (by omega)
    | succ k9 ih =>
      intro k M p N B F H locs ls hfuel hk hM hTI hP hS hl
      have hpk : ∀ i, pr k = some i → k = i + 1 := fun i hi => by cases k with | zero => cases hi | succ z => cases hi; rfl
      have hL3 := hTI.2.2.1
      have hML : k ≤ M.length := by rw [hM, List.length_append, List.length_take]; omega
      refine lv_iload hx hb dX2_takeOutAll_10 (lv_at hl 0 rfl) ?_
      refine z_if_lt (tgt := 48) hx hb (fun i hi => by have := hpk i hi; omega) dX2_takeOutAll_12 (by decide) (fun hc1 => ?_) (fun i hc1 => ?_)
      · have hk0 : k = 0 := by cases k with | zero => rfl | succ z => cases hc1
        subst hk0
        refine lv_iload_n hx hb dX2_takeOutAll_48 rfl (lv_at hl 1 rfl) ?_
        exact z_iret hx hb hr hlocks ⟨rfl, p, N, B, F, by have e : M = wo d v L := hM.trans rfl; rw [← e]; exact ⟨hTI, hP⟩⟩ hS dX2_takeOutAll_49
      · have hki := hpk i hc1
        rw [hc1] at hl
        have hl : lv_has ls 5 [(4, .int (nI i)), (3, .int (nI (cnt (key d L) v L.length - cnt (key d L) v k))), (0, .ref (a 0)), (1, .int (nI d)), (2, .int (v))] := hl
        have hpi := hTI.1 i (by omega)
        have hdr := drop_cons_pr L (show i < L.length by omega)
        have htk := take_succ_pr L (show i < L.length by omega)
        have hMi : M = L.take i ++ L.getD i (0, 0) :: wo d v (L.drop k) := by rw [hM, hki, htk, List.append_assoc]; rfl
        have hkey : N d (p i) = key d L i := by rw [hTI.2.2.2.1 d i hd (by omega), hMi]; unfold key; congr 1; rw [List.getD_eq_getElem?_getD, List.getElem?_append_right (by rw [List.length_take]; omega), List.length_take, show i - min i L.length = 0 by omega]; rfl
        refine lv_aload_n hx hb dX2_takeOutAll_15 rfl (lv_at hl 2 rfl) ?_
        refine va_get (D := G.1) (ci := 2) (v := .ref (a 2)) (C := RX2) (T := TX2) (N := 5) hx hb hts hinX2 hown hK.1 hP 0 rfl rfl 1 (by decide) (hts (.fieldLink RX2 17 "PairThreads$Threads" "number" "[[I") (by decide +kernel)) (fun _ h9 => h9) rfl dX2_takeOutAll_16 ?_
        refine lv_iload_n hx hb dX2_takeOutAll_19 rfl (lv_at hl 3 rfl) ?_
        refine z_ald hx hb hK hP 2 rfl (j := d) (by omega) (by decide) dX2_takeOutAll_20 ?_
        refine lv_aload_n hx hb dX2_takeOutAll_21 rfl (lv_at hl 2 rfl) ?_
        refine va_get (D := G.1) (ci := 2) (v := .ref (a 1)) (C := RX2) (T := TX2) (N := 5) hx hb hts hinX2 hown hK.1 hP 0 rfl rfl 0 (by decide) (hts (.fieldLink RX2 9 "PairThreads$Threads" "order" "[I") (by decide +kernel)) (fun _ h9 => h9) rfl dX2_takeOutAll_22 ?_
        refine lv_iload hx hb dX2_takeOutAll_25 (lv_at hl 0 rfl) ?_
        refine z_ialdN hx hb hK hP 1 rfl (j := i) (by omega) (by decide) dX2_takeOutAll_27 ?_
        refine z_iald hx hb hK hP (5 + d) (cT_N hd) (j := p i) (by omega) (by decide) dX2_takeOutAll_28 ?_
        refine lv_iload_n hx hb dX2_takeOutAll_29 rfl (lv_at hl 4 rfl) ?_
        refine lv_icmp_ne (tgt := 42) hx hb dX2_takeOutAll_30 (by decide) (fun hc2 => ?_) (fun hc2 => ?_)
        · rw [hkey] at hc2
          refine z_iincm (lv' := [(4, .int (lk (pr i))), (3, .int (nI (cnt (key d L) v L.length - cnt (key d L) v k))), (0, .ref (a 0)), (1, .int (nI d)), (2, .int (v))]) hx hb dX2_takeOutAll_42 hl (k := 0) rfl (by decide) rfl (fun ls hl => ?_)
          refine lv_goto (tgt := 10) hx hb dX2_takeOutAll_45 (by decide) ?_
          rw [hki, cnt_miss hc2] at hl
          have hl : lv_has ls 5 [(4, .int (lk (pr i))), (3, .int (nI (cnt (key d L) v L.length - cnt (key d L) v i))), (0, .ref (a 0)), (1, .int (nI d)), (2, .int (v))] := hl
          exact ih i M p N B F H locs ls (by omega) (by omega) (by rw [hMi, hdr, wo_miss hc2, hki]) hTI hP hS (lv_sub hl [0, 1, 2, 3, 4] rfl)
        · rw [hkey] at hc2
          refine lv_aload_n hx hb dX2_takeOutAll_33 rfl (lv_at hl 2 rfl) ?_
          refine lv_iload hx hb dX2_takeOutAll_34 (lv_at hl 0 rfl) ?_
          refine z_callV (rest := []) 1 ⟨hx, hb, hml, hown, hts⟩ hK (c_takeOut l G a p N B F M hTI i (by omega) hnd) gX2_takeOutAll_X2_takeOut rfl (by decide +kernel) ⟨Nat.le_of_ble_eq_true rfl, Nat.le_of_ble_eq_true rfl⟩ hP 0 rfl rfl rfl rfl hl.1 rfl (Nat.le_of_ble_eq_true rfl) dX2_takeOutAll_36 ⟨Nat.le_refl _, Nat.le_refl _⟩ hS (fun _ h => h) (fun v9 H9 locs hR9 hk9 hS => ?_)
          obtain ⟨rfl, p2, N2, B2, F2, hTI2, hP⟩ := hR9
          clear hk9
          generalize H9 = H at hP hS ⊢
          refine W.eq (g2 := F0 m 39 ls []) rfl ?_
          obtain ⟨M2, eM2⟩ : ∃ z, z = M.eraseIdx i := ⟨_, rfl⟩
          rw [← eM2] at hTI2 hP
          refine z_iinc (lv' := [(3, .int (nI (cnt (key d L) v L.length - cnt (key d L) v k + 1))), (4, .int (nI i)), (0, .ref (a 0)), (1, .int (nI d)), (2, .int (v))]) hx hb dX2_takeOutAll_39 hl (k := 1) rfl (by decide) rfl (fun ls hl => ?_)
          refine z_iincm (lv' := [(4, .int (lk (pr i))), (3, .int (nI (cnt (key d L) v L.length - cnt (key d L) v k + 1))), (0, .ref (a 0)), (1, .int (nI d)), (2, .int (v))]) hx hb dX2_takeOutAll_42 hl (k := 1) rfl (by decide) rfl (fun ls hl => ?_)
          refine lv_goto (tgt := 10) hx hb dX2_takeOutAll_45 (by decide) ?_
          have hc0 := cnt_mono (K := key d L) (v := v) (show i + 1 ≤ L.length by omega)
          have hc1 := cnt_hit (K := key d L) hc2
          rw [show cnt (key d L) v L.length - cnt (key d L) v k + 1 = cnt (key d L) v L.length - cnt (key d L) v i by rw [hki]; omega] at hl
          have hl : lv_has ls 5 [(4, .int (lk (pr i))), (3, .int (nI (cnt (key d L) v L.length - cnt (key d L) v i))), (0, .ref (a 0)), (1, .int (nI d)), (2, .int (v))] := hl
          exact ih i M2 p2 N2 B2 F2 H locs ls (by omega) (by omega) (by rw [eM2, hMi, hdr, wo_hit hc2, hki]; exact erase_at (by rw [List.length_take]; omega)) hTI2 hP hS (lv_sub hl [0, 1, 2, 3, 4] rfl)
  have hL3 := hTI.2.2.1
  have hl : lv_has ls 5 [(4, .int (lk (pr L.length))), (3, .int (nI (cnt (key d L) v L.length - cnt (key d L) v L.length))), (0, .ref (a 0)), (1, .int (nI d)), (2, .int (v))] := by rw [Nat.sub_self]; exact hl
  exact loop (L.length + 1) L.length L p N B F _ _ ls (by omega) (by omega) (by rw [List.take_length, List.drop_length]; simp [wo]) hTI hP hS (lv_sub hl [0, 1, 2, 3, 4] rfl)

set_option maxHeartbeats 4000000 in
set_option maxRecDepth 100000 in
/-- Threads.moveAll -/
theorem c_moveAll (l : Launch) (G : Gd) (a p : Nat → Nat) (N : Nat → Nat → Int32) (B F : Nat → Nat → Option Nat) (L : List Pr) (hTI : TI p N B F L) (d : Nat) (v to : Int32) (hd : d < 2) (hto : ¬ to = v) (hnd : (aT a).Nodup) : Mt l yX2_moveAll wsX2_moveAll 3 70 [.ref (a 0), .int (nI d), .int (v), .int (to)] G (cT G a p N B F L.length ++ []) (fun q => q ∈ aT a) (fun r h => r = some (.int (nI (ren d v to (wo d v L) L).2)) ∧ cTL G a (wo d v L ++ (ren d v to (wo d v L) L).1) h) := by
  refine Mt.mk cX2_moveAll 11 (some .int) (by decide) rfl (Nat.le_of_ble_eq_true rfl) ?_
  intro p9 e s m below meth c ls hx hb hr hml hts hown hlocks hP hK hl
  have hinX2 : ∀ w ∈ wsX20, w ∈ wsX2_moveAll := by decide +kernel
  have hS : va_S (fun q => q ∈ aT a) s.heap s.heap [] := va_S.rf
  have hl : lv_has ls 11 [(0, .ref (a 0)), (1, .int (nI d)), (2, .int (v)), (3, .int (to))] := hl
  have hown : s.vm.findClass RX2 = some m.cls := hown
  have hDD : ∀ ws : va_W, ws.map Prod.fst = aT a → va_D (fun q => q ∈ aT a) ws := D_of hnd (fun q h => h)
  have hL0 := hTI.2.2.1
  refine lv_iconst (v := nI 0) hx hb dX2_moveAll_0 rfl ?_
  refine lv_istore (lv' := [(4, .int (nI 0)), (0, .ref (a 0)), (1, .int (nI d)), (2, .int (v)), (3, .int (to))]) hx hb dX2_moveAll_1 hl (by decide) rfl (fun ls hl => ?_)
  refine lv_iconst (v := nI 0) hx hb dX2_moveAll_3 rfl ?_
  refine lv_istore (lv' := [(5, .int (nI 0)), (4, .int (nI 0)), (0, .ref (a 0)), (1, .int (nI d)), (2, .int (v)), (3, .int (to))]) hx hb dX2_moveAll_4 hl (by decide) rfl (fun ls hl => ?_)
  refine lv_aload_n hx hb dX2_moveAll_6 rfl (lv_at hl 2 rfl) ?_
  refine va_get (D := G.1) (ci := 2) (v := .int (nI L.length)) (C := RX2) (T := TX2) (N := 5) hx hb hts hinX2 hown hK.1 hP 0 rfl rfl 4 (by decide) (hts (.fieldLink RX2 26 "PairThreads$Threads" "size" "I") (by decide +kernel)) (fun _ h9 => h9) rfl dX2_moveAll_7 ?_
  refine lv_istore (lv' := [(6, .int (nI L.length)), (5, .int (nI 0)), (4, .int (nI 0)), (0, .ref (a 0)), (1, .int (nI d)), (2, .int (v)), (3, .int (to))]) hx hb dX2_moveAll_10 hl (by decide) rfl (fun ls hl => ?_)
  refine lv_iconst (v := nI 0) hx hb dX2_moveAll_12 rfl ?_
  refine lv_istore (lv' := [(7, .int (nI 0)), (6, .int (nI L.length)), (5, .int (nI 0)), (4, .int (nI 0)), (0, .ref (a 0)), (1, .int (nI d)), (2, .int (v)), (3, .int (to))]) hx hb dX2_moveAll_13 hl (by decide) rfl (fun ls hl => ?_)
  have loop : ∀ (k9 : Nat) (t : Nat) (M : List Pr) (p : Nat → Nat) (N : Nat → Nat → Int32) (B : Nat → Nat → Option Nat) (F : Nat → Nat → Option Nat) (H : Heap) (locs : List Loc) (ls : Array Slot), L.length < t + k9 → t ≤ L.length → M = wo d v (L.take t) ++ (L.drop t ++ (ren d v to (wo d v L) (L.take t)).1) → TI p N B F M → va_P G.1 vwCl (cT G a p N B F M.length ++ []) H → va_S (fun q => q ∈ aT a) s.heap H locs → lv_has ls 11 [(7, .int (nI t)), (6, .int (nI L.length)), (5, .int (nI ((wo d v (L.take t)).length))), (4, .int (nI ((ren d v to (wo d v L) (L.take t)).2))), (0, .ref (a 0)), (1, .int (nI d)), (2, .int (v)), (3, .int (to))] → Wz p9 l e 3 70 s m [.ref (a 0), .int (nI d), .int (v), .int (to)] below meth c (fun q => q ∈ aT a) (fun r h => r = some (.int (nI (ren d v to (wo d v L) L).2)) ∧ cTL G a (wo d v L ++ (ren d v to (wo d v L) L).1) h) H locs (F0 m 15 ls []) := by
    intro k9
    induction k9 with
    | zero =>
      intro t M p N B F H locs ls hfuel ht hM hTI hP hS hl
      exact absurd hfuel (by omega)
    | succ k9 ih =>
      intro t M p N B F H locs ls hfuel ht hM hTI hP hS hl
      have hL3 := hTI.2.2.1
      refine lv_iload hx hb dX2_moveAll_15 (lv_at hl 0 rfl) ?_
      refine lv_iload hx hb dX2_moveAll_17 (lv_at hl 1 rfl) ?_
      refine z_icmp_ge (tgt := 124) hx hb (by omega) (by omega) dX2_moveAll_19 (by decide) (fun hc1 => ?_) (fun hc1 => ?_)
      · have he : t = L.length := by omega
        subst he
        have hM2 : M = wo d v L ++ (ren d v to (wo d v L) L).1 := by rw [hM, List.take_length, List.drop_length]; rfl
        refine lv_iload hx hb dX2_moveAll_124 (lv_at hl 3 rfl) ?_
        exact z_iret hx hb hr hlocks ⟨by rw [List.take_length], p, N, B, F, by rw [← hM2]; exact ⟨hTI, hP⟩⟩ hS dX2_moveAll_126
      · obtain ⟨q, hq⟩ : ∃ z, z = (wo d v (L.take t)).length := ⟨_, rfl⟩
        have hl : lv_has ls 11 [(7, .int (nI t)), (6, .int (nI L.length)), (5, .int (nI q)), (4, .int (nI ((ren d v to (wo d v L) (L.take t)).2))), (0, .ref (a 0)), (1, .int (nI d)), (2, .int (v)), (3, .int (to))] := by rw [hq]; exact hl
        have hdr := drop_cons_pr L (show t < L.length by omega)
        have htk := take_succ_pr L (show t < L.length by omega)
        obtain ⟨x0, hx0⟩ : ∃ z, z = L.getD t (0, 0) := ⟨_, rfl⟩
        rw [← hx0] at hdr htk
        have hMi : M = wo d v (L.take t) ++ x0 :: (L.drop (t + 1) ++ (ren d v to (wo d v L) (L.take t)).1) := by rw [hM, hdr]; rfl
        have hqM : q < M.length := by rw [hMi, List.length_append, hq, List.length_cons]; omega
        have hpq := hTI.1 q (by omega)
        have hkey : ∀ e, e < 2 → N e (p q) = sd e x0 := fun e he => by rw [hTI.2.2.2.1 e q he hqM, hMi, hq, key_mid]
        refine lv_aload_n hx hb dX2_moveAll_22 rfl (lv_at hl 4 rfl) ?_
        refine va_get (D := G.1) (ci := 2) (v := .ref (a 1)) (C := RX2) (T := TX2) (N := 5) hx hb hts hinX2 hown hK.1 hP 0 rfl rfl 0 (by decide) (hts (.fieldLink RX2 9 "PairThreads$Threads" "order" "[I") (by decide +kernel)) (fun _ h9 => h9) rfl dX2_moveAll_23 ?_
        refine lv_iload hx hb dX2_moveAll_26 (lv_at hl 2 rfl) ?_
        refine z_ialdN hx hb hK hP 1 rfl (j := q) (by omega) (by decide) dX2_moveAll_28 ?_
        refine lv_istore (lv' := [(8, .int (nI (p q))), (7, .int (nI t)), (6, .int (nI L.length)), (5, .int (nI q)), (4, .int (nI ((ren d v to (wo d v L) (L.take t)).2))), (0, .ref (a 0)), (1, .int (nI d)), (2, .int (v)), (3, .int (to))]) hx hb dX2_moveAll_29 hl (by decide) rfl (fun ls hl => ?_)
        refine lv_aload_n hx hb dX2_moveAll_31 rfl (lv_at hl 5 rfl) ?_
        refine va_get (D := G.1) (ci := 2) (v := .ref (a 2)) (C := RX2) (T := TX2) (N := 5) hx hb hts hinX2 hown hK.1 hP 0 rfl rfl 1 (by decide) (hts (.fieldLink RX2 17 "PairThreads$Threads" "number" "[[I") (by decide +kernel)) (fun _ h9 => h9) rfl dX2_moveAll_32 ?_
        refine lv_iload_n hx hb dX2_moveAll_35 rfl (lv_at hl 6 rfl) ?_
        refine z_ald hx hb hK hP 2 rfl (j := d) (by omega) (by decide) dX2_moveAll_36 ?_
        refine lv_iload hx hb dX2_moveAll_37 (lv_at hl 0 rfl) ?_
        refine z_iald hx hb hK hP (5 + d) (cT_N hd) (j := p q) (by omega) (by decide) dX2_moveAll_39 ?_
        refine lv_iload_n hx hb dX2_moveAll_40 rfl (lv_at hl 7 rfl) ?_
        refine lv_icmp_eq (tgt := 50) hx hb dX2_moveAll_41 (by decide) (fun hc2 => ?_) (fun hc2 => ?_)
        · rw [hkey d hd] at hc2
          refine lv_iload_n hx hb dX2_moveAll_50 rfl (lv_at hl 6 rfl) ?_
          refine z_if_ne (tgt := 58) hx hb (by omega) dX2_moveAll_51 (by decide) (fun hc3 => ?_) (fun hc3 => ?_)
          · have hd1 : d = 1 := by omega
            refine lv_aload_n hx hb dX2_moveAll_58 rfl (lv_at hl 5 rfl) ?_
            refine va_get (D := G.1) (ci := 2) (v := .ref (a 2)) (C := RX2) (T := TX2) (N := 5) hx hb hts hinX2 hown hK.1 hP 0 rfl rfl 1 (by decide) (hts (.fieldLink RX2 17 "PairThreads$Threads" "number" "[[I") (by decide +kernel)) (fun _ h9 => h9) rfl dX2_moveAll_59 ?_
            refine lv_iconst (v := nI 0) hx hb dX2_moveAll_62 rfl ?_
            refine z_ald hx hb hK hP 2 rfl (j := 0) (by omega) (by decide) dX2_moveAll_63 ?_
            refine lv_iload hx hb dX2_moveAll_64 (lv_at hl 0 rfl) ?_
            refine z_iald hx hb hK hP 5 rfl (j := p q) (by omega) (by decide) dX2_moveAll_66 ?_
            refine lv_istore (lv' := [(9, .int (N 0 (p q))), (8, .int (nI (p q))), (7, .int (nI t)), (6, .int (nI L.length)), (5, .int (nI q)), (4, .int (nI ((ren d v to (wo d v L) (L.take t)).2))), (0, .ref (a 0)), (1, .int (nI d)), (2, .int (v)), (3, .int (to))]) hx hb dX2_moveAll_67 hl (by decide) rfl (fun ls hl => ?_)
            refine lv_iload_n hx hb dX2_moveAll_69 rfl (lv_at hl 7 rfl) ?_
            refine lv_iconst (v := nI 1) hx hb dX2_moveAll_70 rfl ?_
            refine z_icmp_ne (tgt := 78) hx hb (by omega) (by omega) dX2_moveAll_71 (by decide) (fun hc4 => ?_) (fun hc4 => ?_)
            · exact absurd hd1 hc4
            · refine lv_iload_n hx hb dX2_moveAll_74 rfl (lv_at hl 9 rfl) ?_
              refine lv_goto (tgt := 87) hx hb dX2_moveAll_75 (by decide) ?_
              refine lv_istore (lv' := [(10, .int (to)), (9, .int (N 0 (p q))), (8, .int (nI (p q))), (7, .int (nI t)), (6, .int (nI L.length)), (5, .int (nI q)), (4, .int (nI ((ren d v to (wo d v L) (L.take t)).2))), (0, .ref (a 0)), (1, .int (nI d)), (2, .int (v)), (3, .int (to))]) hx hb dX2_moveAll_87 hl (by decide) rfl (fun ls hl => ?_)
              have hxy : (N 0 (p q), to) = mkp d to (od d x0) := by rw [hkey 0 (by omega), hd1]; rfl
              refine lv_aload_n hx hb dX2_moveAll_89 rfl (lv_at hl 7 rfl) ?_
              refine lv_iload hx hb dX2_moveAll_90 (lv_at hl 5 rfl) ?_
              refine z_callV (rest := []) 1 ⟨hx, hb, hml, hown, hts⟩ hK (c_takeOut l G a p N B F M hTI q hqM hnd) gX2_moveAll_X2_takeOut rfl (by decide +kernel) ⟨Nat.le_of_ble_eq_true rfl, Nat.le_of_ble_eq_true rfl⟩ hP 0 rfl rfl rfl rfl hl.1 rfl (Nat.le_of_ble_eq_true rfl) dX2_moveAll_92 ⟨Nat.le_refl _, Nat.le_refl _⟩ hS (fun _ h => h) (fun v9 H9 locs hR9 hk9 hS => ?_)
              obtain ⟨rfl, p2, N2, B2, F2, hTI2, hP⟩ := hR9
              clear hk9
              generalize H9 = H at hP hS ⊢
              refine W.eq (g2 := F0 m 95 ls []) rfl ?_
              obtain ⟨M2, eM2⟩ : ∃ z, z = M.eraseIdx q := ⟨_, rfl⟩
              rw [← eM2] at hTI2 hP
              have hM2 : M2 = wo d v (L.take t) ++ (L.drop (t + 1) ++ (ren d v to (wo d v L) (L.take t)).1) := by rw [eM2, hMi]; exact erase_at hq.symm
              have hM2l : M2.length < 300 := by rw [eM2, List.length_eraseIdx_of_lt hqM]; omega
              refine lv_aload_n hx hb dX2_moveAll_95 rfl (lv_at hl 7 rfl) ?_
              refine lv_iload hx hb dX2_moveAll_96 (lv_at hl 1 rfl) ?_
              refine lv_iload hx hb dX2_moveAll_98 (lv_at hl 0 rfl) ?_
              refine z_callV (rest := []) 2 ⟨hx, hb, hml, hown, hts⟩ hK (c_placeOf l G a p2 N2 B2 F2 M2.length (N 0 (p q)) to (by omega) hTI2.1) gX2_moveAll_X2_placeOf rfl (by decide +kernel) ⟨Nat.le_of_ble_eq_true rfl, Nat.le_of_ble_eq_true rfl⟩ hP 0 rfl rfl rfl rfl hl.1 rfl (Nat.le_of_ble_eq_true rfl) dX2_moveAll_100 ⟨Nat.le_refl _, Nat.le_refl _⟩ hS (fun _ h => h.elim) (fun v9 H9 locs hR9 hk9 hS => ?_)
              obtain ⟨o, rfl, ho⟩ := hR9
              have hP := P_keep0 hP hk9
              clear hk9
              generalize H9 = H at hP hS ⊢
              refine W.eq (g2 := F0 m 103 ls [.int (lk o)]) rfl ?_
              have hmem := placeR_mem (fun i hi => hTI2.2.2.2.1 0 i (by omega) hi) (fun i hi => hTI2.2.2.2.1 1 i (by omega) hi) ho
              rw [hM2, hxy, move_mem (by omega) (by rw [← hx0]; exact hc2) hto (sd_mkp d to _)] at hmem
              have hwo : wo d v (L.take (t + 1)) = wo d v (L.take t) := by rw [htk, wo_app, wo_hit hc2]; exact List.append_nil _
              refine lv_iconst (v := (-1)) hx hb dX2_moveAll_103 rfl ?_
              refine z_none_ne (tgt := 118) hx hb (fun k hk => by rcases ho with ⟨e1, -⟩ | ⟨j, e1, h1, -⟩; rw [e1] at hk; cases hk; rw [e1] at hk; cases hk; omega) dX2_moveAll_104 (by decide) (fun k hc5 => ?_) (fun hc5 => ?_)
              · have hin : mkp d to (od d x0) ∈ wo d v L ++ (ren d v to (wo d v L) (L.take t)).1 := Decidable.byContradiction (fun z => by rw [hmem.mpr z] at hc5; cases hc5)
                have hrn : ren d v to (wo d v L) (L.take (t + 1)) = ren d v to (wo d v L) (L.take t) := by rw [htk, ren_snoc]; unfold renS; rw [if_pos hc2, if_pos hin]
                refine z_iinc (lv' := [(7, .int (nI (t + 1))), (10, .int (to)), (9, .int (N 0 (p q))), (8, .int (nI (p q))), (6, .int (nI L.length)), (5, .int (nI q)), (4, .int (nI ((ren d v to (wo d v L) (L.take t)).2))), (0, .ref (a 0)), (1, .int (nI d)), (2, .int (v)), (3, .int (to))]) hx hb dX2_moveAll_118 hl (k := 3) rfl (by decide) rfl (fun ls hl => ?_)
                refine lv_goto (tgt := 15) hx hb dX2_moveAll_121 (by decide) ?_
                have hl : lv_has ls 11 [(7, .int (nI (t + 1))), (10, .int (to)), (9, .int (N 0 (p q))), (8, .int (nI (p q))), (6, .int (nI L.length)), (5, .int (nI ((wo d v (L.take (t + 1))).length))), (4, .int (nI ((ren d v to (wo d v L) (L.take (t + 1))).2))), (0, .ref (a 0)), (1, .int (nI d)), (2, .int (v)), (3, .int (to))] := by rw [hwo, hrn, ← hq]; exact hl
                exact ih (t + 1) M2 p2 N2 B2 F2 H locs ls (by omega) (by omega) (by rw [hwo, hrn]; exact hM2) hTI2 hP hS (lv_sub hl [0, 4, 5, 6, 7, 8, 9, 10] rfl)
              · have hout : ¬ mkp d to (od d x0) ∈ wo d v L ++ (ren d v to (wo d v L) (L.take t)).1 := hmem.mp hc5
                have hrn : ren d v to (wo d v L) (L.take (t + 1)) = ((ren d v to (wo d v L) (L.take t)).1 ++ [mkp d to (od d x0)], (ren d v to (wo d v L) (L.take t)).2 + 1) := by rw [htk, ren_snoc]; unfold renS; rw [if_pos hc2, if_neg hout]
                refine lv_aload_n hx hb dX2_moveAll_107 rfl (lv_at hl 7 rfl) ?_
                refine lv_iload hx hb dX2_moveAll_108 (lv_at hl 1 rfl) ?_
                refine lv_iload hx hb dX2_moveAll_110 (lv_at hl 0 rfl) ?_
                refine z_callV (rest := []) 2 ⟨hx, hb, hml, hown, hts⟩ hK (c_append l G a p2 N2 B2 F2 M2 hTI2 (N 0 (p q)) to hM2l hnd) gX2_moveAll_X2_append rfl (by decide +kernel) ⟨Nat.le_of_ble_eq_true rfl, Nat.le_of_ble_eq_true rfl⟩ hP 0 rfl rfl rfl rfl hl.1 rfl (Nat.le_of_ble_eq_true rfl) dX2_moveAll_112 ⟨Nat.le_refl _, Nat.le_refl _⟩ hS (fun _ h => h) (fun v9 H9 locs hR9 hk9 hS => ?_)
                obtain ⟨rfl, p3, N3, B3, F3, hTI3, hP⟩ := hR9
                clear hk9
                generalize H9 = H at hP hS ⊢
                refine W.eq (g2 := F0 m 115 ls []) rfl ?_
                obtain ⟨M3, eM3⟩ : ∃ z, z = M2 ++ [(N 0 (p q), to)] := ⟨_, rfl⟩
                rw [← eM3] at hTI3 hP
                refine z_iinc (lv' := [(4, .int (nI ((ren d v to (wo d v L) (L.take t)).2 + 1))), (10, .int (to)), (9, .int (N 0 (p q))), (8, .int (nI (p q))), (7, .int (nI t)), (6, .int (nI L.length)), (5, .int (nI q)), (0, .ref (a 0)), (1, .int (nI d)), (2, .int (v)), (3, .int (to))]) hx hb dX2_moveAll_115 hl (k := 6) rfl (by decide) rfl (fun ls hl => ?_)
                refine z_iinc (lv' := [(7, .int (nI (t + 1))), (4, .int (nI ((ren d v to (wo d v L) (L.take t)).2 + 1))), (10, .int (to)), (9, .int (N 0 (p q))), (8, .int (nI (p q))), (6, .int (nI L.length)), (5, .int (nI q)), (0, .ref (a 0)), (1, .int (nI d)), (2, .int (v)), (3, .int (to))]) hx hb dX2_moveAll_118 hl (k := 4) rfl (by decide) rfl (fun ls hl => ?_)
                refine lv_goto (tgt := 15) hx hb dX2_moveAll_121 (by decide) ?_
                have hl : lv_has ls 11 [(7, .int (nI (t + 1))), (4, .int (nI ((ren d v to (wo d v L) (L.take (t + 1))).2))), (10, .int (to)), (9, .int (N 0 (p q))), (8, .int (nI (p q))), (6, .int (nI L.length)), (5, .int (nI ((wo d v (L.take (t + 1))).length))), (0, .ref (a 0)), (1, .int (nI d)), (2, .int (v)), (3, .int (to))] := by rw [hwo, hrn, ← hq]; exact hl
                exact ih (t + 1) M3 p3 N3 B3 F3 H locs ls (by omega) (by omega) (by rw [hwo, hrn, eM3, hM2, hxy]; simp only [List.append_assoc]) hTI3 hP hS (lv_sub hl [0, 5, 6, 1, 7, 8, 9, 10] rfl)
          · refine lv_iload_n hx hb dX2_moveAll_54 rfl (lv_at hl 8 rfl) ?_
            refine lv_goto (tgt := 67) hx hb dX2_moveAll_55 (by decide) ?_
            refine lv_istore (lv' := [(9, .int (to)), (8, .int (nI (p q))), (7, .int (nI t)), (6, .int (nI L.length)), (5, .int (nI q)), (4, .int (nI ((ren d v to (wo d v L) (L.take t)).2))), (0, .ref (a 0)), (1, .int (nI d)), (2, .int (v)), (3, .int (to))]) hx hb dX2_moveAll_67 hl (by decide) rfl (fun ls hl => ?_)
            refine lv_iload_n hx hb dX2_moveAll_69 rfl (lv_at hl 7 rfl) ?_
            refine lv_iconst (v := nI 1) hx hb dX2_moveAll_70 rfl ?_
            refine z_icmp_ne (tgt := 78) hx hb (by omega) (by omega) dX2_moveAll_71 (by decide) (fun hc6 => ?_) (fun hc6 => ?_)
            · refine lv_aload_n hx hb dX2_moveAll_78 rfl (lv_at hl 6 rfl) ?_
              refine va_get (D := G.1) (ci := 2) (v := .ref (a 2)) (C := RX2) (T := TX2) (N := 5) hx hb hts hinX2 hown hK.1 hP 0 rfl rfl 1 (by decide) (hts (.fieldLink RX2 17 "PairThreads$Threads" "number" "[[I") (by decide +kernel)) (fun _ h9 => h9) rfl dX2_moveAll_79 ?_
              refine lv_iconst (v := nI 1) hx hb dX2_moveAll_82 rfl ?_
              refine z_ald hx hb hK hP 2 rfl (j := 1) (by omega) (by decide) dX2_moveAll_83 ?_
              refine lv_iload hx hb dX2_moveAll_84 (lv_at hl 1 rfl) ?_
              refine z_iald hx hb hK hP 6 rfl (j := p q) (by omega) (by decide) dX2_moveAll_86 ?_
              refine lv_istore (lv' := [(10, .int (N 1 (p q))), (9, .int (to)), (8, .int (nI (p q))), (7, .int (nI t)), (6, .int (nI L.length)), (5, .int (nI q)), (4, .int (nI ((ren d v to (wo d v L) (L.take t)).2))), (0, .ref (a 0)), (1, .int (nI d)), (2, .int (v)), (3, .int (to))]) hx hb dX2_moveAll_87 hl (by decide) rfl (fun ls hl => ?_)
              have hxy : (to, N 1 (p q)) = mkp d to (od d x0) := by rw [hkey 1 (by omega), hc3]; rfl
              refine lv_aload_n hx hb dX2_moveAll_89 rfl (lv_at hl 7 rfl) ?_
              refine lv_iload hx hb dX2_moveAll_90 (lv_at hl 5 rfl) ?_
              refine z_callV (rest := []) 1 ⟨hx, hb, hml, hown, hts⟩ hK (c_takeOut l G a p N B F M hTI q hqM hnd) gX2_moveAll_X2_takeOut rfl (by decide +kernel) ⟨Nat.le_of_ble_eq_true rfl, Nat.le_of_ble_eq_true rfl⟩ hP 0 rfl rfl rfl rfl hl.1 rfl (Nat.le_of_ble_eq_true rfl) dX2_moveAll_92 ⟨Nat.le_refl _, Nat.le_refl _⟩ hS (fun _ h => h) (fun v9 H9 locs hR9 hk9 hS => ?_)
              obtain ⟨rfl, p2, N2, B2, F2, hTI2, hP⟩ := hR9
              clear hk9
              generalize H9 = H at hP hS ⊢
              refine W.eq (g2 := F0 m 95 ls []) rfl ?_
              obtain ⟨M2, eM2⟩ : ∃ z, z = M.eraseIdx q := ⟨_, rfl⟩
              rw [← eM2] at hTI2 hP
              have hM2 : M2 = wo d v (L.take t) ++ (L.drop (t + 1) ++ (ren d v to (wo d v L) (L.take t)).1) := by rw [eM2, hMi]; exact erase_at hq.symm
              have hM2l : M2.length < 300 := by rw [eM2, List.length_eraseIdx_of_lt hqM]; omega
              refine lv_aload_n hx hb dX2_moveAll_95 rfl (lv_at hl 7 rfl) ?_
              refine lv_iload hx hb dX2_moveAll_96 (lv_at hl 1 rfl) ?_
              refine lv_iload hx hb dX2_moveAll_98 (lv_at hl 0 rfl) ?_
              refine z_callV (rest := []) 2 ⟨hx, hb, hml, hown, hts⟩ hK (c_placeOf l G a p2 N2 B2 F2 M2.length to (N 1 (p q)) (by omega) hTI2.1) gX2_moveAll_X2_placeOf rfl (by decide +kernel) ⟨Nat.le_of_ble_eq_true rfl, Nat.le_of_ble_eq_true rfl⟩ hP 0 rfl rfl rfl rfl hl.1 rfl (Nat.le_of_ble_eq_true rfl) dX2_moveAll_100 ⟨Nat.le_refl _, Nat.le_refl _⟩ hS (fun _ h => h.elim) (fun v9 H9 locs hR9 hk9 hS => ?_)
              obtain ⟨o, rfl, ho⟩ := hR9
              have hP := P_keep0 hP hk9
              clear hk9
              generalize H9 = H at hP hS ⊢
              refine W.eq (g2 := F0 m 103 ls [.int (lk o)]) rfl ?_
              have hmem := placeR_mem (fun i hi => hTI2.2.2.2.1 0 i (by omega) hi) (fun i hi => hTI2.2.2.2.1 1 i (by omega) hi) ho
              rw [hM2, hxy, move_mem (by omega) (by rw [← hx0]; exact hc2) hto (sd_mkp d to _)] at hmem
              have hwo : wo d v (L.take (t + 1)) = wo d v (L.take t) := by rw [htk, wo_app, wo_hit hc2]; exact List.append_nil _
              refine lv_iconst (v := (-1)) hx hb dX2_moveAll_103 rfl ?_
              refine z_none_ne (tgt := 118) hx hb (fun k hk => by rcases ho with ⟨e1, -⟩ | ⟨j, e1, h1, -⟩; rw [e1] at hk; cases hk; rw [e1] at hk; cases hk; omega) dX2_moveAll_104 (by decide) (fun k hc7 => ?_) (fun hc7 => ?_)
              · have hin : mkp d to (od d x0) ∈ wo d v L ++ (ren d v to (wo d v L) (L.take t)).1 := Decidable.byContradiction (fun z => by rw [hmem.mpr z] at hc7; cases hc7)
                have hrn : ren d v to (wo d v L) (L.take (t + 1)) = ren d v to (wo d v L) (L.take t) := by rw [htk, ren_snoc]; unfold renS; rw [if_pos hc2, if_pos hin]
                refine z_iinc (lv' := [(7, .int (nI (t + 1))), (10, .int (N 1 (p q))), (9, .int (to)), (8, .int (nI (p q))), (6, .int (nI L.length)), (5, .int (nI q)), (4, .int (nI ((ren d v to (wo d v L) (L.take t)).2))), (0, .ref (a 0)), (1, .int (nI d)), (2, .int (v)), (3, .int (to))]) hx hb dX2_moveAll_118 hl (k := 3) rfl (by decide) rfl (fun ls hl => ?_)
                refine lv_goto (tgt := 15) hx hb dX2_moveAll_121 (by decide) ?_
                have hl : lv_has ls 11 [(7, .int (nI (t + 1))), (10, .int (N 1 (p q))), (9, .int (to)), (8, .int (nI (p q))), (6, .int (nI L.length)), (5, .int (nI ((wo d v (L.take (t + 1))).length))), (4, .int (nI ((ren d v to (wo d v L) (L.take (t + 1))).2))), (0, .ref (a 0)), (1, .int (nI d)), (2, .int (v)), (3, .int (to))] := by rw [hwo, hrn, ← hq]; exact hl
                exact ih (t + 1) M2 p2 N2 B2 F2 H locs ls (by omega) (by omega) (by rw [hwo, hrn]; exact hM2) hTI2 hP hS (lv_sub hl [0, 4, 5, 6, 7, 8, 9, 10] rfl)
              · have hout : ¬ mkp d to (od d x0) ∈ wo d v L ++ (ren d v to (wo d v L) (L.take t)).1 := hmem.mp hc7
                have hrn : ren d v to (wo d v L) (L.take (t + 1)) = ((ren d v to (wo d v L) (L.take t)).1 ++ [mkp d to (od d x0)], (ren d v to (wo d v L) (L.take t)).2 + 1) := by rw [htk, ren_snoc]; unfold renS; rw [if_pos hc2, if_neg hout]
                refine lv_aload_n hx hb dX2_moveAll_107 rfl (lv_at hl 7 rfl) ?_
                refine lv_iload hx hb dX2_moveAll_108 (lv_at hl 1 rfl) ?_
                refine lv_iload hx hb dX2_moveAll_110 (lv_at hl 0 rfl) ?_
                refine z_callV (rest := []) 2 ⟨hx, hb, hml, hown, hts⟩ hK (c_append l G a p2 N2 B2 F2 M2 hTI2 to (N 1 (p q)) hM2l hnd) gX2_moveAll_X2_append rfl (by decide +kernel) ⟨Nat.le_of_ble_eq_true rfl, Nat.le_of_ble_eq_true rfl⟩ hP 0 rfl rfl rfl rfl hl.1 rfl (Nat.le_of_ble_eq_true rfl) dX2_moveAll_112 ⟨Nat.le_refl _, Nat.le_refl _⟩ hS (fun _ h => h) (fun v9 H9 locs hR9 hk9 hS => ?_)
                obtain ⟨rfl, p3, N3, B3, F3, hTI3, hP⟩ := hR9
                clear hk9
                generalize H9 = H at hP hS ⊢
                refine W.eq (g2 := F0 m 115 ls []) rfl ?_
                obtain ⟨M3, eM3⟩ : ∃ z, z = M2 ++ [(to, N 1 (p q))] := ⟨_, rfl⟩
                rw [← eM3] at hTI3 hP
                refine z_iinc (lv' := [(4, .int (nI ((ren d v to (wo d v L) (L.take t)).2 + 1))), (10, .int (N 1 (p q))), (9, .int (to)), (8, .int (nI (p q))), (7, .int (nI t)), (6, .int (nI L.length)), (5, .int (nI q)), (0, .ref (a 0)), (1, .int (nI d)), (2, .int (v)), (3, .int (to))]) hx hb dX2_moveAll_115 hl (k := 6) rfl (by decide) rfl (fun ls hl => ?_)
                refine z_iinc (lv' := [(7, .int (nI (t + 1))), (4, .int (nI ((ren d v to (wo d v L) (L.take t)).2 + 1))), (10, .int (N 1 (p q))), (9, .int (to)), (8, .int (nI (p q))), (6, .int (nI L.length)), (5, .int (nI q)), (0, .ref (a 0)), (1, .int (nI d)), (2, .int (v)), (3, .int (to))]) hx hb dX2_moveAll_118 hl (k := 4) rfl (by decide) rfl (fun ls hl => ?_)
                refine lv_goto (tgt := 15) hx hb dX2_moveAll_121 (by decide) ?_
                have hl : lv_has ls 11 [(7, .int (nI (t + 1))), (4, .int (nI ((ren d v to (wo d v L) (L.take (t + 1))).2))), (10, .int (N 1 (p q))), (9, .int (to)), (8, .int (nI (p q))), (6, .int (nI L.length)), (5, .int (nI ((wo d v (L.take (t + 1))).length))), (0, .ref (a 0)), (1, .int (nI d)), (2, .int (v)), (3, .int (to))] := by rw [hwo, hrn, ← hq]; exact hl
                exact ih (t + 1) M3 p3 N3 B3 F3 H locs ls (by omega) (by omega) (by rw [hwo, hrn, eM3, hM2, hxy]; simp only [List.append_assoc]) hTI3 hP hS (lv_sub hl [0, 5, 6, 1, 7, 8, 9, 10] rfl)
            · exact absurd (hc3.symm.trans hc6) (by decide)
        · rw [hkey d hd] at hc2
          have hwo : wo d v (L.take (t + 1)) = wo d v (L.take t) ++ [x0] := by rw [htk, wo_app, wo_miss hc2]; rfl
          have hrn : ren d v to (wo d v L) (L.take (t + 1)) = ren d v to (wo d v L) (L.take t) := by rw [htk, ren_snoc]; unfold renS; rw [if_neg hc2]
          refine z_iinc (lv' := [(5, .int (nI (q + 1))), (8, .int (nI (p q))), (7, .int (nI t)), (6, .int (nI L.length)), (4, .int (nI ((ren d v to (wo d v L) (L.take t)).2))), (0, .ref (a 0)), (1, .int (nI d)), (2, .int (v)), (3, .int (to))]) hx hb dX2_moveAll_44 hl (k := 3) rfl (by decide) rfl (fun ls hl => ?_)
          refine lv_goto (tgt := 118) hx hb dX2_moveAll_47 (by decide) ?_
          refine z_iinc (lv' := [(7, .int (nI (t + 1))), (5, .int (nI (q + 1))), (8, .int (nI (p q))), (6, .int (nI L.length)), (4, .int (nI ((ren d v to (wo d v L) (L.take t)).2))), (0, .ref (a 0)), (1, .int (nI d)), (2, .int (v)), (3, .int (to))]) hx hb dX2_moveAll_118 hl (k := 2) rfl (by decide) rfl (fun ls hl => ?_)
          refine lv_goto (tgt := 15) hx hb dX2_moveAll_121 (by decide) ?_
          have hl : lv_has ls 11 [(7, .int (nI (t + 1))), (5, .int (nI ((wo d v (L.take (t + 1))).length))), (8, .int (nI (p q))), (6, .int (nI L.length)), (4, .int (nI ((ren d v to (wo d v L) (L.take (t + 1))).2))), (0, .ref (a 0)), (1, .int (nI d)), (2, .int (v)), (3, .int (to))] := by rw [hwo, hrn, List.length_append, ← hq]; exact hl
          exact ih (t + 1) M p N B F H locs ls (by omega) (by omega) (by rw [hwo, hrn, hMi, List.append_assoc]; rfl) hTI hP hS (lv_sub hl [0, 3, 1, 4, 5, 6, 7, 8] rfl)
  exact loop (L.length + 1) 0 L p N B F _ _ ls (by omega) (by omega) (by simp [wo, ren]) hTI hP hS (lv_sub hl [0, 1, 2, 3, 4, 5, 6, 7] rfl)
end
section
/-! the model's state, and sides -/
theorem P_nil {D : va_G} {cl : List vw_C} {H : Heap} : va_P D cl [] H := fun k q h => by simp at h
def sideOf (x : Int32) : Option Nat := if x = nI 0 then some 0 else if x = nI 1 then some 1 else none
theorem sideOf_some {x : Int32} {d : Nat} (h : sideOf x = some d) : d < 2 ∧ x = nI d := by
  unfold sideOf at h
  split at h
  · cases h; exact ⟨by omega, by assumption⟩
  · split at h
    · cases h; exact ⟨by omega, by assumption⟩
    · cases h
theorem sideOf_nI {d : Nat} (h : d < 2) : sideOf (nI d) = some d := by
  rcases (show d = 0 ∨ d = 1 by omega) with rfl | rfl <;> decide
def aR (b : Nat → Nat) : List Nat := [b 0, b 1, b 2, b 3, b 4, b 5, b 6, b 7, b 8, b 9, b 10, b 11, b 12]
def MI (lf rt : Nat → Int32) (L : List Pr) : Prop := L.length ≤ 300 ∧ ∀ i, i < L.length → lf i = key 0 L i ∧ rt i = key 1 L i
def ow (d : Nat) (lf rt : Nat → Int32) (k : Nat) : Int32 := if d = 0 then lf k else rt k
theorem ow_key {lf rt : Nat → Int32} {L : List Pr} {d k : Nat} (h : MI lf rt L) (hd : d < 2) (hk : k < L.length) : ow d lf rt k = key d L k := by
  rcases (show d = 0 ∨ d = 1 by omega) with rfl | rfl
  · exact (h.2 k hk).1
  · exact (h.2 k hk).2
def posR (L : List Pr) (x y : Int32) (o : Option Nat) : Prop := (o = none ∧ (x, y) ∉ L) ∨ ∃ i, o = some i ∧ i < L.length ∧ L[i]? = some (x, y)
theorem getElem_key {L : List Pr} {i : Nat} (h : i < L.length) : L[i]? = some (key 0 L i, key 1 L i) := by
  unfold key sd
  rw [List.getD_eq_getElem?_getD, List.getElem?_eq_getElem h]
  rfl
theorem placeR_pos {L : List Pr} {K0 K1 : Nat → Int32} {x y : Int32} {o : Option Nat} (h0 : ∀ i, i < L.length → K0 i = key 0 L i) (h1 : ∀ i, i < L.length → K1 i = key 1 L i) (h : placeR K0 K1 L.length x y o) : posR L x y o := by
  have hm := placeR_mem h0 h1 h
  rcases h with ⟨e, a⟩ | ⟨i, e, a, b, -⟩
  · exact Or.inl ⟨e, hm.mp e⟩
  · exact Or.inr ⟨i, e, a, by rw [getElem_key a, ← h0 i a, ← h1 i a, b.1, b.2]⟩
theorem posR_uniq {L : List Pr} (hn : L.Nodup) {x y : Int32} {o1 o2 : Option Nat} (h1 : posR L x y o1) (h2 : posR L x y o2) : o1 = o2 := by
  rcases h1 with ⟨e1, a1⟩ | ⟨i, e1, a1, b1⟩ <;> rcases h2 with ⟨e2, a2⟩ | ⟨j, e2, a2, b2⟩
  · rw [e1, e2]
  · exact absurd (List.mem_of_getElem? b2) a1
  · exact absurd (List.mem_of_getElem? b1) a2
  · rw [e1, e2]
    obtain ⟨c1, d1⟩ := List.getElem?_eq_some_iff.mp b1
    obtain ⟨c2, d2⟩ := List.getElem?_eq_some_iff.mp b2
    have hp := List.pairwise_iff_getElem.mp hn
    rcases Nat.lt_trichotomy i j with z | z | z
    · exact absurd (d1.trans d2.symm) (hp i j c1 c2 z)
    · rw [z]
    · exact absurd (d2.trans d1.symm) (hp j i c2 c1 z)
theorem MI_add {lf rt : Nat → Int32} {L : List Pr} {x y : Int32} (h : MI lf rt L) (hl : L.length < 300) : MI (upd lf L.length x) (upd rt L.length y) (L ++ [(x, y)]) := by
  refine ⟨by simp; omega, fun i hi => ?_⟩
  rw [show (L ++ [(x, y)]).length = L.length + 1 by simp] at hi
  rcases Nat.lt_succ_iff_lt_or_eq.mp hi with q | q
  · rw [pk_un (by omega), pk_un (by omega), key_app q, key_app q]
    exact h.2 i q
  · subst q
    rw [pk_us, pk_us, key_new, key_new]
    exact ⟨rfl, rfl⟩
/-- the elements from t on, up to k, moved down by one -/
def sh (t k : Nat) (f : Nat → Int32) : Nat → Int32 := fun i => if t ≤ i ∧ i < k then f (i + 1) else f i
theorem sh_0 (t : Nat) (f : Nat → Int32) : sh t t f = f := by
  funext i
  unfold sh
  rw [if_neg (by omega)]
theorem sh_s {t k : Nat} (h : t ≤ k) (f : Nat → Int32) : upd (sh t k f) k (sh t k f (k + 1)) = sh t (k + 1) f := by
  funext i
  unfold upd sh
  by_cases e : i = k
  · subst e
    rw [if_pos rfl, if_neg (by omega), if_pos (by omega)]
  · rw [if_neg e]
    by_cases e2 : t ≤ i ∧ i < k
    · rw [if_pos e2, if_pos (by omega)]
    · rw [if_neg e2, if_neg (by omega)]
theorem MI_rem {lf rt : Nat → Int32} {L : List Pr} {t : Nat} (h : MI lf rt L) (ht : t < L.length) : MI (sh t (L.length - 1) lf) (sh t (L.length - 1) rt) (L.eraseIdx t) := by
  have hlen : (L.eraseIdx t).length = L.length - 1 := List.length_eraseIdx_of_lt ht
  refine ⟨by have := h.1; omega, fun i hi => ?_⟩
  rw [hlen] at hi
  rw [key_erase, key_erase]
  by_cases e : i < t
  · rw [show sg t i = i by simp [sg, e], show sh t (L.length - 1) lf i = lf i from if_neg (by omega), show sh t (L.length - 1) rt i = rt i from if_neg (by omega)]
    exact h.2 i (by omega)
  · rw [show sg t i = i + 1 by simp [sg, e], show sh t (L.length - 1) lf i = lf (i + 1) from if_pos (by omega), show sh t (L.length - 1) rt i = rt (i + 1) from if_pos (by omega)]
    exact h.2 (i + 1) (by omega)
/-- nthR answers one place -/
theorem nthR_uniq {K : Nat → Int32} {n : Nat} {v x : Int32} {o1 o2 : Option Nat} (hn : n ≤ 300) (h1 : nthR K n v x o1) (h2 : nthR K n v x o2) : o1 = o2 := by
  rcases h1 with ⟨e1, a1⟩ | ⟨i, e1, a1, b1, c1⟩ <;> rcases h2 with ⟨e2, a2⟩ | ⟨j, e2, a2, b2, c2⟩
  · rw [e1, e2]
  · exact absurd c2 (a1 j a2 b2)
  · exact absurd c1 (a2 i a1 b1)
  · rw [e1, e2]
    have l1 := cnt_le K v i
    have l2 := cnt_le K v j
    have hc := (nI_eq (by omega) (by omega)).mp (c1.symm.trans c2)
    rcases Nat.lt_trichotomy i j with z | z | z
    · have := cnt_lt (K := K) z b1; omega
    · rw [z]
    · have := cnt_lt (K := K) z b2; omega
theorem nthR_to {K K' : Nat → Int32} {n : Nat} {v x : Int32} {o : Option Nat} (h : ∀ i, i < n → K i = K' i) (h1 : nthR K n v x o) : nthR K' n v x o := by
  rcases h1 with ⟨e1, a1⟩ | ⟨i, e1, a1, b1, c1⟩
  · exact Or.inl ⟨e1, fun j hj hv => by rw [← cntK (fun i hi => h i (by omega))]; exact a1 j hj (by rw [h j hj]; exact hv)⟩
  · exact Or.inr ⟨i, e1, a1, by rw [← h i a1]; exact b1, by rw [← cntK (fun k hk => h k (by omega))]; exact c1⟩
/-- the answers -/
def degA (L : List Pr) (sx v : Int32) : Int32 := match sideOf sx with
  | none => -1
  | some d => nI (cnt (key d L) v L.length)
def dropL (L : List Pr) (sx v : Int32) : List Pr := match sideOf sx with
  | none => L
  | some d => wo d v L
def renA (L : List Pr) (sx v to : Int32) : Int32 := match sideOf sx with
  | none => -1
  | some d => if v = to then -1 else nI (ren d v to (wo d v L) L).2
def renL (L : List Pr) (sx v to : Int32) : List Pr := match sideOf sx with
  | none => L
  | some d => if v = to then L else wo d v L ++ (ren d v to (wo d v L) L).1
def otherR (L : List Pr) (sx v x r : Int32) : Prop := match sideOf sx with
  | none => r = nI 0
  | some d => ∃ o, nthR (key d L) L.length v x o ∧ r = (match o with | none => nI 0 | some j => key (1 - d) L j)
def atA (L : List Pr) (px sx : Int32) : Int32 := match sideOf sx with
  | none => nI 0
  | some d => if 0 ≤ px.toInt ∧ px.toInt < L.length then key d L px.toInt.toNat else nI 0
/-- what rename keeps in between: the other numbers, in order -/
def keptL (d : Nat) (v : Int32) (L : List Pr) : List Int32 := (L.filter (fun x => decide (sd d x = v))).map (od d)
def renT (d : Nat) (to : Int32) (M : List Pr) (st : List Pr × Nat) (x : Int32) : List Pr × Nat :=
  if mkp d to x ∈ M ++ st.1 then st else (st.1 ++ [mkp d to x], st.2 + 1)
theorem ren_kept_aux (d : Nat) (v to : Int32) (M L : List Pr) : ∀ st, L.foldl (renS d v to M) st = (keptL d v L).foldl (renT d to M) st := by
  induction L with
  | nil => intro st; rfl
  | cons x L ih =>
    intro st
    rw [List.foldl_cons, ih]
    unfold keptL
    by_cases h : sd d x = v
    · rw [List.filter_cons_of_pos (by simpa using h), List.map_cons, List.foldl_cons]
      congr 1
      unfold renS renT
      rw [if_pos h]
    · rw [List.filter_cons_of_neg (by simpa using h)]
      congr 1
      unfold renS
      rw [if_neg h]
theorem ren_kept (d : Nat) (v to : Int32) (M L : List Pr) : ren d v to M L = (keptL d v L).foldl (renT d to M) ([], 0) := ren_kept_aux d v to M L _
theorem kept_snoc {d : Nat} {v : Int32} {L : List Pr} {t : Nat} (ht : t < L.length) : keptL d v (L.take (t + 1)) = keptL d v (L.take t) ++ (if key d L t = v then [key (1 - d) L t] else []) := by
  unfold keptL
  rw [take_succ_pr L ht, List.filter_append, List.map_append]
  congr 1
  by_cases h : key d L t = v
  · rw [if_pos h, List.filter_cons_of_pos (by rw [decide_eq_true_iff]; exact h)]
    unfold key od sd
    rcases Nat.eq_zero_or_pos d with q | q
    · subst q; rfl
    · simp [show ¬ d = 0 by omega, show 1 - d = 0 by omega]
  · rw [if_neg h, List.filter_cons_of_neg (by rw [decide_eq_true_iff]; exact h)]
    rfl
theorem kept_len (d : Nat) (v : Int32) (L : List Pr) : (keptL d v L).length ≤ L.length := by
  unfold keptL
  rw [List.length_map]
  exact List.length_filter_le ..
theorem kept_wo (d : Nat) (v : Int32) (L : List Pr) : (wo d v L).length + (keptL d v L).length = L.length := by
  unfold wo keptL
  rw [List.length_map]
  induction L with
  | nil => rfl
  | cons x L ih =>
    by_cases h : sd d x = v
    · rw [List.filter_cons_of_neg (by simpa using h), List.filter_cons_of_pos (by simpa using h), List.length_cons, List.length_cons]; omega
    · rw [List.filter_cons_of_pos (by simpa using h), List.filter_cons_of_neg (by simpa using h), List.length_cons, List.length_cons]; omega
def linkA (L : List Pr) (x y : Int32) : Int32 := if (x, y) ∈ L then -1 else if 300 ≤ L.length then -2 else nI (L.length + 1)
def linkL (L : List Pr) (x y : Int32) : List Pr := if (x, y) ∈ L then L else if 300 ≤ L.length then L else L ++ [(x, y)]
def unlA (L : List Pr) (o : Option Nat) : Int32 := match o with
  | none => -1
  | some _ => nI (L.length - 1)
def unlL (L : List Pr) (o : Option Nat) : List Pr := match o with
  | none => L
  | some i => L.eraseIdx i
theorem posR_none {L : List Pr} {x y : Int32} {o : Option Nat} (h : posR L x y o) : o = none ↔ (x, y) ∉ L := by
  rcases h with ⟨e, a⟩ | ⟨i, e, a, b⟩
  · exact ⟨fun _ => a, fun _ => e⟩
  · exact ⟨fun q => (by rw [e] at q; cases q), fun q => absurd (List.mem_of_getElem? b) q⟩
theorem posR_lt {L : List Pr} {x y : Int32} {o : Option Nat} (h : posR L x y o) : ∀ i, o = some i → i < L.length := by
  intro i hi
  rcases h with ⟨e, -⟩ | ⟨j, e, a, -⟩
  · rw [e] at hi; cases hi
  · rw [e] at hi; cases hi; exact a
theorem kept_put {KL : List Int32} {kp : Nat → Int32} {x : Int32} (h : ∀ j, j < KL.length → kp j = KL.getD j 0) : ∀ j, j < (KL ++ [x]).length → upd kp KL.length x j = (KL ++ [x]).getD j 0 := by
  intro j hj
  rw [List.length_append, List.length_singleton] at hj
  rcases Nat.lt_succ_iff_lt_or_eq.mp hj with q | q
  · rw [pk_un (by omega), h j q, List.getD_eq_getElem?_getD, List.getD_eq_getElem?_getD, List.getElem?_append_left q]
  · subst q
    rw [pk_us, List.getD_eq_getElem?_getD, List.getElem?_append_right (Nat.le_refl _)]
    simp
theorem take_succ_i (L : List Int32) {t : Nat} (h : t < L.length) : L.take (t + 1) = L.take t ++ [L.getD t 0] := by
  rw [List.take_succ, List.getD_eq_getElem?_getD, List.getElem?_eq_getElem h]
  rfl
theorem renT_len (d : Nat) (to : Int32) (M : List Pr) (K : List Int32) (t : Nat) (h : t ≤ K.length) : ((K.take t).foldl (renT d to M) ([], 0)).1.length ≤ t := by
  induction t with
  | zero => simp
  | succ t ih =>
    have h1 := ih (by omega)
    rw [take_succ_i K (by omega), List.foldl_append]
    generalize (K.take t).foldl (renT d to M) ([], 0) = st at h1 ⊢
    show (renT d to M st _).1.length ≤ t + 1
    unfold renT
    split
    · omega
    · rw [List.length_append]; simp; omega
end
section
set_option maxHeartbeats 4000000 in
set_option maxRecDepth 100000 in
/-- isSide -/
theorem c_isSide4 (l : Launch) (G : Gd) (sx : Int32) : Mt l yX4_isSide wsX4_isSide 0 0 [.int sx] G [] (fun _ => False) (fun r _ => ∃ z : Nat, r = some (.int (nI z)) ∧ ((z = 0 ∧ sideOf sx = none) ∨ (z = 1 ∧ ∃ d, sideOf sx = some d))) := by
  refine Mt.mk cX4_isSide 1 (some .boolean) (by decide) rfl (Nat.le_of_ble_eq_true rfl) ?_
  intro p9 e s m below meth c ls hx hb hr hml hts hown hlocks hP hK hl
  have hS : va_S (fun _ => False) s.heap s.heap [] := va_S.rf
  have hl : lv_has ls 1 [(0, .int (sx))] := hl
  have hown : s.vm.findClass RX4 = some m.cls := hown
  refine lv_iload_n hx hb dX4_isSide_0 rfl (lv_at hl 0 rfl) ?_
  refine lv_if_eq (tgt := 9) hx hb dX4_isSide_1 (by decide) (fun hc1 => ?_) (fun hc1 => ?_)
  · refine lv_iconst (v := nI 1) hx hb dX4_isSide_9 rfl ?_
    refine lv_goto (tgt := 14) hx hb dX4_isSide_10 (by decide) ?_
    exact z_zret hx hb hr rfl hlocks ⟨1, rfl, Or.inr ⟨rfl, 0, by unfold sideOf; rw [if_pos (show sx = nI 0 from hc1)]⟩⟩ hS dX4_isSide_14
  · refine lv_iload_n hx hb dX4_isSide_4 rfl (lv_at hl 0 rfl) ?_
    refine lv_iconst (v := nI 1) hx hb dX4_isSide_5 rfl ?_
    refine lv_icmp_ne (tgt := 13) hx hb dX4_isSide_6 (by decide) (fun hc2 => ?_) (fun hc2 => ?_)
    · refine lv_iconst (v := nI 0) hx hb dX4_isSide_13 rfl ?_
      exact z_zret hx hb hr rfl hlocks ⟨0, rfl, Or.inl ⟨rfl, by unfold sideOf; rw [if_neg (show ¬ sx = nI 0 from hc1), if_neg hc2]⟩⟩ hS dX4_isSide_14
    · refine lv_iconst (v := nI 1) hx hb dX4_isSide_9 rfl ?_
      refine lv_goto (tgt := 14) hx hb dX4_isSide_10 (by decide) ?_
      exact z_zret hx hb hr rfl hlocks ⟨1, rfl, Or.inr ⟨rfl, 1, by unfold sideOf; rw [if_neg (show ¬ sx = nI 0 from hc1), if_pos hc2]⟩⟩ hS dX4_isSide_14

set_option maxHeartbeats 4000000 in
set_option maxRecDepth 100000 in
/-- isSide -/
theorem c_isSide3 (l : Launch) (G : Gd) (sx : Int32) : Mt l yX3_isSide wsX3_isSide 0 0 [.int sx] G [] (fun _ => False) (fun r _ => ∃ z : Nat, r = some (.int (nI z)) ∧ ((z = 0 ∧ sideOf sx = none) ∨ (z = 1 ∧ ∃ d, sideOf sx = some d))) := by
  refine Mt.mk cX3_isSide 1 (some .boolean) (by decide) rfl (Nat.le_of_ble_eq_true rfl) ?_
  intro p9 e s m below meth c ls hx hb hr hml hts hown hlocks hP hK hl
  have hS : va_S (fun _ => False) s.heap s.heap [] := va_S.rf
  have hl : lv_has ls 1 [(0, .int (sx))] := hl
  have hown : s.vm.findClass RX3 = some m.cls := hown
  refine lv_iload_n hx hb dX3_isSide_0 rfl (lv_at hl 0 rfl) ?_
  refine lv_if_eq (tgt := 9) hx hb dX3_isSide_1 (by decide) (fun hc1 => ?_) (fun hc1 => ?_)
  · refine lv_iconst (v := nI 1) hx hb dX3_isSide_9 rfl ?_
    refine lv_goto (tgt := 14) hx hb dX3_isSide_10 (by decide) ?_
    exact z_zret hx hb hr rfl hlocks ⟨1, rfl, Or.inr ⟨rfl, 0, by unfold sideOf; rw [if_pos (show sx = nI 0 from hc1)]⟩⟩ hS dX3_isSide_14
  · refine lv_iload_n hx hb dX3_isSide_4 rfl (lv_at hl 0 rfl) ?_
    refine lv_iconst (v := nI 1) hx hb dX3_isSide_5 rfl ?_
    refine lv_icmp_ne (tgt := 13) hx hb dX3_isSide_6 (by decide) (fun hc2 => ?_) (fun hc2 => ?_)
    · refine lv_iconst (v := nI 0) hx hb dX3_isSide_13 rfl ?_
      exact z_zret hx hb hr rfl hlocks ⟨0, rfl, Or.inl ⟨rfl, by unfold sideOf; rw [if_neg (show ¬ sx = nI 0 from hc1), if_neg hc2]⟩⟩ hS dX3_isSide_14
    · refine lv_iconst (v := nI 1) hx hb dX3_isSide_9 rfl ?_
      refine lv_goto (tgt := 14) hx hb dX3_isSide_10 (by decide) ?_
      exact z_zret hx hb hr rfl hlocks ⟨1, rfl, Or.inr ⟨rfl, 1, by unfold sideOf; rw [if_neg (show ¬ sx = nI 0 from hc1), if_pos hc2]⟩⟩ hS dX3_isSide_14

set_option maxHeartbeats 4000000 in
set_option maxRecDepth 100000 in
/-- the model: own -/
theorem c_own (l : Launch) (G : Gd) (b : Nat → Nat) (n : Nat) (lf : Nat → Int32) (rt : Nat → Int32) (lo : Nat → Nat) (ro : Nat → Nat) (fo : Nat → Option Nat) (no : Nat → Option Nat) (lm : Nat) (rm : Nat) (pa : Nat → Option Nat) (mt : Nat → Int32) (q : Nat → Nat) (cf : Nat → Option Nat) (fa : Nat → Nat) (kp : Nat → Int32) (d k : Nat) (hd : d < 2) (hk : k < 300) : Mt l yX4_own wsX4_own 0 0 [.ref (b 0), .int (nI d), .int (nI k)] G (cR G b n lf rt lo ro fo no lm rm pa mt q cf fa kp) (fun _ => False) (fun r _ => r = some (.int (ow d lf rt k))) := by
  refine Mt.mk cX4_own 3 (some .int) (by decide) rfl (Nat.le_of_ble_eq_true rfl) ?_
  intro p9 e s m below meth c ls hx hb hr hml hts hown hlocks hP hK hl
  have hinX4 : ∀ w ∈ wsX40, w ∈ wsX4_own := by decide +kernel
  have hS : va_S (fun _ => False) s.heap s.heap [] := va_S.rf
  have hl : lv_has ls 3 [(0, .ref (b 0)), (1, .int (nI d)), (2, .int (nI k))] := hl
  have hown : s.vm.findClass RX4 = some m.cls := hown
  refine lv_iload_n hx hb dX4_own_0 rfl (lv_at hl 1 rfl) ?_
  refine z_if_ne (tgt := 13) hx hb (by omega) dX4_own_1 (by decide) (fun hc1 => ?_) (fun hc1 => ?_)
  · refine lv_aload_n hx hb dX4_own_13 rfl (lv_at hl 0 rfl) ?_
    refine va_get (D := G.1) (ci := 4) (v := .ref (b 2)) (C := RX4) (T := TX4) (N := 15) hx hb hts hinX4 hown hK.1 hP 0 rfl rfl 2 (by decide) (hts (.fieldLink RX4 13 "PairThreadsModel" "rights" "[I") (by decide +kernel)) (fun _ h9 => h9) rfl dX4_own_14 ?_
    refine lv_iload_n hx hb dX4_own_17 rfl (lv_at hl 2 rfl) ?_
    refine z_iald hx hb hK hP 2 rfl (j := k) (by omega) (by decide) dX4_own_18 ?_
    exact z_iret hx hb hr hlocks (by rw [show ow d lf rt k = rt k from if_neg hc1]) hS dX4_own_19
  · refine lv_aload_n hx hb dX4_own_4 rfl (lv_at hl 0 rfl) ?_
    refine va_get (D := G.1) (ci := 4) (v := .ref (b 1)) (C := RX4) (T := TX4) (N := 15) hx hb hts hinX4 hown hK.1 hP 0 rfl rfl 1 (by decide) (hts (.fieldLink RX4 7 "PairThreadsModel" "lefts" "[I") (by decide +kernel)) (fun _ h9 => h9) rfl dX4_own_5 ?_
    refine lv_iload_n hx hb dX4_own_8 rfl (lv_at hl 2 rfl) ?_
    refine z_iald hx hb hK hP 1 rfl (j := k) (by omega) (by decide) dX4_own_9 ?_
    refine lv_goto (tgt := 19) hx hb dX4_own_10 (by decide) ?_
    exact z_iret hx hb hr hlocks (by rw [show ow d lf rt k = lf k from if_pos hc1]) hS dX4_own_19

set_option maxHeartbeats 4000000 in
set_option maxRecDepth 100000 in
/-- the model: find -/
theorem c_find (l : Launch) (G : Gd) (b : Nat → Nat) (lf : Nat → Int32) (rt : Nat → Int32) (lo : Nat → Nat) (ro : Nat → Nat) (fo : Nat → Option Nat) (no : Nat → Option Nat) (lm : Nat) (rm : Nat) (pa : Nat → Option Nat) (mt : Nat → Int32) (q : Nat → Nat) (cf : Nat → Option Nat) (fa : Nat → Nat) (kp : Nat → Int32) (L : List Pr) (hMI : MI lf rt L) (x y : Int32) : Mt l yX4_find wsX4_find 0 0 [.ref (b 0), .int (x), .int (y)] G (cR G b L.length lf rt lo ro fo no lm rm pa mt q cf fa kp) (fun _ => False) (fun r _ => ∃ o : Option Nat, r = some (.int (lk o)) ∧ posR L x y o) := by
  refine Mt.mk cX4_find 5 (some .int) (by decide) rfl (Nat.le_of_ble_eq_true rfl) ?_
  intro p9 e s m below meth c ls hx hb hr hml hts hown hlocks hP hK hl
  have hinX4 : ∀ w ∈ wsX40, w ∈ wsX4_find := by decide +kernel
  have hS : va_S (fun _ => False) s.heap s.heap [] := va_S.rf
  have hl : lv_has ls 5 [(0, .ref (b 0)), (1, .int (x)), (2, .int (y))] := hl
  have hown : s.vm.findClass RX4 = some m.cls := hown
  have hn := hMI.1
  refine lv_iconst (v := (-1)) hx hb dX4_find_0 rfl ?_
  refine lv_istore_n (lv' := [(3, .int ((-1))), (0, .ref (b 0)), (1, .int (x)), (2, .int (y))]) hx hb dX4_find_1 rfl hl (by decide) rfl (fun ls hl => ?_)
  refine lv_iconst (v := nI 0) hx hb dX4_find_2 rfl ?_
  refine lv_istore (lv' := [(4, .int (nI 0)), (3, .int ((-1))), (0, .ref (b 0)), (1, .int (x)), (2, .int (y))]) hx hb dX4_find_3 hl (by decide) rfl (fun ls hl => ?_)
  have hl : lv_has ls 5 [(4, .int (nI 0)), (3, .int (lk none)), (0, .ref (b 0)), (1, .int (x)), (2, .int (y))] := hl
  have loop : ∀ (k9 : Nat) (k : Nat) (o : Option Nat) (H : Heap) (locs : List Loc) (ls : Array Slot), L.length < k + k9 → k ≤ L.length → ((o = none ∧ ∀ j, j < k → ¬ (lf j = x ∧ rt j = y)) ∨ ∃ j, o = some j ∧ j < k ∧ lf j = x ∧ rt j = y) → va_P G.1 vwCl (cR G b L.length lf rt lo ro fo no lm rm pa mt q cf fa kp) H → va_S (fun _ => False) s.heap H locs → lv_has ls 5 [(4, .int (nI k)), (3, .int (lk o)), (0, .ref (b 0)), (1, .int (x)), (2, .int (y))] → Wz p9 l e 0 0 s m [.ref (b 0), .int (x), .int (y)] below meth c (fun _ => False) (fun r _ => ∃ o : Option Nat, r = some (.int (lk o)) ∧ posR L x y o) H locs (F0 m 5 ls []) := by
    intro k9
    induction k9 with
    | zero =>
      intro k o H locs ls hfuel hk ho hP hS hl
      exact absurd hfuel (by omega)
    | succ k9 ih =>
      intro k o H locs ls hfuel hk ho hP hS hl
      refine lv_iload hx hb dX4_find_5 (lv_at hl 0 rfl) ?_
      refine lv_aload_n hx hb dX4_find_7 rfl (lv_at hl 2 rfl) ?_
      refine va_get (D := G.1) (ci := 4) (v := .int (nI L.length)) (C := RX4) (T := TX4) (N := 15) hx hb hts hinX4 hown hK.1 hP 0 rfl rfl 0 (by decide) (hts (.fieldLink RX4 47 "PairThreadsModel" "many" "I") (by decide +kernel)) (fun _ h9 => h9) rfl dX4_find_8 ?_
      refine z_icmp_ge (tgt := 49) hx hb (by omega) (by omega) dX4_find_11 (by decide) (fun hc1 => ?_) (fun hc1 => ?_)
      · refine lv_iload_n hx hb dX4_find_49 rfl (lv_at hl 1 rfl) ?_
        have he : k = L.length := by omega
        subst he
        have hpos : posR L x y o := by
          rcases ho with ⟨e, h1⟩ | ⟨j, e, h1, h2, h3⟩
          · refine Or.inl ⟨e, fun hm => ?_⟩
            obtain ⟨i, hi, he⟩ := List.mem_iff_getElem.mp hm
            have h4 := getElem_key hi
            rw [List.getElem?_eq_getElem hi, he, ← (hMI.2 i hi).1, ← (hMI.2 i hi).2] at h4
            have h5 := Option.some.inj h4
            exact h1 i hi ⟨(congrArg Prod.fst h5).symm, (congrArg Prod.snd h5).symm⟩
          · exact Or.inr ⟨j, e, h1, by rw [getElem_key h1, ← (hMI.2 j h1).1, ← (hMI.2 j h1).2, h2, h3]⟩
        exact z_iret hx hb hr hlocks ⟨o, rfl, hpos⟩ hS dX4_find_50
      · refine lv_aload_n hx hb dX4_find_14 rfl (lv_at hl 2 rfl) ?_
        refine va_get (D := G.1) (ci := 4) (v := .ref (b 1)) (C := RX4) (T := TX4) (N := 15) hx hb hts hinX4 hown hK.1 hP 0 rfl rfl 1 (by decide) (hts (.fieldLink RX4 7 "PairThreadsModel" "lefts" "[I") (by decide +kernel)) (fun _ h9 => h9) rfl dX4_find_15 ?_
        refine lv_iload hx hb dX4_find_18 (lv_at hl 0 rfl) ?_
        refine z_iald hx hb hK hP 1 rfl (j := k) (by omega) (by decide) dX4_find_20 ?_
        refine lv_iload_n hx hb dX4_find_21 rfl (lv_at hl 3 rfl) ?_
        refine lv_icmp_ne (tgt := 41) hx hb dX4_find_22 (by decide) (fun hc2 => ?_) (fun hc2 => ?_)
        · refine lv_iload_n hx hb dX4_find_41 rfl (lv_at hl 1 rfl) ?_
          refine lv_istore_n (lv' := [(3, .int (lk o)), (4, .int (nI k)), (0, .ref (b 0)), (1, .int (x)), (2, .int (y))]) hx hb dX4_find_42 rfl hl (by decide) rfl (fun ls hl => ?_)
          refine z_iinc (lv' := [(4, .int (nI (k + 1))), (3, .int (lk o)), (0, .ref (b 0)), (1, .int (x)), (2, .int (y))]) hx hb dX4_find_43 hl (k := 1) rfl (by decide) rfl (fun ls hl => ?_)
          refine lv_goto (tgt := 5) hx hb dX4_find_46 (by decide) ?_
          exact ih (k + 1) o H locs ls (by omega) (by omega) (by rcases ho with ⟨e, h1⟩ | ⟨j, e, h1, h2, h3⟩; exact Or.inl ⟨e, (fun j hj => by rcases Nat.lt_succ_iff_lt_or_eq.mp hj with q | q; exact h1 j q; exact q ▸ (fun q2 => hc2 q2.1))⟩; exact Or.inr ⟨j, e, by omega, h2, h3⟩) hP hS (lv_sub hl [0, 1, 2, 3, 4] rfl)
        · refine lv_aload_n hx hb dX4_find_25 rfl (lv_at hl 2 rfl) ?_
          refine va_get (D := G.1) (ci := 4) (v := .ref (b 2)) (C := RX4) (T := TX4) (N := 15) hx hb hts hinX4 hown hK.1 hP 0 rfl rfl 2 (by decide) (hts (.fieldLink RX4 13 "PairThreadsModel" "rights" "[I") (by decide +kernel)) (fun _ h9 => h9) rfl dX4_find_26 ?_
          refine lv_iload hx hb dX4_find_29 (lv_at hl 0 rfl) ?_
          refine z_iald hx hb hK hP 2 rfl (j := k) (by omega) (by decide) dX4_find_31 ?_
          refine lv_iload_n hx hb dX4_find_32 rfl (lv_at hl 4 rfl) ?_
          refine lv_icmp_ne (tgt := 41) hx hb dX4_find_33 (by decide) (fun hc3 => ?_) (fun hc3 => ?_)
          · refine lv_iload_n hx hb dX4_find_41 rfl (lv_at hl 1 rfl) ?_
            refine lv_istore_n (lv' := [(3, .int (lk o)), (4, .int (nI k)), (0, .ref (b 0)), (1, .int (x)), (2, .int (y))]) hx hb dX4_find_42 rfl hl (by decide) rfl (fun ls hl => ?_)
            refine z_iinc (lv' := [(4, .int (nI (k + 1))), (3, .int (lk o)), (0, .ref (b 0)), (1, .int (x)), (2, .int (y))]) hx hb dX4_find_43 hl (k := 1) rfl (by decide) rfl (fun ls hl => ?_)
            refine lv_goto (tgt := 5) hx hb dX4_find_46 (by decide) ?_
            exact ih (k + 1) o H locs ls (by omega) (by omega) (by rcases ho with ⟨e, h1⟩ | ⟨j, e, h1, h2, h3⟩; exact Or.inl ⟨e, (fun j hj => by rcases Nat.lt_succ_iff_lt_or_eq.mp hj with q | q; exact h1 j q; exact q ▸ (fun q2 => hc3 q2.2))⟩; exact Or.inr ⟨j, e, by omega, h2, h3⟩) hP hS (lv_sub hl [0, 1, 2, 3, 4] rfl)
          · refine lv_iload hx hb dX4_find_36 (lv_at hl 0 rfl) ?_
            refine lv_goto (tgt := 42) hx hb dX4_find_38 (by decide) ?_
            refine z_top (y := lk (some k)) (rfl) ?_
            refine lv_istore_n (lv' := [(3, .int (lk (some k))), (4, .int (nI k)), (0, .ref (b 0)), (1, .int (x)), (2, .int (y))]) hx hb dX4_find_42 rfl hl (by decide) rfl (fun ls hl => ?_)
            refine z_iinc (lv' := [(4, .int (nI (k + 1))), (3, .int (lk (some k))), (0, .ref (b 0)), (1, .int (x)), (2, .int (y))]) hx hb dX4_find_43 hl (k := 1) rfl (by decide) rfl (fun ls hl => ?_)
            refine lv_goto (tgt := 5) hx hb dX4_find_46 (by decide) ?_
            exact ih (k + 1) (some k) H locs ls (by omega) (by omega) (Or.inr ⟨k, rfl, by omega, hc2, hc3⟩) hP hS (lv_sub hl [0, 1, 2, 3, 4] rfl)
  exact loop (L.length + 1) 0 none _ _ ls (by omega) (by omega) (Or.inl ⟨rfl, fun j hj => absurd hj (Nat.not_lt_zero j)⟩) hP hS (lv_sub hl [0, 1, 2, 3, 4] rfl)

set_option maxHeartbeats 4000000 in
set_option maxRecDepth 100000 in
/-- the model: add -/
theorem c_add (l : Launch) (G : Gd) (b : Nat → Nat) (lf : Nat → Int32) (rt : Nat → Int32) (lo : Nat → Nat) (ro : Nat → Nat) (fo : Nat → Option Nat) (no : Nat → Option Nat) (lm : Nat) (rm : Nat) (pa : Nat → Option Nat) (mt : Nat → Int32) (q : Nat → Nat) (cf : Nat → Option Nat) (fa : Nat → Nat) (kp : Nat → Int32) (L : List Pr) (hMI : MI lf rt L) (x y : Int32) (hlt : L.length < 300) (hnd : (aR b).Nodup) : Mt l yX4_add wsX4_add 0 0 [.ref (b 0), .int (x), .int (y)] G (cR G b L.length lf rt lo ro fo no lm rm pa mt q cf fa kp) (fun q => q ∈ aR b) (fun r h => r = none ∧ ∃ lf' rt' : Nat → Int32, MI lf' rt' (L ++ [(x, y)]) ∧ va_P G.1 vwCl (cR G b (L ++ [(x, y)]).length lf' rt' lo ro fo no lm rm pa mt q cf fa kp) h) := by
  refine Mt.mk cX4_add 3 none (by decide) rfl (Nat.le_of_ble_eq_true rfl) ?_
  intro p9 e s m below meth c ls hx hb hr hml hts hown hlocks hP hK hl
  have hinX4 : ∀ w ∈ wsX40, w ∈ wsX4_add := by decide +kernel
  have hS : va_S (fun q => q ∈ aR b) s.heap s.heap [] := va_S.rf
  have hl : lv_has ls 3 [(0, .ref (b 0)), (1, .int (x)), (2, .int (y))] := hl
  have hown : s.vm.findClass RX4 = some m.cls := hown
  have hDD : ∀ ws : va_W, ws.map Prod.fst = aR b → va_D (fun q => q ∈ aR b) ws := D_of hnd (fun q h => h)
  refine lv_aload_n hx hb dX4_add_0 rfl (lv_at hl 0 rfl) ?_
  refine va_get (D := G.1) (ci := 4) (v := .ref (b 1)) (C := RX4) (T := TX4) (N := 15) hx hb hts hinX4 hown hK.1 hP 0 rfl rfl 1 (by decide) (hts (.fieldLink RX4 7 "PairThreadsModel" "lefts" "[I") (by decide +kernel)) (fun _ h9 => h9) rfl dX4_add_1 ?_
  refine lv_aload_n hx hb dX4_add_4 rfl (lv_at hl 0 rfl) ?_
  refine va_get (D := G.1) (ci := 4) (v := .int (nI L.length)) (C := RX4) (T := TX4) (N := 15) hx hb hts hinX4 hown hK.1 hP 0 rfl rfl 0 (by decide) (hts (.fieldLink RX4 47 "PairThreadsModel" "many" "I") (by decide +kernel)) (fun _ h9 => h9) rfl dX4_add_5 ?_
  refine lv_iload_n hx hb dX4_add_8 rfl (lv_at hl 1 rfl) ?_
  refine z_iast hx hb hK hP (hDD _ rfl) hS 1 rfl (j := L.length) (by omega) (by decide) dX4_add_9 (fun H locs hP hS => ?_)
  have hP : va_P G.1 vwCl (cR G b L.length (upd lf L.length (x)) rt lo ro fo no lm rm pa mt q cf fa kp) H := hP
  refine lv_aload_n hx hb dX4_add_10 rfl (lv_at hl 0 rfl) ?_
  refine va_get (D := G.1) (ci := 4) (v := .ref (b 2)) (C := RX4) (T := TX4) (N := 15) hx hb hts hinX4 hown hK.1 hP 0 rfl rfl 2 (by decide) (hts (.fieldLink RX4 13 "PairThreadsModel" "rights" "[I") (by decide +kernel)) (fun _ h9 => h9) rfl dX4_add_11 ?_
  refine lv_aload_n hx hb dX4_add_14 rfl (lv_at hl 0 rfl) ?_
  refine va_get (D := G.1) (ci := 4) (v := .int (nI L.length)) (C := RX4) (T := TX4) (N := 15) hx hb hts hinX4 hown hK.1 hP 0 rfl rfl 0 (by decide) (hts (.fieldLink RX4 47 "PairThreadsModel" "many" "I") (by decide +kernel)) (fun _ h9 => h9) rfl dX4_add_15 ?_
  refine lv_iload_n hx hb dX4_add_18 rfl (lv_at hl 2 rfl) ?_
  refine z_iast hx hb hK hP (hDD _ rfl) hS 2 rfl (j := L.length) (by omega) (by decide) dX4_add_19 (fun H locs hP hS => ?_)
  have hP : va_P G.1 vwCl (cR G b L.length (upd lf L.length (x)) (upd rt L.length (y)) lo ro fo no lm rm pa mt q cf fa kp) H := hP
  refine lv_aload_n hx hb dX4_add_20 rfl (lv_at hl 0 rfl) ?_
  refine lv_dup hx hb dX4_add_21 rfl ?_
  refine va_get (D := G.1) (ci := 4) (v := .int (nI L.length)) (C := RX4) (T := TX4) (N := 15) hx hb hts hinX4 hown hK.1 hP 0 rfl rfl 0 (by decide) (hts (.fieldLink RX4 47 "PairThreadsModel" "many" "I") (by decide +kernel)) (fun _ h9 => h9) rfl dX4_add_22 ?_
  refine lv_iconst (v := nI 1) hx hb dX4_add_25 rfl ?_
  refine lv_iadd hx hb dX4_add_26 ?_
  refine z_top (y := nI (L.length + 1)) (nI_add _ _) ?_
  refine va_put (D := G.1) (ci := 4) (v := .int (nI (L.length + 1))) (ty := .int) (C := RX4) (T := TX4) (N := 15) hx hb hts hinX4 tyX4 tyX4_ok nmX4 hown hK.1 hP (hDD _ rfl) hS 0 rfl rfl 0 (by decide) (hts (.fieldLink RX4 47 "PairThreadsModel" "many" "I") (by decide +kernel)) (fun _ h9 => h9) rfl (by decide +kernel) rfl rfl (Nat.le_of_ble_eq_true rfl) dX4_add_27 (fun H locs hP _ hS => ?_)
  have hP : va_P G.1 vwCl (cR G b (L.length + 1) (upd lf L.length (x)) (upd rt L.length (y)) lo ro fo no lm rm pa mt q cf fa kp) H := hP
  exact z_vret hx hb hr hlocks ⟨rfl, _, _, MI_add hMI hlt, by rw [show (L ++ [(x, y)]).length = L.length + 1 by simp]; exact hP⟩ hS dX4_add_30

set_option maxHeartbeats 4000000 in
set_option maxRecDepth 100000 in
/-- the model: remove -/
theorem c_remove (l : Launch) (G : Gd) (b : Nat → Nat) (lf : Nat → Int32) (rt : Nat → Int32) (lo : Nat → Nat) (ro : Nat → Nat) (fo : Nat → Option Nat) (no : Nat → Option Nat) (lm : Nat) (rm : Nat) (pa : Nat → Option Nat) (mt : Nat → Int32) (q : Nat → Nat) (cf : Nat → Option Nat) (fa : Nat → Nat) (kp : Nat → Int32) (L : List Pr) (hMI : MI lf rt L) (t : Nat) (ht : t < L.length) (hnd : (aR b).Nodup) : Mt l yX4_remove wsX4_remove 0 0 [.ref (b 0), .int (nI t)] G (cR G b L.length lf rt lo ro fo no lm rm pa mt q cf fa kp) (fun q => q ∈ aR b) (fun r h => r = none ∧ ∃ lf' rt' : Nat → Int32, MI lf' rt' (L.eraseIdx t) ∧ va_P G.1 vwCl (cR G b (L.eraseIdx t).length lf' rt' lo ro fo no lm rm pa mt q cf fa kp) h) := by
  refine Mt.mk cX4_remove 3 none (by decide) rfl (Nat.le_of_ble_eq_true rfl) ?_
  intro p9 e s m below meth c ls hx hb hr hml hts hown hlocks hP hK hl
  have hinX4 : ∀ w ∈ wsX40, w ∈ wsX4_remove := by decide +kernel
  have hS : va_S (fun q => q ∈ aR b) s.heap s.heap [] := va_S.rf
  have hl : lv_has ls 3 [(0, .ref (b 0)), (1, .int (nI t))] := hl
  have hown : s.vm.findClass RX4 = some m.cls := hown
  have hDD : ∀ ws : va_W, ws.map Prod.fst = aR b → va_D (fun q => q ∈ aR b) ws := D_of hnd (fun q h => h)
  have hn := hMI.1
  refine lv_aload_n hx hb dX4_remove_0 rfl (lv_at hl 0 rfl) ?_
  refine lv_dup hx hb dX4_remove_1 rfl ?_
  refine va_get (D := G.1) (ci := 4) (v := .int (nI L.length)) (C := RX4) (T := TX4) (N := 15) hx hb hts hinX4 hown hK.1 hP 0 rfl rfl 0 (by decide) (hts (.fieldLink RX4 47 "PairThreadsModel" "many" "I") (by decide +kernel)) (fun _ h9 => h9) rfl dX4_remove_2 ?_
  refine lv_iconst (v := nI 1) hx hb dX4_remove_5 rfl ?_
  refine lv_isub hx hb dX4_remove_6 ?_
  refine z_top (y := nI (L.length - 1)) (pk_sub (by omega)) ?_
  refine va_put (D := G.1) (ci := 4) (v := .int (nI (L.length - 1))) (ty := .int) (C := RX4) (T := TX4) (N := 15) hx hb hts hinX4 tyX4 tyX4_ok nmX4 hown hK.1 hP (hDD _ rfl) hS 0 rfl rfl 0 (by decide) (hts (.fieldLink RX4 47 "PairThreadsModel" "many" "I") (by decide +kernel)) (fun _ h9 => h9) rfl (by decide +kernel) rfl rfl (Nat.le_of_ble_eq_true rfl) dX4_remove_7 (fun H locs hP _ hS => ?_)
  have hP : va_P G.1 vwCl (cR G b (L.length - 1) lf rt lo ro fo no lm rm pa mt q cf fa kp) H := hP
  refine lv_iload_n hx hb dX4_remove_10 rfl (lv_at hl 1 rfl) ?_
  refine lv_istore_n (lv' := [(2, .int (nI t)), (0, .ref (b 0)), (1, .int (nI t))]) hx hb dX4_remove_11 rfl hl (by decide) rfl (fun ls hl => ?_)
  have loop : ∀ (k9 : Nat) (k : Nat) (H : Heap) (locs : List Loc) (ls : Array Slot), L.length - 1 < k + k9 → t ≤ k ∧ k ≤ L.length - 1 → va_P G.1 vwCl (cR G b (L.length - 1) (sh t k lf) (sh t k rt) lo ro fo no lm rm pa mt q cf fa kp) H → va_S (fun q => q ∈ aR b) s.heap H locs → lv_has ls 3 [(2, .int (nI k)), (0, .ref (b 0)), (1, .int (nI t))] → Wz p9 l e 0 0 s m [.ref (b 0), .int (nI t)] below meth c (fun q => q ∈ aR b) (fun r h => r = none ∧ ∃ lf' rt' : Nat → Int32, MI lf' rt' (L.eraseIdx t) ∧ va_P G.1 vwCl (cR G b (L.eraseIdx t).length lf' rt' lo ro fo no lm rm pa mt q cf fa kp) h) H locs (F0 m 12 ls []) := by
    intro k9
    induction k9 with
    | zero =>
      intro k H locs ls hfuel hk hP hS hl
      exact absurd hfuel (by omega)
    | succ k9 ih =>
      intro k H locs ls hfuel hk hP hS hl
      refine lv_iload_n hx hb dX4_remove_12 rfl (lv_at hl 0 rfl) ?_
      refine lv_aload_n hx hb dX4_remove_13 rfl (lv_at hl 1 rfl) ?_
      refine va_get (D := G.1) (ci := 4) (v := .int (nI (L.length - 1))) (C := RX4) (T := TX4) (N := 15) hx hb hts hinX4 hown hK.1 hP 0 rfl rfl 0 (by decide) (hts (.fieldLink RX4 47 "PairThreadsModel" "many" "I") (by decide +kernel)) (fun _ h9 => h9) rfl dX4_remove_14 ?_
      refine z_icmp_ge (tgt := 54) hx hb (by omega) (by omega) dX4_remove_17 (by decide) (fun hc1 => ?_) (fun hc1 => ?_)
      · have he : k = L.length - 1 := by omega
        subst he
        exact z_vret hx hb hr hlocks ⟨rfl, _, _, MI_rem hMI ht, by rw [List.length_eraseIdx_of_lt ht]; exact hP⟩ hS dX4_remove_54
      · refine lv_aload_n hx hb dX4_remove_20 rfl (lv_at hl 1 rfl) ?_
        refine va_get (D := G.1) (ci := 4) (v := .ref (b 1)) (C := RX4) (T := TX4) (N := 15) hx hb hts hinX4 hown hK.1 hP 0 rfl rfl 1 (by decide) (hts (.fieldLink RX4 7 "PairThreadsModel" "lefts" "[I") (by decide +kernel)) (fun _ h9 => h9) rfl dX4_remove_21 ?_
        refine lv_iload_n hx hb dX4_remove_24 rfl (lv_at hl 0 rfl) ?_
        refine lv_aload_n hx hb dX4_remove_25 rfl (lv_at hl 1 rfl) ?_
        refine va_get (D := G.1) (ci := 4) (v := .ref (b 1)) (C := RX4) (T := TX4) (N := 15) hx hb hts hinX4 hown hK.1 hP 0 rfl rfl 1 (by decide) (hts (.fieldLink RX4 7 "PairThreadsModel" "lefts" "[I") (by decide +kernel)) (fun _ h9 => h9) rfl dX4_remove_26 ?_
        refine lv_iload_n hx hb dX4_remove_29 rfl (lv_at hl 0 rfl) ?_
        refine lv_iconst (v := nI 1) hx hb dX4_remove_30 rfl ?_
        refine lv_iadd hx hb dX4_remove_31 ?_
        refine z_top (y := nI (k + 1)) (nI_add _ _) ?_
        refine z_iald hx hb hK hP 1 rfl (j := k + 1) (by omega) (by decide) dX4_remove_32 ?_
        refine z_iast hx hb hK hP (hDD _ rfl) hS 1 rfl (j := k) (by omega) (by decide) dX4_remove_33 (fun H locs hP hS => ?_)
        have hP : va_P G.1 vwCl (cR G b (L.length - 1) (upd (sh t k lf) k ((sh t k lf) (k + 1))) (sh t k rt) lo ro fo no lm rm pa mt q cf fa kp) H := hP
        refine lv_aload_n hx hb dX4_remove_34 rfl (lv_at hl 1 rfl) ?_
        refine va_get (D := G.1) (ci := 4) (v := .ref (b 2)) (C := RX4) (T := TX4) (N := 15) hx hb hts hinX4 hown hK.1 hP 0 rfl rfl 2 (by decide) (hts (.fieldLink RX4 13 "PairThreadsModel" "rights" "[I") (by decide +kernel)) (fun _ h9 => h9) rfl dX4_remove_35 ?_
        refine lv_iload_n hx hb dX4_remove_38 rfl (lv_at hl 0 rfl) ?_
        refine lv_aload_n hx hb dX4_remove_39 rfl (lv_at hl 1 rfl) ?_
        refine va_get (D := G.1) (ci := 4) (v := .ref (b 2)) (C := RX4) (T := TX4) (N := 15) hx hb hts hinX4 hown hK.1 hP 0 rfl rfl 2 (by decide) (hts (.fieldLink RX4 13 "PairThreadsModel" "rights" "[I") (by decide +kernel)) (fun _ h9 => h9) rfl dX4_remove_40 ?_
        refine lv_iload_n hx hb dX4_remove_43 rfl (lv_at hl 0 rfl) ?_
        refine lv_iconst (v := nI 1) hx hb dX4_remove_44 rfl ?_
        refine lv_iadd hx hb dX4_remove_45 ?_
        refine z_top (y := nI (k + 1)) (nI_add _ _) ?_
        refine z_iald hx hb hK hP 2 rfl (j := k + 1) (by omega) (by decide) dX4_remove_46 ?_
        refine z_iast hx hb hK hP (hDD _ rfl) hS 2 rfl (j := k) (by omega) (by decide) dX4_remove_47 (fun H locs hP hS => ?_)
        have hP : va_P G.1 vwCl (cR G b (L.length - 1) (upd (sh t k lf) k ((sh t k lf) (k + 1))) (upd (sh t k rt) k ((sh t k rt) (k + 1))) lo ro fo no lm rm pa mt q cf fa kp) H := hP
        refine z_iinc (lv' := [(2, .int (nI (k + 1))), (0, .ref (b 0)), (1, .int (nI t))]) hx hb dX4_remove_48 hl (k := 0) rfl (by decide) rfl (fun ls hl => ?_)
        refine lv_goto (tgt := 12) hx hb dX4_remove_51 (by decide) ?_
        rw [sh_s hk.1, sh_s hk.1] at hP
        exact ih (k + 1) H locs ls (by omega) ⟨by omega, by omega⟩ hP hS (lv_sub hl [0, 1, 2] rfl)
  rw [← sh_0 t lf, ← sh_0 t rt] at hP
  exact loop (L.length + 1) t _ _ ls (by omega) ⟨by omega, by omega⟩ hP hS (lv_sub hl [0, 1, 2] rfl)
end
section
set_option maxHeartbeats 4000000 in
set_option maxRecDepth 100000 in
/-- the model: place -/
theorem c_Rplace (l : Launch) (G : Gd) (b : Nat → Nat) (lf : Nat → Int32) (rt : Nat → Int32) (lo : Nat → Nat) (ro : Nat → Nat) (fo : Nat → Option Nat) (no : Nat → Option Nat) (lm : Nat) (rm : Nat) (pa : Nat → Option Nat) (mt : Nat → Int32) (q : Nat → Nat) (cf : Nat → Option Nat) (fa : Nat → Nat) (kp : Nat → Int32) (L : List Pr) (hMI : MI lf rt L) (x y : Int32) : Mt l yX4_place wsX4_place 1 24 [.ref (b 0), .int (x), .int (y)] G (cR G b L.length lf rt lo ro fo no lm rm pa mt q cf fa kp) (fun _ => False) (fun r _ => ∃ o : Option Nat, r = some (.int (lk o)) ∧ posR L x y o) := by
  refine Mt.mk cX4_place 3 (some .int) (by decide) rfl (Nat.le_of_ble_eq_true rfl) ?_
  intro p9 e s m below meth c ls hx hb hr hml hts hown hlocks hP hK hl
  have hS : va_S (fun _ => False) s.heap s.heap [] := va_S.rf
  have hl : lv_has ls 3 [(0, .ref (b 0)), (1, .int (x)), (2, .int (y))] := hl
  have hown : s.vm.findClass RX4 = some m.cls := hown
  refine lv_aload_n hx hb dX4_place_0 rfl (lv_at hl 0 rfl) ?_
  refine lv_iload_n hx hb dX4_place_1 rfl (lv_at hl 1 rfl) ?_
  refine lv_iload_n hx hb dX4_place_2 rfl (lv_at hl 2 rfl) ?_
  refine z_callV (rest := []) 2 ⟨hx, hb, hml, hown, hts⟩ hK (c_find l G b lf rt lo ro fo no lm rm pa mt q cf fa kp L hMI x y) gX4_place_X4_find rfl (by decide +kernel) ⟨Nat.le_of_ble_eq_true rfl, Nat.le_of_ble_eq_true rfl⟩ hP 0 rfl rfl rfl rfl hl.1 rfl (Nat.le_of_ble_eq_true rfl) dX4_place_3 ⟨Nat.le_refl _, Nat.le_refl _⟩ hS (fun _ h => h.elim) (fun v9 H9 locs hR9 hk9 hS => ?_)
  obtain ⟨o, rfl, ho⟩ := hR9
  have hP := P_keep0 hP hk9
  clear hk9
  generalize H9 = H at hP hS ⊢
  refine W.eq (g2 := F0 m 6 ls [.int (lk o)]) rfl ?_
  exact z_iret hx hb hr hlocks ⟨o, rfl, ho⟩ hS dX4_place_6

set_option maxHeartbeats 4000000 in
set_option maxRecDepth 100000 in
/-- the model: degree -/
theorem c_Rdegree (l : Launch) (G : Gd) (b : Nat → Nat) (lf : Nat → Int32) (rt : Nat → Int32) (lo : Nat → Nat) (ro : Nat → Nat) (fo : Nat → Option Nat) (no : Nat → Option Nat) (lm : Nat) (rm : Nat) (pa : Nat → Option Nat) (mt : Nat → Int32) (q : Nat → Nat) (cf : Nat → Option Nat) (fa : Nat → Nat) (kp : Nat → Int32) (L : List Pr) (hMI : MI lf rt L) (sx v : Int32) : Mt l yX4_degree wsX4_degree 1 22 [.ref (b 0), .int (sx), .int (v)] G (cR G b L.length lf rt lo ro fo no lm rm pa mt q cf fa kp) (fun _ => False) (fun r _ => r = some (.int (degA L sx v))) := by
  refine Mt.mk cX4_degree 5 (some .int) (by decide) rfl (Nat.le_of_ble_eq_true rfl) ?_
  intro p9 e s m below meth c ls hx hb hr hml hts hown hlocks hP hK hl
  have hinX4 : ∀ w ∈ wsX40, w ∈ wsX4_degree := by decide +kernel
  have hS : va_S (fun _ => False) s.heap s.heap [] := va_S.rf
  have hl : lv_has ls 5 [(0, .ref (b 0)), (1, .int (sx)), (2, .int (v))] := hl
  have hown : s.vm.findClass RX4 = some m.cls := hown
  have hn := hMI.1
  refine lv_iload_n hx hb dX4_degree_0 rfl (lv_at hl 1 rfl) ?_
  refine z_callS (rest := []) 1 ⟨hx, hb, hml, hown, hts⟩ hK (c_isSide4 l G sx) gX4_degree_X4_isSide rfl (by decide +kernel) ⟨Nat.le_of_ble_eq_true rfl, Nat.le_of_ble_eq_true rfl⟩ P_nil rfl hl.1 rfl (Nat.le_of_ble_eq_true rfl) dX4_degree_1 ⟨Nat.le_refl _, Nat.le_refl _⟩ hS (fun _ h => h.elim) (fun v9 H9 locs hR9 hk9 hS => ?_)
  obtain ⟨z, rfl, hz⟩ := hR9
  have hP := P_keep0 hP hk9
  clear hk9
  generalize H9 = H at hP hS ⊢
  refine W.eq (g2 := F0 m 4 ls [.int (nI z)]) rfl ?_
  rcases hz with ⟨rfl, hsd⟩ | ⟨rfl, d, hsd⟩
  · refine z_if_ne (tgt := 9) hx hb (by omega) dX4_degree_4 (by decide) (fun hc1 => ?_) (fun hc1 => ?_)
    · exact absurd hc1 (by decide)
    · refine lv_iconst (v := (-1)) hx hb dX4_degree_7 rfl ?_
      exact z_iret hx hb hr hlocks (by unfold degA; rw [hsd]) hS dX4_degree_8
  · refine z_if_ne (tgt := 9) hx hb (by omega) dX4_degree_4 (by decide) (fun hc2 => ?_) (fun hc2 => ?_)
    · obtain ⟨hd, hsx⟩ := sideOf_some hsd
      subst hsx
      refine lv_iconst (v := nI 0) hx hb dX4_degree_9 rfl ?_
      refine lv_istore_n (lv' := [(3, .int (nI 0)), (0, .ref (b 0)), (1, .int (nI d)), (2, .int (v))]) hx hb dX4_degree_10 rfl hl (by decide) rfl (fun ls hl => ?_)
      refine lv_iconst (v := nI 0) hx hb dX4_degree_11 rfl ?_
      refine lv_istore (lv' := [(4, .int (nI 0)), (3, .int (nI 0)), (0, .ref (b 0)), (1, .int (nI d)), (2, .int (v))]) hx hb dX4_degree_12 hl (by decide) rfl (fun ls hl => ?_)
      have loop : ∀ (k9 : Nat) (k : Nat) (H : Heap) (locs : List Loc) (ls : Array Slot), (L.length < k + k9) → (k ≤ L.length) → va_P G.1 vwCl (cR G b L.length lf rt lo ro fo no lm rm pa mt q cf fa kp) H → va_S (fun _ => False) s.heap H locs → lv_has ls 5 [(4, .int (nI k)), (3, .int (nI (cnt (key d L) v k))), (0, .ref (b 0)), (1, .int (nI d)), (2, .int (v))] → Wz p9 l e 1 22 s m [.ref (b 0), .int (nI d), .int (v)] below meth c (fun _ => False) (fun r _ => r = some (.int (degA L (nI d) v))) H locs (F0 m 14 ls []) := by
        intro k9
        induction k9 with
        | zero =>
          intro k H locs ls hfuel hk hP hS hl
          exact absurd hfuel (by omega)
        | succ k9 ih =>
          intro k H locs ls hfuel hk hP hS hl
          refine lv_iload hx hb dX4_degree_14 (lv_at hl 0 rfl) ?_
          refine lv_aload_n hx hb dX4_degree_16 rfl (lv_at hl 2 rfl) ?_
          refine va_get (D := G.1) (ci := 4) (v := .int (nI L.length)) (C := RX4) (T := TX4) (N := 15) hx hb hts hinX4 hown hK.1 hP 0 rfl rfl 0 (by decide) (hts (.fieldLink RX4 47 "PairThreadsModel" "many" "I") (by decide +kernel)) (fun _ h9 => h9) rfl dX4_degree_17 ?_
          refine z_icmp_ge (tgt := 48) hx hb (by omega) (by omega) dX4_degree_20 (by decide) (fun hc3 => ?_) (fun hc3 => ?_)
          · refine lv_iload_n hx hb dX4_degree_48 rfl (lv_at hl 1 rfl) ?_
            exact z_iret hx hb hr hlocks (by unfold degA; rw [hsd, show k = L.length by omega]) hS dX4_degree_49
          · refine lv_aload_n hx hb dX4_degree_23 rfl (lv_at hl 2 rfl) ?_
            refine lv_iload_n hx hb dX4_degree_24 rfl (lv_at hl 3 rfl) ?_
            refine lv_iload hx hb dX4_degree_25 (lv_at hl 0 rfl) ?_
            refine z_callV (rest := []) 2 ⟨hx, hb, hml, hown, hts⟩ hK (c_own l G b L.length lf rt lo ro fo no lm rm pa mt q cf fa kp d k (by omega) (by omega)) gX4_degree_X4_own rfl (by decide +kernel) ⟨Nat.le_of_ble_eq_true rfl, Nat.le_of_ble_eq_true rfl⟩ hP 0 rfl rfl rfl rfl hl.1 rfl (Nat.le_of_ble_eq_true rfl) dX4_degree_27 ⟨Nat.le_refl _, Nat.le_refl _⟩ hS (fun _ h => h.elim) (fun v9 H9 locs hR9 hk9 hS => ?_)
            obtain rfl := hR9
            have hP := P_keep0 hP hk9
            clear hk9
            generalize H9 = H at hP hS ⊢
            refine W.eq (g2 := F0 m 30 ls [.int (ow d lf rt k)]) rfl ?_
            refine z_top (y := key d L k) (ow_key hMI hd (by omega)) ?_
            refine lv_iload_n hx hb dX4_degree_30 rfl (lv_at hl 4 rfl) ?_
            refine lv_icmp_ne (tgt := 40) hx hb dX4_degree_31 (by decide) (fun hc4 => ?_) (fun hc4 => ?_)
            · refine lv_iload_n hx hb dX4_degree_40 rfl (lv_at hl 1 rfl) ?_
              refine lv_istore_n (lv' := [(3, .int (nI (cnt (key d L) v k))), (4, .int (nI k)), (0, .ref (b 0)), (1, .int (nI d)), (2, .int (v))]) hx hb dX4_degree_41 rfl hl (by decide) rfl (fun ls hl => ?_)
              refine z_iinc (lv' := [(4, .int (nI (k + 1))), (3, .int (nI (cnt (key d L) v k))), (0, .ref (b 0)), (1, .int (nI d)), (2, .int (v))]) hx hb dX4_degree_42 hl (k := 1) rfl (by decide) rfl (fun ls hl => ?_)
              refine lv_goto (tgt := 14) hx hb dX4_degree_45 (by decide) ?_
              have hl : lv_has ls 5 [(4, .int (nI (k + 1))), (3, .int (nI (cnt (key d L) v (k + 1)))), (0, .ref (b 0)), (1, .int (nI d)), (2, .int (v))] := by rw [cnt_miss hc4]; exact hl
              exact ih (k + 1) H locs ls (by omega) (by omega) hP hS (lv_sub hl [0, 1, 2, 3, 4] rfl)
            · refine lv_iload_n hx hb dX4_degree_34 rfl (lv_at hl 1 rfl) ?_
              refine lv_iconst (v := nI 1) hx hb dX4_degree_35 rfl ?_
              refine lv_iadd hx hb dX4_degree_36 ?_
              refine z_top (y := nI (cnt (key d L) v k + 1)) (nI_add _ _) ?_
              refine lv_goto (tgt := 41) hx hb dX4_degree_37 (by decide) ?_
              refine lv_istore_n (lv' := [(3, .int (nI (cnt (key d L) v k + 1))), (4, .int (nI k)), (0, .ref (b 0)), (1, .int (nI d)), (2, .int (v))]) hx hb dX4_degree_41 rfl hl (by decide) rfl (fun ls hl => ?_)
              refine z_iinc (lv' := [(4, .int (nI (k + 1))), (3, .int (nI (cnt (key d L) v k + 1))), (0, .ref (b 0)), (1, .int (nI d)), (2, .int (v))]) hx hb dX4_degree_42 hl (k := 1) rfl (by decide) rfl (fun ls hl => ?_)
              refine lv_goto (tgt := 14) hx hb dX4_degree_45 (by decide) ?_
              have hl : lv_has ls 5 [(4, .int (nI (k + 1))), (3, .int (nI (cnt (key d L) v (k + 1)))), (0, .ref (b 0)), (1, .int (nI d)), (2, .int (v))] := by rw [cnt_hit hc4]; exact hl
              exact ih (k + 1) H locs ls (by omega) (by omega) hP hS (lv_sub hl [0, 1, 2, 3, 4] rfl)
      exact loop (L.length + 1) 0 _ _ ls (by omega) (by omega) hP hS (lv_sub hl [0, 1, 2, 3, 4] rfl)
    · exact absurd hc2 (by decide)

set_option maxHeartbeats 4000000 in
set_option maxRecDepth 100000 in
/-- the model: drop -/
theorem c_Rdrop (l : Launch) (G : Gd) (b : Nat → Nat) (lf : Nat → Int32) (rt : Nat → Int32) (lo : Nat → Nat) (ro : Nat → Nat) (fo : Nat → Option Nat) (no : Nat → Option Nat) (lm : Nat) (rm : Nat) (pa : Nat → Option Nat) (mt : Nat → Int32) (q : Nat → Nat) (cf : Nat → Option Nat) (fa : Nat → Nat) (kp : Nat → Int32) (L : List Pr) (hMI : MI lf rt L) (sx v : Int32) (hnd : (aR b).Nodup) : Mt l yX4_drop wsX4_drop 1 22 [.ref (b 0), .int (sx), .int (v)] G (cR G b L.length lf rt lo ro fo no lm rm pa mt q cf fa kp) (fun q => q ∈ aR b) (fun r h => r = some (.int (degA L sx v)) ∧ ∃ lf' rt' : Nat → Int32, MI lf' rt' (dropL L sx v) ∧ va_P G.1 vwCl (cR G b (dropL L sx v).length lf' rt' lo ro fo no lm rm pa mt q cf fa kp) h) := by
  refine Mt.mk cX4_drop 5 (some .int) (by decide) rfl (Nat.le_of_ble_eq_true rfl) ?_
  intro p9 e s m below meth c ls hx hb hr hml hts hown hlocks hP hK hl
  have hinX4 : ∀ w ∈ wsX40, w ∈ wsX4_drop := by decide +kernel
  have hS : va_S (fun q => q ∈ aR b) s.heap s.heap [] := va_S.rf
  have hl : lv_has ls 5 [(0, .ref (b 0)), (1, .int (sx)), (2, .int (v))] := hl
  have hown : s.vm.findClass RX4 = some m.cls := hown
  have hDD : ∀ ws : va_W, ws.map Prod.fst = aR b → va_D (fun q => q ∈ aR b) ws := D_of hnd (fun q h => h)
  have hn := hMI.1
  refine lv_iload_n hx hb dX4_drop_0 rfl (lv_at hl 1 rfl) ?_
  refine z_callS (rest := []) 1 ⟨hx, hb, hml, hown, hts⟩ hK (c_isSide4 l G sx) gX4_drop_X4_isSide rfl (by decide +kernel) ⟨Nat.le_of_ble_eq_true rfl, Nat.le_of_ble_eq_true rfl⟩ P_nil rfl hl.1 rfl (Nat.le_of_ble_eq_true rfl) dX4_drop_1 ⟨Nat.le_refl _, Nat.le_refl _⟩ hS (fun _ h => h.elim) (fun v9 H9 locs hR9 hk9 hS => ?_)
  obtain ⟨z, rfl, hz⟩ := hR9
  have hP := P_keep0 hP hk9
  clear hk9
  generalize H9 = H at hP hS ⊢
  refine W.eq (g2 := F0 m 4 ls [.int (nI z)]) rfl ?_
  rcases hz with ⟨rfl, hsd⟩ | ⟨rfl, d, hsd⟩
  · refine z_if_ne (tgt := 9) hx hb (by omega) dX4_drop_4 (by decide) (fun hc1 => ?_) (fun hc1 => ?_)
    · exact absurd hc1 (by decide)
    · refine lv_iconst (v := (-1)) hx hb dX4_drop_7 rfl ?_
      exact z_iret hx hb hr hlocks ⟨by unfold degA; rw [hsd], lf, rt, by unfold dropL; rw [hsd]; exact ⟨hMI, hP⟩⟩ hS dX4_drop_8
  · refine z_if_ne (tgt := 9) hx hb (by omega) dX4_drop_4 (by decide) (fun hc2 => ?_) (fun hc2 => ?_)
    · obtain ⟨hd, hsx⟩ := sideOf_some hsd
      subst hsx
      refine lv_iconst (v := nI 0) hx hb dX4_drop_9 rfl ?_
      refine lv_istore_n (lv' := [(3, .int (nI 0)), (0, .ref (b 0)), (1, .int (nI d)), (2, .int (v))]) hx hb dX4_drop_10 rfl hl (by decide) rfl (fun ls hl => ?_)
      refine lv_aload_n hx hb dX4_drop_11 rfl (lv_at hl 1 rfl) ?_
      refine va_get (D := G.1) (ci := 4) (v := .int (nI L.length)) (C := RX4) (T := TX4) (N := 15) hx hb hts hinX4 hown hK.1 hP 0 rfl rfl 0 (by decide) (hts (.fieldLink RX4 47 "PairThreadsModel" "many" "I") (by decide +kernel)) (fun _ h9 => h9) rfl dX4_drop_12 ?_
      refine lv_iconst (v := nI 1) hx hb dX4_drop_15 rfl ?_
      refine lv_isub hx hb dX4_drop_16 ?_
      refine z_top (y := lk (pr L.length)) (lk_pr _) ?_
      refine lv_istore (lv' := [(4, .int (lk (pr L.length))), (3, .int (nI 0)), (0, .ref (b 0)), (1, .int (nI d)), (2, .int (v))]) hx hb dX4_drop_17 hl (by decide) rfl (fun ls hl => ?_)
      have loop : ∀ (k9 : Nat) (k : Nat) (M : List Pr) (lf : Nat → Int32) (rt : Nat → Int32) (H : Heap) (locs : List Loc) (ls : Array Slot), (k < k9) → (k ≤ L.length) → (M = L.take k ++ wo d v (L.drop k)) → (MI lf rt M) → va_P G.1 vwCl (cR G b M.length lf rt lo ro fo no lm rm pa mt q cf fa kp) H → va_S (fun q => q ∈ aR b) s.heap H locs → lv_has ls 5 [(4, .int (lk (pr k))), (3, .int (nI (cnt (key d L) v L.length - cnt (key d L) v k))), (0, .ref (b 0)), (1, .int (nI d)), (2, .int (v))] → Wz p9 l e 1 22 s m [.ref (b 0), .int (nI d), .int (v)] below meth c (fun q => q ∈ aR b) (fun r h => r = some (.int (degA L (nI d) v)) ∧ ∃ lf' rt' : Nat → Int32, MI lf' rt' (dropL L (nI d) v) ∧ va_P G.1 vwCl (cR G b (dropL L (nI d) v).length lf' rt' lo ro fo no lm rm pa mt q cf fa kp) h) H locs (F0 m 19 ls []) := by
        intro k9
        induction k9 with
        | zero =>
          intro k M lf rt H locs ls hfuel hk hM hMI hP hS hl
          exact absurd hfuel (by omega)
        | succ k9 ih =>
          intro k M lf rt H locs ls hfuel hk hM hMI hP hS hl
          have hpk : ∀ i, pr k = some i → k = i + 1 := fun i hi => by cases k with | zero => cases hi | succ z => cases hi; rfl
          have hL3 := hMI.1
          have hML : k ≤ M.length := by rw [hM, List.length_append, List.length_take]; omega
          refine lv_iload hx hb dX4_drop_19 (lv_at hl 0 rfl) ?_
          refine z_if_lt (tgt := 50) hx hb (fun i hi => by have := hpk i hi; omega) dX4_drop_21 (by decide) (fun hc3 => ?_) (fun i hc3 => ?_)
          · have hk0 : k = 0 := by cases k with | zero => rfl | succ z => cases hc3
            subst hk0
            refine lv_iload_n hx hb dX4_drop_50 rfl (lv_at hl 1 rfl) ?_
            exact z_iret hx hb hr hlocks ⟨by unfold degA; rw [hsd]; rfl, lf, rt, by have e : M = dropL L (nI d) v := by { unfold dropL; rw [hsd]; exact hM.trans rfl }; rw [← e]; exact ⟨hMI, hP⟩⟩ hS dX4_drop_51
          · have hki := hpk i hc3
            rw [hc3] at hl
            have hl : lv_has ls 5 [(4, .int (nI i)), (3, .int (nI (cnt (key d L) v L.length - cnt (key d L) v k))), (0, .ref (b 0)), (1, .int (nI d)), (2, .int (v))] := hl
            have hdr := drop_cons_pr L (show i < L.length by omega)
            have htk := take_succ_pr L (show i < L.length by omega)
            have hMi : M = L.take i ++ L.getD i (0, 0) :: wo d v (L.drop k) := by rw [hM, hki, htk, List.append_assoc]; rfl
            have hkey : ow d lf rt i = key d L i := by rw [ow_key hMI hd (by omega), hMi]; unfold key; congr 1; rw [List.getD_eq_getElem?_getD, List.getElem?_append_right (by rw [List.length_take]; omega), List.length_take, show i - min i L.length = 0 by omega]; rfl
            refine lv_aload_n hx hb dX4_drop_24 rfl (lv_at hl 2 rfl) ?_
            refine lv_iload_n hx hb dX4_drop_25 rfl (lv_at hl 3 rfl) ?_
            refine lv_iload hx hb dX4_drop_26 (lv_at hl 0 rfl) ?_
            refine z_callV (rest := []) 2 ⟨hx, hb, hml, hown, hts⟩ hK (c_own l G b M.length lf rt lo ro fo no lm rm pa mt q cf fa kp d i (by omega) (by omega)) gX4_drop_X4_own rfl (by decide +kernel) ⟨Nat.le_of_ble_eq_true rfl, Nat.le_of_ble_eq_true rfl⟩ hP 0 rfl rfl rfl rfl hl.1 rfl (Nat.le_of_ble_eq_true rfl) dX4_drop_28 ⟨Nat.le_refl _, Nat.le_refl _⟩ hS (fun _ h => h.elim) (fun v9 H9 locs hR9 hk9 hS => ?_)
            obtain rfl := hR9
            have hP := P_keep0 hP hk9
            clear hk9
            generalize H9 = H at hP hS ⊢
            refine W.eq (g2 := F0 m 31 ls [.int (ow d lf rt i)]) rfl ?_
            refine lv_iload_n hx hb dX4_drop_31 rfl (lv_at hl 4 rfl) ?_
            refine lv_icmp_ne (tgt := 44) hx hb dX4_drop_32 (by decide) (fun hc4 => ?_) (fun hc4 => ?_)
            · rw [hkey] at hc4
              refine z_iincm (lv' := [(4, .int (lk (pr i))), (3, .int (nI (cnt (key d L) v L.length - cnt (key d L) v k))), (0, .ref (b 0)), (1, .int (nI d)), (2, .int (v))]) hx hb dX4_drop_44 hl (k := 0) rfl (by decide) rfl (fun ls hl => ?_)
              refine lv_goto (tgt := 19) hx hb dX4_drop_47 (by decide) ?_
              have hl : lv_has ls 5 [(4, .int (lk (pr i))), (3, .int (nI (cnt (key d L) v L.length - cnt (key d L) v i))), (0, .ref (b 0)), (1, .int (nI d)), (2, .int (v))] := by rw [← cnt_miss hc4, ← hki]; exact hl
              exact ih i M lf rt H locs ls (by omega) (by omega) (by rw [hMi, hdr, wo_miss hc4, hki]) hMI hP hS (lv_sub hl [0, 1, 2, 3, 4] rfl)
            · rw [hkey] at hc4
              refine lv_aload_n hx hb dX4_drop_35 rfl (lv_at hl 2 rfl) ?_
              refine lv_iload hx hb dX4_drop_36 (lv_at hl 0 rfl) ?_
              refine z_callV (rest := []) 1 ⟨hx, hb, hml, hown, hts⟩ hK (c_remove l G b lf rt lo ro fo no lm rm pa mt q cf fa kp M hMI i (by omega) hnd) gX4_drop_X4_remove rfl (by decide +kernel) ⟨Nat.le_of_ble_eq_true rfl, Nat.le_of_ble_eq_true rfl⟩ hP 0 rfl rfl rfl rfl hl.1 rfl (Nat.le_of_ble_eq_true rfl) dX4_drop_38 ⟨Nat.le_refl _, Nat.le_refl _⟩ hS (fun _ h => h) (fun v9 H9 locs hR9 hk9 hS => ?_)
              obtain ⟨rfl, lf2, rt2, hMI2, hP⟩ := hR9
              clear hk9
              generalize H9 = H at hP hS ⊢
              refine W.eq (g2 := F0 m 41 ls []) rfl ?_
              obtain ⟨M2, eM2⟩ : ∃ z, z = M.eraseIdx i := ⟨_, rfl⟩
              rw [← eM2] at hMI2 hP
              refine z_iinc (lv' := [(3, .int (nI (cnt (key d L) v L.length - cnt (key d L) v k + 1))), (4, .int (nI i)), (0, .ref (b 0)), (1, .int (nI d)), (2, .int (v))]) hx hb dX4_drop_41 hl (k := 1) rfl (by decide) rfl (fun ls hl => ?_)
              refine z_iincm (lv' := [(4, .int (lk (pr i))), (3, .int (nI (cnt (key d L) v L.length - cnt (key d L) v k + 1))), (0, .ref (b 0)), (1, .int (nI d)), (2, .int (v))]) hx hb dX4_drop_44 hl (k := 1) rfl (by decide) rfl (fun ls hl => ?_)
              refine lv_goto (tgt := 19) hx hb dX4_drop_47 (by decide) ?_
              have hc0 := cnt_mono (K := key d L) (v := v) (show i + 1 ≤ L.length by omega)
              have hc1 := cnt_hit (K := key d L) hc4
              have hl : lv_has ls 5 [(4, .int (lk (pr i))), (3, .int (nI (cnt (key d L) v L.length - cnt (key d L) v i))), (0, .ref (b 0)), (1, .int (nI d)), (2, .int (v))] := by rw [show cnt (key d L) v L.length - cnt (key d L) v i = cnt (key d L) v L.length - cnt (key d L) v k + 1 by rw [hki]; omega]; exact hl
              exact ih i M2 lf2 rt2 H locs ls (by omega) (by omega) (by rw [eM2, hMi, hdr, wo_hit hc4, hki]; exact erase_at (by rw [List.length_take]; omega)) hMI2 hP hS (lv_sub hl [0, 1, 2, 3, 4] rfl)
      have hl : lv_has ls 5 [(4, .int (lk (pr L.length))), (3, .int (nI (cnt (key d L) v L.length - cnt (key d L) v L.length))), (0, .ref (b 0)), (1, .int (nI d)), (2, .int (v))] := by rw [Nat.sub_self]; exact hl
      exact loop (L.length + 1) L.length L lf rt _ _ ls (by omega) (by omega) (by rw [List.take_length, List.drop_length]; simp [wo]) hMI hP hS (lv_sub hl [0, 1, 2, 3, 4] rfl)
    · exact absurd hc2 (by decide)

set_option maxHeartbeats 4000000 in
set_option maxRecDepth 100000 in
/-- the model: link -/
theorem c_Rlink (l : Launch) (G : Gd) (b : Nat → Nat) (lf : Nat → Int32) (rt : Nat → Int32) (lo : Nat → Nat) (ro : Nat → Nat) (fo : Nat → Option Nat) (no : Nat → Option Nat) (lm : Nat) (rm : Nat) (pa : Nat → Option Nat) (mt : Nat → Int32) (q : Nat → Nat) (cf : Nat → Option Nat) (fa : Nat → Nat) (kp : Nat → Int32) (L : List Pr) (hMI : MI lf rt L) (x y : Int32) (hnd : (aR b).Nodup) : Mt l yX4_link wsX4_link 1 24 [.ref (b 0), .int (x), .int (y)] G (cR G b L.length lf rt lo ro fo no lm rm pa mt q cf fa kp) (fun q => q ∈ aR b) (fun r h => r = some (.int (linkA L x y)) ∧ ∃ lf' rt' : Nat → Int32, MI lf' rt' (linkL L x y) ∧ va_P G.1 vwCl (cR G b (linkL L x y).length lf' rt' lo ro fo no lm rm pa mt q cf fa kp) h) := by
  refine Mt.mk cX4_link 3 (some .int) (by decide) rfl (Nat.le_of_ble_eq_true rfl) ?_
  intro p9 e s m below meth c ls hx hb hr hml hts hown hlocks hP hK hl
  have hinX4 : ∀ w ∈ wsX40, w ∈ wsX4_link := by decide +kernel
  have hS : va_S (fun q => q ∈ aR b) s.heap s.heap [] := va_S.rf
  have hl : lv_has ls 3 [(0, .ref (b 0)), (1, .int (x)), (2, .int (y))] := hl
  have hown : s.vm.findClass RX4 = some m.cls := hown
  have hDD : ∀ ws : va_W, ws.map Prod.fst = aR b → va_D (fun q => q ∈ aR b) ws := D_of hnd (fun q h => h)
  have hn := hMI.1
  refine lv_aload_n hx hb dX4_link_0 rfl (lv_at hl 0 rfl) ?_
  refine lv_iload_n hx hb dX4_link_1 rfl (lv_at hl 1 rfl) ?_
  refine lv_iload_n hx hb dX4_link_2 rfl (lv_at hl 2 rfl) ?_
  refine z_callV (rest := []) 2 ⟨hx, hb, hml, hown, hts⟩ hK (c_find l G b lf rt lo ro fo no lm rm pa mt q cf fa kp L hMI x y) gX4_link_X4_find rfl (by decide +kernel) ⟨Nat.le_of_ble_eq_true rfl, Nat.le_of_ble_eq_true rfl⟩ hP 0 rfl rfl rfl rfl hl.1 rfl (Nat.le_of_ble_eq_true rfl) dX4_link_3 ⟨Nat.le_refl _, Nat.le_refl _⟩ hS (fun _ h => h.elim) (fun v9 H9 locs hR9 hk9 hS => ?_)
  obtain ⟨o, rfl, ho⟩ := hR9
  have hP := P_keep0 hP hk9
  clear hk9
  generalize H9 = H at hP hS ⊢
  refine W.eq (g2 := F0 m 6 ls [.int (lk o)]) rfl ?_
  refine lv_iconst (v := (-1)) hx hb dX4_link_6 rfl ?_
  refine z_none_eq (tgt := 12) hx hb (fun k hk => by have := posR_lt ho k hk; omega) dX4_link_7 (by decide) (fun hc1 => ?_) (fun k hc1 => ?_)
  · have hm := (posR_none ho).mp hc1
    refine lv_aload_n hx hb dX4_link_12 rfl (lv_at hl 0 rfl) ?_
    refine va_get (D := G.1) (ci := 4) (v := .int (nI L.length)) (C := RX4) (T := TX4) (N := 15) hx hb hts hinX4 hown hK.1 hP 0 rfl rfl 0 (by decide) (hts (.fieldLink RX4 47 "PairThreadsModel" "many" "I") (by decide +kernel)) (fun _ h9 => h9) rfl dX4_link_13 ?_
    refine lv_sipush (v := nI 300) hx hb dX4_link_16 (by decide) ?_
    refine z_icmp_ne (tgt := 25) hx hb (by omega) (by omega) dX4_link_19 (by decide) (fun hc2 => ?_) (fun hc2 => ?_)
    · refine lv_aload_n hx hb dX4_link_25 rfl (lv_at hl 0 rfl) ?_
      refine lv_iload_n hx hb dX4_link_26 rfl (lv_at hl 1 rfl) ?_
      refine lv_iload_n hx hb dX4_link_27 rfl (lv_at hl 2 rfl) ?_
      refine z_callV (rest := []) 2 ⟨hx, hb, hml, hown, hts⟩ hK (c_add l G b lf rt lo ro fo no lm rm pa mt q cf fa kp L hMI x y (by omega) hnd) gX4_link_X4_add rfl (by decide +kernel) ⟨Nat.le_of_ble_eq_true rfl, Nat.le_of_ble_eq_true rfl⟩ hP 0 rfl rfl rfl rfl hl.1 rfl (Nat.le_of_ble_eq_true rfl) dX4_link_28 ⟨Nat.le_refl _, Nat.le_refl _⟩ hS (fun _ h => h) (fun v9 H9 locs hR9 hk9 hS => ?_)
      obtain ⟨rfl, lf2, rt2, hMI2, hP⟩ := hR9
      clear hk9
      generalize H9 = H at hP hS ⊢
      refine W.eq (g2 := F0 m 31 ls []) rfl ?_
      refine lv_aload_n hx hb dX4_link_31 rfl (lv_at hl 0 rfl) ?_
      refine va_get (D := G.1) (ci := 4) (v := .int (nI ((L ++ [(x, y)]).length))) (C := RX4) (T := TX4) (N := 15) hx hb hts hinX4 hown hK.1 hP 0 rfl rfl 0 (by decide) (hts (.fieldLink RX4 47 "PairThreadsModel" "many" "I") (by decide +kernel)) (fun _ h9 => h9) rfl dX4_link_32 ?_
      exact z_iret hx hb hr hlocks ⟨by unfold linkA; rw [if_neg hm, if_neg (by omega)]; simp, lf2, rt2, by unfold linkL; rw [if_neg hm, if_neg (by omega)]; exact ⟨hMI2, hP⟩⟩ hS dX4_link_35
    · refine lv_bipush (v := (-2)) hx hb dX4_link_22 (by decide) ?_
      exact z_iret hx hb hr hlocks ⟨by unfold linkA; rw [if_neg hm, if_pos (by omega)], lf, rt, by unfold linkL; rw [if_neg hm, if_pos (by omega)]; exact ⟨hMI, hP⟩⟩ hS dX4_link_24
  · have hm : (x, y) ∈ L := Decidable.byContradiction (fun z => by rw [(posR_none ho).mpr z] at hc1; cases hc1)
    refine lv_iconst (v := (-1)) hx hb dX4_link_10 rfl ?_
    exact z_iret hx hb hr hlocks ⟨by unfold linkA; rw [if_pos hm], lf, rt, by unfold linkL; rw [if_pos hm]; exact ⟨hMI, hP⟩⟩ hS dX4_link_11

set_option maxHeartbeats 4000000 in
set_option maxRecDepth 100000 in
/-- the model: unlink -/
theorem c_Runlink (l : Launch) (G : Gd) (b : Nat → Nat) (lf : Nat → Int32) (rt : Nat → Int32) (lo : Nat → Nat) (ro : Nat → Nat) (fo : Nat → Option Nat) (no : Nat → Option Nat) (lm : Nat) (rm : Nat) (pa : Nat → Option Nat) (mt : Nat → Int32) (q : Nat → Nat) (cf : Nat → Option Nat) (fa : Nat → Nat) (kp : Nat → Int32) (L : List Pr) (hMI : MI lf rt L) (x y : Int32) (hnd : (aR b).Nodup) : Mt l yX4_unlink wsX4_unlink 1 24 [.ref (b 0), .int (x), .int (y)] G (cR G b L.length lf rt lo ro fo no lm rm pa mt q cf fa kp) (fun q => q ∈ aR b) (fun r h => ∃ o : Option Nat, posR L x y o ∧ r = some (.int (unlA L o)) ∧ ∃ lf' rt' : Nat → Int32, MI lf' rt' (unlL L o) ∧ va_P G.1 vwCl (cR G b (unlL L o).length lf' rt' lo ro fo no lm rm pa mt q cf fa kp) h) := by
  refine Mt.mk cX4_unlink 4 (some .int) (by decide) rfl (Nat.le_of_ble_eq_true rfl) ?_
  intro p9 e s m below meth c ls hx hb hr hml hts hown hlocks hP hK hl
  have hinX4 : ∀ w ∈ wsX40, w ∈ wsX4_unlink := by decide +kernel
  have hS : va_S (fun q => q ∈ aR b) s.heap s.heap [] := va_S.rf
  have hl : lv_has ls 4 [(0, .ref (b 0)), (1, .int (x)), (2, .int (y))] := hl
  have hown : s.vm.findClass RX4 = some m.cls := hown
  have hDD : ∀ ws : va_W, ws.map Prod.fst = aR b → va_D (fun q => q ∈ aR b) ws := D_of hnd (fun q h => h)
  have hn := hMI.1
  refine lv_aload_n hx hb dX4_unlink_0 rfl (lv_at hl 0 rfl) ?_
  refine lv_iload_n hx hb dX4_unlink_1 rfl (lv_at hl 1 rfl) ?_
  refine lv_iload_n hx hb dX4_unlink_2 rfl (lv_at hl 2 rfl) ?_
  refine z_callV (rest := []) 2 ⟨hx, hb, hml, hown, hts⟩ hK (c_find l G b lf rt lo ro fo no lm rm pa mt q cf fa kp L hMI x y) gX4_unlink_X4_find rfl (by decide +kernel) ⟨Nat.le_of_ble_eq_true rfl, Nat.le_of_ble_eq_true rfl⟩ hP 0 rfl rfl rfl rfl hl.1 rfl (Nat.le_of_ble_eq_true rfl) dX4_unlink_3 ⟨Nat.le_refl _, Nat.le_refl _⟩ hS (fun _ h => h.elim) (fun v9 H9 locs hR9 hk9 hS => ?_)
  obtain ⟨o, rfl, ho⟩ := hR9
  have hP := P_keep0 hP hk9
  clear hk9
  generalize H9 = H at hP hS ⊢
  refine W.eq (g2 := F0 m 6 ls [.int (lk o)]) rfl ?_
  refine lv_istore_n (lv' := [(3, .int (lk o)), (0, .ref (b 0)), (1, .int (x)), (2, .int (y))]) hx hb dX4_unlink_6 rfl hl (by decide) rfl (fun ls hl => ?_)
  refine lv_iload_n hx hb dX4_unlink_7 rfl (lv_at hl 0 rfl) ?_
  refine lv_iconst (v := (-1)) hx hb dX4_unlink_8 rfl ?_
  refine z_none_ne (tgt := 14) hx hb (fun k hk => by have := posR_lt ho k hk; omega) dX4_unlink_9 (by decide) (fun k hc1 => ?_) (fun hc1 => ?_)
  · subst hc1
    have hl : lv_has ls 4 [(3, .int (nI k)), (0, .ref (b 0)), (1, .int (x)), (2, .int (y))] := hl
    have hkl := posR_lt ho k rfl
    refine lv_aload_n hx hb dX4_unlink_14 rfl (lv_at hl 1 rfl) ?_
    refine lv_iload_n hx hb dX4_unlink_15 rfl (lv_at hl 0 rfl) ?_
    refine z_callV (rest := []) 1 ⟨hx, hb, hml, hown, hts⟩ hK (c_remove l G b lf rt lo ro fo no lm rm pa mt q cf fa kp L hMI k hkl hnd) gX4_unlink_X4_remove rfl (by decide +kernel) ⟨Nat.le_of_ble_eq_true rfl, Nat.le_of_ble_eq_true rfl⟩ hP 0 rfl rfl rfl rfl hl.1 rfl (Nat.le_of_ble_eq_true rfl) dX4_unlink_16 ⟨Nat.le_refl _, Nat.le_refl _⟩ hS (fun _ h => h) (fun v9 H9 locs hR9 hk9 hS => ?_)
    obtain ⟨rfl, lf2, rt2, hMI2, hP⟩ := hR9
    clear hk9
    generalize H9 = H at hP hS ⊢
    refine W.eq (g2 := F0 m 19 ls []) rfl ?_
    refine lv_aload_n hx hb dX4_unlink_19 rfl (lv_at hl 1 rfl) ?_
    refine va_get (D := G.1) (ci := 4) (v := .int (nI ((L.eraseIdx k).length))) (C := RX4) (T := TX4) (N := 15) hx hb hts hinX4 hown hK.1 hP 0 rfl rfl 0 (by decide) (hts (.fieldLink RX4 47 "PairThreadsModel" "many" "I") (by decide +kernel)) (fun _ h9 => h9) rfl dX4_unlink_20 ?_
    exact z_iret hx hb hr hlocks ⟨some k, ho, by rw [List.length_eraseIdx_of_lt hkl]; rfl, lf2, rt2, hMI2, hP⟩ hS dX4_unlink_23
  · subst hc1
    refine lv_iconst (v := (-1)) hx hb dX4_unlink_12 rfl ?_
    exact z_iret hx hb hr hlocks ⟨none, ho, rfl, lf, rt, hMI, hP⟩ hS dX4_unlink_13

set_option maxHeartbeats 4000000 in
set_option maxRecDepth 100000 in
/-- the model: at -/
theorem c_Rat (l : Launch) (G : Gd) (b : Nat → Nat) (lf : Nat → Int32) (rt : Nat → Int32) (lo : Nat → Nat) (ro : Nat → Nat) (fo : Nat → Option Nat) (no : Nat → Option Nat) (lm : Nat) (rm : Nat) (pa : Nat → Option Nat) (mt : Nat → Int32) (q : Nat → Nat) (cf : Nat → Option Nat) (fa : Nat → Nat) (kp : Nat → Int32) (L : List Pr) (hMI : MI lf rt L) (px sx : Int32) : Mt l yX4_at wsX4_at 1 22 [.ref (b 0), .int (px), .int (sx)] G (cR G b L.length lf rt lo ro fo no lm rm pa mt q cf fa kp) (fun _ => False) (fun r _ => r = some (.int (atA L px sx))) := by
  refine Mt.mk cX4_at 3 (some .int) (by decide) rfl (Nat.le_of_ble_eq_true rfl) ?_
  intro p9 e s m below meth c ls hx hb hr hml hts hown hlocks hP hK hl
  have hinX4 : ∀ w ∈ wsX40, w ∈ wsX4_at := by decide +kernel
  have hS : va_S (fun _ => False) s.heap s.heap [] := va_S.rf
  have hl : lv_has ls 3 [(0, .ref (b 0)), (1, .int (px)), (2, .int (sx))] := hl
  have hown : s.vm.findClass RX4 = some m.cls := hown
  have hn := hMI.1
  refine lv_iload_n hx hb dX4_at_0 rfl (lv_at hl 1 rfl) ?_
  refine lv_if_lt (tgt := 28) hx hb dX4_at_1 (by decide) (fun hc1 => ?_) (fun hc1 => ?_)
  · refine lv_iconst (v := nI 0) hx hb dX4_at_28 rfl ?_
    have hng : ¬ (0 ≤ px.toInt ∧ px.toInt < L.length) := fun z => by have h1 := Int32.lt_iff_toInt_lt.mp hc1; have h2 : (0 : Int32).toInt = 0 := rfl; omega
    exact z_iret hx hb hr hlocks (by unfold atA; cases sideOf sx with | none => rfl | some d => exact (congrArg (fun z => some (Value.int z)) (if_neg hng)).symm) hS dX4_at_29
  · obtain ⟨x0, hx0, hxe⟩ := nI_of hc1
    subst hxe
    have hti := nI_toInt hx0
    refine lv_iload_n hx hb dX4_at_4 rfl (lv_at hl 1 rfl) ?_
    refine lv_aload_n hx hb dX4_at_5 rfl (lv_at hl 0 rfl) ?_
    refine va_get (D := G.1) (ci := 4) (v := .int (nI L.length)) (C := RX4) (T := TX4) (N := 15) hx hb hts hinX4 hown hK.1 hP 0 rfl rfl 0 (by decide) (hts (.fieldLink RX4 47 "PairThreadsModel" "many" "I") (by decide +kernel)) (fun _ h9 => h9) rfl dX4_at_6 ?_
    refine z_icmp_ge (tgt := 28) hx hb (by omega) (by omega) dX4_at_9 (by decide) (fun hc2 => ?_) (fun hc2 => ?_)
    · refine lv_iconst (v := nI 0) hx hb dX4_at_28 rfl ?_
      exact z_iret hx hb hr hlocks (by unfold atA; cases sideOf sx with | none => rfl | some d => exact (congrArg (fun z => some (Value.int z)) (if_neg (by rw [hti]; omega))).symm) hS dX4_at_29
    · refine lv_iload_n hx hb dX4_at_12 rfl (lv_at hl 2 rfl) ?_
      refine z_callS (rest := []) 1 ⟨hx, hb, hml, hown, hts⟩ hK (c_isSide4 l G sx) gX4_at_X4_isSide rfl (by decide +kernel) ⟨Nat.le_of_ble_eq_true rfl, Nat.le_of_ble_eq_true rfl⟩ P_nil rfl hl.1 rfl (Nat.le_of_ble_eq_true rfl) dX4_at_13 ⟨Nat.le_refl _, Nat.le_refl _⟩ hS (fun _ h => h.elim) (fun v9 H9 locs hR9 hk9 hS => ?_)
      obtain ⟨z, rfl, hz⟩ := hR9
      have hP := P_keep0 hP hk9
      clear hk9
      generalize H9 = H at hP hS ⊢
      refine W.eq (g2 := F0 m 16 ls [.int (nI z)]) rfl ?_
      rcases hz with ⟨rfl, hsd⟩ | ⟨rfl, d, hsd⟩
      · refine z_if_eq (tgt := 28) hx hb (by omega) dX4_at_16 (by decide) (fun hc3 => ?_) (fun hc3 => ?_)
        · refine lv_iconst (v := nI 0) hx hb dX4_at_28 rfl ?_
          exact z_iret hx hb hr hlocks (by unfold atA; rw [hsd]) hS dX4_at_29
        · exact absurd hc3 (by decide)
      · refine z_if_eq (tgt := 28) hx hb (by omega) dX4_at_16 (by decide) (fun hc4 => ?_) (fun hc4 => ?_)
        · exact absurd hc4 (by decide)
        · obtain ⟨hd, hsx⟩ := sideOf_some hsd
          subst hsx
          refine lv_aload_n hx hb dX4_at_19 rfl (lv_at hl 0 rfl) ?_
          refine lv_iload_n hx hb dX4_at_20 rfl (lv_at hl 2 rfl) ?_
          refine lv_iload_n hx hb dX4_at_21 rfl (lv_at hl 1 rfl) ?_
          refine z_callV (rest := []) 2 ⟨hx, hb, hml, hown, hts⟩ hK (c_own l G b L.length lf rt lo ro fo no lm rm pa mt q cf fa kp d x0 (by omega) (by omega)) gX4_at_X4_own rfl (by decide +kernel) ⟨Nat.le_of_ble_eq_true rfl, Nat.le_of_ble_eq_true rfl⟩ hP 0 rfl rfl rfl rfl hl.1 rfl (Nat.le_of_ble_eq_true rfl) dX4_at_22 ⟨Nat.le_refl _, Nat.le_refl _⟩ hS (fun _ h => h.elim) (fun v9 H9 locs hR9 hk9 hS => ?_)
          obtain rfl := hR9
          have hP := P_keep0 hP hk9
          clear hk9
          generalize H9 = H at hP hS ⊢
          refine W.eq (g2 := F0 m 25 ls [.int (ow d lf rt x0)]) rfl ?_
          refine lv_goto (tgt := 29) hx hb dX4_at_25 (by decide) ?_
          exact z_iret hx hb hr hlocks (by unfold atA; rw [hsd]; dsimp only; rw [if_pos (by rw [hti]; omega), hti, ow_key hMI hd (by omega)]; rfl) hS dX4_at_29

set_option maxHeartbeats 4000000 in
set_option maxRecDepth 100000 in
/-- the model: clear -/
theorem c_Rclear (l : Launch) (G : Gd) (b : Nat → Nat) (lf : Nat → Int32) (rt : Nat → Int32) (lo : Nat → Nat) (ro : Nat → Nat) (fo : Nat → Option Nat) (no : Nat → Option Nat) (lm : Nat) (rm : Nat) (pa : Nat → Option Nat) (mt : Nat → Int32) (q : Nat → Nat) (cf : Nat → Option Nat) (fa : Nat → Nat) (kp : Nat → Int32) (L : List Pr) (hMI : MI lf rt L) (hnd : (aR b).Nodup) : Mt l yX4_clear wsX4_clear 0 0 [.ref (b 0)] G (cR G b L.length lf rt lo ro fo no lm rm pa mt q cf fa kp) (fun q => q ∈ aR b) (fun r h => r = some (.int (nI L.length)) ∧ ∃ lf' rt' : Nat → Int32, MI lf' rt' (([] : List Pr)) ∧ va_P G.1 vwCl (cR G b (([] : List Pr)).length lf' rt' lo ro fo no lm rm pa mt q cf fa kp) h) := by
  refine Mt.mk cX4_clear 2 (some .int) (by decide) rfl (Nat.le_of_ble_eq_true rfl) ?_
  intro p9 e s m below meth c ls hx hb hr hml hts hown hlocks hP hK hl
  have hinX4 : ∀ w ∈ wsX40, w ∈ wsX4_clear := by decide +kernel
  have hS : va_S (fun q => q ∈ aR b) s.heap s.heap [] := va_S.rf
  have hl : lv_has ls 2 [(0, .ref (b 0))] := hl
  have hown : s.vm.findClass RX4 = some m.cls := hown
  have hDD : ∀ ws : va_W, ws.map Prod.fst = aR b → va_D (fun q => q ∈ aR b) ws := D_of hnd (fun q h => h)
  refine lv_aload_n hx hb dX4_clear_0 rfl (lv_at hl 0 rfl) ?_
  refine va_get (D := G.1) (ci := 4) (v := .int (nI L.length)) (C := RX4) (T := TX4) (N := 15) hx hb hts hinX4 hown hK.1 hP 0 rfl rfl 0 (by decide) (hts (.fieldLink RX4 47 "PairThreadsModel" "many" "I") (by decide +kernel)) (fun _ h9 => h9) rfl dX4_clear_1 ?_
  refine lv_istore_n (lv' := [(1, .int (nI L.length)), (0, .ref (b 0))]) hx hb dX4_clear_4 rfl hl (by decide) rfl (fun ls hl => ?_)
  refine lv_aload_n hx hb dX4_clear_5 rfl (lv_at hl 1 rfl) ?_
  refine lv_iconst (v := nI 0) hx hb dX4_clear_6 rfl ?_
  refine va_put (D := G.1) (ci := 4) (v := .int (nI 0)) (ty := .int) (C := RX4) (T := TX4) (N := 15) hx hb hts hinX4 tyX4 tyX4_ok nmX4 hown hK.1 hP (hDD _ rfl) hS 0 rfl rfl 0 (by decide) (hts (.fieldLink RX4 47 "PairThreadsModel" "many" "I") (by decide +kernel)) (fun _ h9 => h9) rfl (by decide +kernel) rfl rfl (Nat.le_of_ble_eq_true rfl) dX4_clear_7 (fun H locs hP _ hS => ?_)
  have hP : va_P G.1 vwCl (cR G b 0 lf rt lo ro fo no lm rm pa mt q cf fa kp) H := hP
  refine lv_iload_n hx hb dX4_clear_10 rfl (lv_at hl 0 rfl) ?_
  exact z_iret hx hb hr hlocks ⟨rfl, lf, rt, ⟨Nat.zero_le _, fun i hi => absurd hi (Nat.not_lt_zero i)⟩, hP⟩ hS dX4_clear_11

set_option maxHeartbeats 4000000 in
set_option maxRecDepth 100000 in
/-- the model: check -/
theorem c_Rcheck (l : Launch) (G : Gd) (b : Nat → Nat) (lf : Nat → Int32) (rt : Nat → Int32) (lo : Nat → Nat) (ro : Nat → Nat) (fo : Nat → Option Nat) (no : Nat → Option Nat) (lm : Nat) (rm : Nat) (pa : Nat → Option Nat) (mt : Nat → Int32) (q : Nat → Nat) (cf : Nat → Option Nat) (fa : Nat → Nat) (kp : Nat → Int32) (L : List Pr) (hMI : MI lf rt L) : Mt l yX4_check wsX4_check 0 0 [.ref (b 0)] G (cR G b L.length lf rt lo ro fo no lm rm pa mt q cf fa kp) (fun _ => False) (fun r _ => r = some (.int (nI 1))) := by
  refine Mt.mk cX4_check 1 (some .int) (by decide) rfl (Nat.le_of_ble_eq_true rfl) ?_
  intro p9 e s m below meth c ls hx hb hr hml hts hown hlocks hP hK hl
  have hS : va_S (fun _ => False) s.heap s.heap [] := va_S.rf
  have hl : lv_has ls 1 [(0, .ref (b 0))] := hl
  have hown : s.vm.findClass RX4 = some m.cls := hown
  refine lv_iconst (v := nI 1) hx hb dX4_check_0 rfl ?_
  exact z_iret hx hb hr hlocks rfl hS dX4_check_1

set_option maxHeartbeats 4000000 in
set_option maxRecDepth 100000 in
/-- the model: other -/
theorem c_Rother (l : Launch) (G : Gd) (b : Nat → Nat) (lf : Nat → Int32) (rt : Nat → Int32) (lo : Nat → Nat) (ro : Nat → Nat) (fo : Nat → Option Nat) (no : Nat → Option Nat) (lm : Nat) (rm : Nat) (pa : Nat → Option Nat) (mt : Nat → Int32) (q : Nat → Nat) (cf : Nat → Option Nat) (fa : Nat → Nat) (kp : Nat → Int32) (L : List Pr) (hMI : MI lf rt L) (sx v x : Int32) : Mt l yX4_other wsX4_other 1 22 [.ref (b 0), .int (sx), .int (v), .int (x)] G (cR G b L.length lf rt lo ro fo no lm rm pa mt q cf fa kp) (fun _ => False) (fun r _ => ∃ z : Int32, r = some (.int z) ∧ otherR L sx v x z) := by
  refine Mt.mk cX4_other 6 (some .int) (by decide) rfl (Nat.le_of_ble_eq_true rfl) ?_
  intro p9 e s m below meth c ls hx hb hr hml hts hown hlocks hP hK hl
  have hinX4 : ∀ w ∈ wsX40, w ∈ wsX4_other := by decide +kernel
  have hS : va_S (fun _ => False) s.heap s.heap [] := va_S.rf
  have hl : lv_has ls 6 [(0, .ref (b 0)), (1, .int (sx)), (2, .int (v)), (3, .int (x))] := hl
  have hown : s.vm.findClass RX4 = some m.cls := hown
  have hn := hMI.1
  by_cases hneg : x < 0
  · refine lv_iload_n hx hb dX4_other_0 rfl (lv_at hl 3 rfl) ?_
    refine lv_istore (lv' := [(4, .int (x)), (0, .ref (b 0)), (1, .int (sx)), (2, .int (v)), (3, .int (x))]) hx hb dX4_other_1 hl (by decide) rfl (fun ls hl => ?_)
    refine lv_iconst (v := nI 0) hx hb dX4_other_3 rfl ?_
    refine lv_istore (lv' := [(5, .int (nI 0)), (4, .int (x)), (0, .ref (b 0)), (1, .int (sx)), (2, .int (v)), (3, .int (x))]) hx hb dX4_other_4 hl (by decide) rfl (fun ls hl => ?_)
    refine lv_iload hx hb dX4_other_6 (lv_at hl 0 rfl) ?_
    refine lv_aload_n hx hb dX4_other_8 rfl (lv_at hl 2 rfl) ?_
    refine va_get (D := G.1) (ci := 4) (v := .int (nI L.length)) (C := RX4) (T := TX4) (N := 15) hx hb hts hinX4 hown hK.1 hP 0 rfl rfl 0 (by decide) (hts (.fieldLink RX4 47 "PairThreadsModel" "many" "I") (by decide +kernel)) (fun _ h9 => h9) rfl dX4_other_9 ?_
    refine z_icmp_ge (tgt := 61) hx hb (by omega) (by omega) dX4_other_12 (by decide) (fun hc1 => ?_) (fun hc1 => ?_)
    · refine lv_iconst (v := nI 0) hx hb dX4_other_61 rfl ?_
      exact z_iret hx hb hr hlocks ⟨nI 0, rfl, (by unfold otherR; cases hsd2 : sideOf sx with | none => rfl | some d => exact ⟨none, Or.inl ⟨rfl, fun j hj _ hq => by have h1 := cnt_le (key d L) v j; rw [hq] at hneg; exact absurd hneg (nI_pos (by omega))⟩, rfl⟩)⟩ hS dX4_other_62
    · refine lv_iload_n hx hb dX4_other_15 rfl (lv_at hl 3 rfl) ?_
      refine z_callS (rest := []) 1 ⟨hx, hb, hml, hown, hts⟩ hK (c_isSide4 l G sx) gX4_other_X4_isSide rfl (by decide +kernel) ⟨Nat.le_of_ble_eq_true rfl, Nat.le_of_ble_eq_true rfl⟩ P_nil rfl hl.1 rfl (Nat.le_of_ble_eq_true rfl) dX4_other_16 ⟨Nat.le_refl _, Nat.le_refl _⟩ hS (fun _ h => h.elim) (fun v9 H9 locs hR9 hk9 hS => ?_)
      obtain ⟨z, rfl, hz⟩ := hR9
      have hP := P_keep0 hP hk9
      clear hk9
      generalize H9 = H at hP hS ⊢
      refine W.eq (g2 := F0 m 19 ls [.int (nI z)]) rfl ?_
      rcases hz with ⟨rfl, hsd⟩ | ⟨rfl, d, hsd⟩
      · refine z_if_eq (tgt := 61) hx hb (by omega) dX4_other_19 (by decide) (fun hc2 => ?_) (fun hc2 => ?_)
        · refine lv_iconst (v := nI 0) hx hb dX4_other_61 rfl ?_
          exact z_iret hx hb hr hlocks ⟨nI 0, rfl, by unfold otherR; rw [hsd]⟩ hS dX4_other_62
        · exact absurd hc2 (by decide)
      · refine z_if_eq (tgt := 61) hx hb (by omega) dX4_other_19 (by decide) (fun hc3 => ?_) (fun hc3 => ?_)
        · exact absurd hc3 (by decide)
        · obtain ⟨hd, hsx⟩ := sideOf_some hsd
          subst hsx
          refine lv_iload_n hx hb dX4_other_22 rfl (lv_at hl 5 rfl) ?_
          refine lv_if_lt (tgt := 61) hx hb dX4_other_23 (by decide) (fun hc4 => ?_) (fun hc4 => ?_)
          · refine lv_iconst (v := nI 0) hx hb dX4_other_61 rfl ?_
            exact z_iret hx hb hr hlocks ⟨nI 0, rfl, by unfold otherR; rw [hsd]; exact ⟨none, Or.inl ⟨rfl, fun j hj _ hq => by have h1 := cnt_le (key d L) v j; rw [hq] at hneg; exact absurd hneg (nI_pos (by omega))⟩, rfl⟩⟩ hS dX4_other_62
          · exact absurd hneg hc4
  · obtain ⟨x0, hx0, hxe⟩ := nI_of hneg
    subst hxe
    clear hneg
    refine lv_iload_n hx hb dX4_other_0 rfl (lv_at hl 3 rfl) ?_
    refine lv_istore (lv' := [(4, .int (nI x0)), (0, .ref (b 0)), (1, .int (sx)), (2, .int (v)), (3, .int (nI x0))]) hx hb dX4_other_1 hl (by decide) rfl (fun ls hl => ?_)
    refine lv_iconst (v := nI 0) hx hb dX4_other_3 rfl ?_
    refine lv_istore (lv' := [(5, .int (nI 0)), (4, .int (nI x0)), (0, .ref (b 0)), (1, .int (sx)), (2, .int (v)), (3, .int (nI x0))]) hx hb dX4_other_4 hl (by decide) rfl (fun ls hl => ?_)
    have loop : ∀ (k9 : Nat) (k : Nat) (f : Nat) (H : Heap) (locs : List Loc) (ls : Array Slot), (L.length < k + k9) → (k ≤ L.length) → (∀ d, sideOf sx = some d → x0 = f + cnt (key d L) v k) → (f ≤ x0) → va_P G.1 vwCl (cR G b L.length lf rt lo ro fo no lm rm pa mt q cf fa kp) H → va_S (fun _ => False) s.heap H locs → lv_has ls 6 [(5, .int (nI k)), (4, .int (nI f)), (0, .ref (b 0)), (1, .int (sx)), (2, .int (v)), (3, .int (nI x0))] → Wz p9 l e 1 22 s m [.ref (b 0), .int (sx), .int (v), .int (nI x0)] below meth c (fun _ => False) (fun r _ => ∃ z : Int32, r = some (.int z) ∧ otherR L sx v (nI x0) z) H locs (F0 m 6 ls []) := by
      intro k9
      induction k9 with
      | zero =>
        intro k f H locs ls hfuel hk hf hf2 hP hS hl
        exact absurd hfuel (by omega)
      | succ k9 ih =>
        intro k f H locs ls hfuel hk hf hf2 hP hS hl
        refine lv_iload hx hb dX4_other_6 (lv_at hl 0 rfl) ?_
        refine lv_aload_n hx hb dX4_other_8 rfl (lv_at hl 2 rfl) ?_
        refine va_get (D := G.1) (ci := 4) (v := .int (nI L.length)) (C := RX4) (T := TX4) (N := 15) hx hb hts hinX4 hown hK.1 hP 0 rfl rfl 0 (by decide) (hts (.fieldLink RX4 47 "PairThreadsModel" "many" "I") (by decide +kernel)) (fun _ h9 => h9) rfl dX4_other_9 ?_
        refine z_icmp_ge (tgt := 61) hx hb (by omega) (by omega) dX4_other_12 (by decide) (fun hc5 => ?_) (fun hc5 => ?_)
        · refine lv_iconst (v := nI 0) hx hb dX4_other_61 rfl ?_
          have he : k = L.length := by omega
          subst he
          exact z_iret hx hb hr hlocks ⟨nI 0, rfl, by unfold otherR; cases hsd2 : sideOf sx with | none => rfl | some d => exact ⟨none, Or.inl ⟨rfl, fun j hj hv hq => by have h1 := cnt_lt (K := key d L) hj hv; have h2 := hf d hsd2; have h3 := cnt_le (key d L) v j; rw [nI_eq hx0 (by omega)] at hq; omega⟩, rfl⟩⟩ hS dX4_other_62
        · refine lv_iload_n hx hb dX4_other_15 rfl (lv_at hl 3 rfl) ?_
          refine z_callS (rest := []) 1 ⟨hx, hb, hml, hown, hts⟩ hK (c_isSide4 l G sx) gX4_other_X4_isSide rfl (by decide +kernel) ⟨Nat.le_of_ble_eq_true rfl, Nat.le_of_ble_eq_true rfl⟩ P_nil rfl hl.1 rfl (Nat.le_of_ble_eq_true rfl) dX4_other_16 ⟨Nat.le_refl _, Nat.le_refl _⟩ hS (fun _ h => h.elim) (fun v9 H9 locs hR9 hk9 hS => ?_)
          obtain ⟨z, rfl, hz⟩ := hR9
          have hP := P_keep0 hP hk9
          clear hk9
          generalize H9 = H at hP hS ⊢
          refine W.eq (g2 := F0 m 19 ls [.int (nI z)]) rfl ?_
          rcases hz with ⟨rfl, hsd⟩ | ⟨rfl, d, hsd⟩
          · refine z_if_eq (tgt := 61) hx hb (by omega) dX4_other_19 (by decide) (fun hc6 => ?_) (fun hc6 => ?_)
            · refine lv_iconst (v := nI 0) hx hb dX4_other_61 rfl ?_
              exact z_iret hx hb hr hlocks ⟨nI 0, rfl, by unfold otherR; rw [hsd]⟩ hS dX4_other_62
            · exact absurd hc6 (by decide)
          · refine z_if_eq (tgt := 61) hx hb (by omega) dX4_other_19 (by decide) (fun hc7 => ?_) (fun hc7 => ?_)
            · exact absurd hc7 (by decide)
            · obtain ⟨hd, hsx⟩ := sideOf_some hsd
              subst hsx
              have hfd := hf d hsd
              refine lv_iload_n hx hb dX4_other_22 rfl (lv_at hl 5 rfl) ?_
              refine lv_if_lt (tgt := 61) hx hb dX4_other_23 (by decide) (fun hc8 => ?_) (fun hc8 => ?_)
              · exact absurd hc8 (nI_pos hx0)
              · refine lv_aload_n hx hb dX4_other_26 rfl (lv_at hl 2 rfl) ?_
                refine lv_iload_n hx hb dX4_other_27 rfl (lv_at hl 3 rfl) ?_
                refine lv_iload hx hb dX4_other_28 (lv_at hl 0 rfl) ?_
                refine z_callV (rest := []) 2 ⟨hx, hb, hml, hown, hts⟩ hK (c_own l G b L.length lf rt lo ro fo no lm rm pa mt q cf fa kp d k (by omega) (by omega)) gX4_other_X4_own rfl (by decide +kernel) ⟨Nat.le_of_ble_eq_true rfl, Nat.le_of_ble_eq_true rfl⟩ hP 0 rfl rfl rfl rfl hl.1 rfl (Nat.le_of_ble_eq_true rfl) dX4_other_30 ⟨Nat.le_refl _, Nat.le_refl _⟩ hS (fun _ h => h.elim) (fun v9 H9 locs hR9 hk9 hS => ?_)
                obtain rfl := hR9
                have hP := P_keep0 hP hk9
                clear hk9
                generalize H9 = H at hP hS ⊢
                refine W.eq (g2 := F0 m 33 ls [.int (ow d lf rt k)]) rfl ?_
                refine z_top (y := key d L k) (ow_key hMI hd (by omega)) ?_
                refine lv_iload_n hx hb dX4_other_33 rfl (lv_at hl 4 rfl) ?_
                refine lv_icmp_ne (tgt := 55) hx hb dX4_other_34 (by decide) (fun hc9 => ?_) (fun hc9 => ?_)
                · refine z_iinc (lv' := [(5, .int (nI (k + 1))), (4, .int (nI f)), (0, .ref (b 0)), (1, .int (nI d)), (2, .int (v)), (3, .int (nI x0))]) hx hb dX4_other_55 hl (k := 0) rfl (by decide) rfl (fun ls hl => ?_)
                  refine lv_goto (tgt := 6) hx hb dX4_other_58 (by decide) ?_
                  exact ih (k + 1) f H locs ls (by omega) (by omega) (fun e he => by rw [hsd] at he; cases he; rw [cnt_miss hc9]; exact hfd) hf2 hP hS (lv_sub hl [0, 1, 2, 3, 4, 5] rfl)
                · refine lv_iload hx hb dX4_other_37 (lv_at hl 1 rfl) ?_
                  refine z_if_ne (tgt := 52) hx hb (by omega) dX4_other_39 (by decide) (fun hc10 => ?_) (fun hc10 => ?_)
                  · obtain ⟨f1, rfl⟩ : ∃ z, f = z + 1 := ⟨f - 1, by omega⟩
                    refine z_iincm (lv' := [(4, .int (lk (pr (f1 + 1)))), (5, .int (nI k)), (0, .ref (b 0)), (1, .int (nI d)), (2, .int (v)), (3, .int (nI x0))]) hx hb dX4_other_52 hl (k := 1) rfl (by decide) rfl (fun ls hl => ?_)
                    have hl : lv_has ls 6 [(4, .int (nI f1)), (5, .int (nI k)), (0, .ref (b 0)), (1, .int (nI d)), (2, .int (v)), (3, .int (nI x0))] := hl
                    refine z_iinc (lv' := [(5, .int (nI (k + 1))), (4, .int (nI f1)), (0, .ref (b 0)), (1, .int (nI d)), (2, .int (v)), (3, .int (nI x0))]) hx hb dX4_other_55 hl (k := 1) rfl (by decide) rfl (fun ls hl => ?_)
                    refine lv_goto (tgt := 6) hx hb dX4_other_58 (by decide) ?_
                    exact ih (k + 1) f1 H locs ls (by omega) (by omega) (fun e he => by rw [hsd] at he; cases he; rw [cnt_hit hc9]; omega) (by omega) hP hS (lv_sub hl [0, 1, 2, 3, 4, 5] rfl)
                  · refine lv_aload_n hx hb dX4_other_42 rfl (lv_at hl 2 rfl) ?_
                    refine lv_iconst (v := nI 1) hx hb dX4_other_43 rfl ?_
                    refine lv_iload_n hx hb dX4_other_44 rfl (lv_at hl 3 rfl) ?_
                    refine lv_isub hx hb dX4_other_45 ?_
                    refine z_top (y := nI (1 - d)) (pk_sub (by omega)) ?_
                    refine lv_iload hx hb dX4_other_46 (lv_at hl 0 rfl) ?_
                    refine z_callV (rest := []) 2 ⟨hx, hb, hml, hown, hts⟩ hK (c_own l G b L.length lf rt lo ro fo no lm rm pa mt q cf fa kp (1 - d) k (by omega) (by omega)) gX4_other_X4_own rfl (by decide +kernel) ⟨Nat.le_of_ble_eq_true rfl, Nat.le_of_ble_eq_true rfl⟩ hP 0 rfl rfl rfl rfl hl.1 rfl (Nat.le_of_ble_eq_true rfl) dX4_other_48 ⟨Nat.le_refl _, Nat.le_refl _⟩ hS (fun _ h => h.elim) (fun v9 H9 locs hR9 hk9 hS => ?_)
                    obtain rfl := hR9
                    have hP := P_keep0 hP hk9
                    clear hk9
                    generalize H9 = H at hP hS ⊢
                    refine W.eq (g2 := F0 m 51 ls [.int (ow (1 - d) lf rt k)]) rfl ?_
                    exact z_iret hx hb hr hlocks ⟨_, rfl, by unfold otherR; rw [hsd]; exact ⟨some k, Or.inr ⟨k, rfl, by omega, hc9, by rw [hfd, hc10, Nat.zero_add]⟩, ow_key hMI (by omega) (by omega)⟩⟩ hS dX4_other_51
    exact loop (L.length + 1) 0 x0 _ _ ls (by omega) (by omega) (fun d _ => rfl) (Nat.le_refl _) hP hS (lv_sub hl [0, 1, 2, 3, 4, 5] rfl)

set_option maxHeartbeats 4000000 in
set_option maxRecDepth 100000 in
/-- the model: rename -/
theorem c_Rrename (l : Launch) (G : Gd) (b : Nat → Nat) (lf : Nat → Int32) (rt : Nat → Int32) (lo : Nat → Nat) (ro : Nat → Nat) (fo : Nat → Option Nat) (no : Nat → Option Nat) (lm : Nat) (rm : Nat) (pa : Nat → Option Nat) (mt : Nat → Int32) (q : Nat → Nat) (cf : Nat → Option Nat) (fa : Nat → Nat) (kp : Nat → Int32) (L : List Pr) (hMI : MI lf rt L) (sx v to : Int32) (hnd : (aR b).Nodup) : Mt l yX4_rename wsX4_rename 2 46 [.ref (b 0), .int (sx), .int (v), .int (to)] G (cR G b L.length lf rt lo ro fo no lm rm pa mt q cf fa kp) (fun q => q ∈ aR b) (fun r h => r = some (.int (renA L sx v to)) ∧ ∃ (lf' rt' kp' : Nat → Int32), MI lf' rt' (renL L sx v to) ∧ va_P G.1 vwCl (cR G b (renL L sx v to).length lf' rt' lo ro fo no lm rm pa mt q cf fa kp') h) := by
  refine Mt.mk cX4_rename 9 (some .int) (by decide) rfl (Nat.le_of_ble_eq_true rfl) ?_
  intro p9 e s m below meth c ls hx hb hr hml hts hown hlocks hP hK hl
  have hinX4 : ∀ w ∈ wsX40, w ∈ wsX4_rename := by decide +kernel
  have hS : va_S (fun q => q ∈ aR b) s.heap s.heap [] := va_S.rf
  have hl : lv_has ls 9 [(0, .ref (b 0)), (1, .int (sx)), (2, .int (v)), (3, .int (to))] := hl
  have hown : s.vm.findClass RX4 = some m.cls := hown
  have hDD : ∀ ws : va_W, ws.map Prod.fst = aR b → va_D (fun q => q ∈ aR b) ws := D_of hnd (fun q h => h)
  have hn := hMI.1
  refine lv_iload_n hx hb dX4_rename_0 rfl (lv_at hl 1 rfl) ?_
  refine z_callS (rest := []) 1 ⟨hx, hb, hml, hown, hts⟩ hK (c_isSide4 l G sx) gX4_rename_X4_isSide rfl (by decide +kernel) ⟨Nat.le_of_ble_eq_true rfl, Nat.le_of_ble_eq_true rfl⟩ P_nil rfl hl.1 rfl (Nat.le_of_ble_eq_true rfl) dX4_rename_1 ⟨Nat.le_refl _, Nat.le_refl _⟩ hS (fun _ h => h.elim) (fun v9 H9 locs hR9 hk9 hS => ?_)
  obtain ⟨z, rfl, hz⟩ := hR9
  have hP := P_keep0 hP hk9
  clear hk9
  generalize H9 = H at hP hS ⊢
  refine W.eq (g2 := F0 m 4 ls [.int (nI z)]) rfl ?_
  rcases hz with ⟨rfl, hsd⟩ | ⟨rfl, d, hsd⟩
  · refine z_if_eq (tgt := 12) hx hb (by omega) dX4_rename_4 (by decide) (fun hc1 => ?_) (fun hc1 => ?_)
    · refine lv_iconst (v := (-1)) hx hb dX4_rename_12 rfl ?_
      exact z_iret hx hb hr hlocks ⟨by unfold renA; rw [hsd], lf, rt, kp, by unfold renL; rw [hsd]; exact ⟨hMI, hP⟩⟩ hS dX4_rename_13
    · exact absurd hc1 (by decide)
  · refine z_if_eq (tgt := 12) hx hb (by omega) dX4_rename_4 (by decide) (fun hc2 => ?_) (fun hc2 => ?_)
    · exact absurd hc2 (by decide)
    · obtain ⟨hd, hsx⟩ := sideOf_some hsd
      subst hsx
      refine lv_iload_n hx hb dX4_rename_7 rfl (lv_at hl 2 rfl) ?_
      refine lv_iload_n hx hb dX4_rename_8 rfl (lv_at hl 3 rfl) ?_
      refine lv_icmp_ne (tgt := 14) hx hb dX4_rename_9 (by decide) (fun hc3 => ?_) (fun hc3 => ?_)
      · have hvt : ¬ v = to := hc3
        have hrA : renA L (nI d) v to = nI (ren d v to (wo d v L) L).2 := by unfold renA; rw [hsd]; exact if_neg hvt
        have hrL : renL L (nI d) v to = wo d v L ++ (ren d v to (wo d v L) L).1 := by unfold renL; rw [hsd]; exact if_neg hvt
        refine lv_iconst (v := nI 0) hx hb dX4_rename_14 rfl ?_
        refine lv_istore (lv' := [(4, .int (nI 0)), (0, .ref (b 0)), (1, .int (nI d)), (2, .int (v)), (3, .int (to))]) hx hb dX4_rename_15 hl (by decide) rfl (fun ls hl => ?_)
        refine lv_iconst (v := nI 0) hx hb dX4_rename_17 rfl ?_
        refine lv_istore (lv' := [(5, .int (nI 0)), (4, .int (nI 0)), (0, .ref (b 0)), (1, .int (nI d)), (2, .int (v)), (3, .int (to))]) hx hb dX4_rename_18 hl (by decide) rfl (fun ls hl => ?_)
        have loop : ∀ (k9 : Nat) (k : Nat) (kp : Nat → Int32) (H : Heap) (locs : List Loc) (ls : Array Slot), (L.length < k + k9) → (k ≤ L.length) → (∀ j, j < (keptL d v (L.take k)).length → kp j = (keptL d v (L.take k)).getD j 0) → va_P G.1 vwCl (cR G b L.length lf rt lo ro fo no lm rm pa mt q cf fa kp) H → va_S (fun q => q ∈ aR b) s.heap H locs → lv_has ls 9 [(5, .int (nI k)), (4, .int (nI ((keptL d v (L.take k)).length))), (0, .ref (b 0)), (1, .int (nI d)), (2, .int (v)), (3, .int (to))] → Wz p9 l e 2 46 s m [.ref (b 0), .int (nI d), .int (v), .int (to)] below meth c (fun q => q ∈ aR b) (fun r h => r = some (.int (renA L (nI d) v to)) ∧ ∃ (lf' rt' kp' : Nat → Int32), MI lf' rt' (renL L (nI d) v to) ∧ va_P G.1 vwCl (cR G b (renL L (nI d) v to).length lf' rt' lo ro fo no lm rm pa mt q cf fa kp') h) H locs (F0 m 20 ls []) := by
          intro k9
          induction k9 with
          | zero =>
            intro k kp H locs ls hfuel hk hkp hP hS hl
            exact absurd hfuel (by omega)
          | succ k9 ih =>
            intro k kp H locs ls hfuel hk hkp hP hS hl
            have hkl : (keptL d v (L.take k)).length ≤ k := by have h1 := kept_len d v (L.take k); rw [List.length_take] at h1; omega
            refine lv_iload hx hb dX4_rename_20 (lv_at hl 0 rfl) ?_
            refine lv_aload_n hx hb dX4_rename_22 rfl (lv_at hl 2 rfl) ?_
            refine va_get (D := G.1) (ci := 4) (v := .int (nI L.length)) (C := RX4) (T := TX4) (N := 15) hx hb hts hinX4 hown hK.1 hP 0 rfl rfl 0 (by decide) (hts (.fieldLink RX4 47 "PairThreadsModel" "many" "I") (by decide +kernel)) (fun _ h9 => h9) rfl dX4_rename_23 ?_
            refine z_icmp_ge (tgt := 65) hx hb (by omega) (by omega) dX4_rename_26 (by decide) (fun hc4 => ?_) (fun hc4 => ?_)
            · have he : k = L.length := by omega
              subst he
              rw [List.take_length] at hkp hkl hl
              refine lv_aload_n hx hb dX4_rename_65 rfl (lv_at hl 2 rfl) ?_
              refine lv_iload_n hx hb dX4_rename_66 rfl (lv_at hl 3 rfl) ?_
              refine lv_iload_n hx hb dX4_rename_67 rfl (lv_at hl 4 rfl) ?_
              refine z_callV (rest := []) 2 ⟨hx, hb, hml, hown, hts⟩ hK (c_Rdrop l G b lf rt lo ro fo no lm rm pa mt q cf fa kp L hMI (nI d) v hnd) gX4_rename_X4_drop rfl (by decide +kernel) ⟨Nat.le_of_ble_eq_true rfl, Nat.le_of_ble_eq_true rfl⟩ hP 0 rfl rfl rfl rfl hl.1 rfl (Nat.le_of_ble_eq_true rfl) dX4_rename_68 ⟨Nat.le_refl _, Nat.le_refl _⟩ hS (fun _ h => h) (fun v9 H9 locs hR9 hk9 hS => ?_)
              obtain ⟨rfl, lf2, rt2, hMI2, hP⟩ := hR9
              clear hk9
              generalize H9 = H at hP hS ⊢
              refine W.eq (g2 := F0 m 71 ls [.int (degA L (nI d) v)]) rfl ?_
              have hdl : dropL L (nI d) v = wo d v L := by unfold dropL; rw [hsd]
              rw [hdl] at hMI2 hP
              have hwk := kept_wo d v L
              refine lv_pop hx hb dX4_rename_71 rfl ?_
              refine lv_iconst (v := nI 0) hx hb dX4_rename_72 rfl ?_
              refine lv_istore (lv' := [(5, .int (nI 0)), (4, .int (nI ((keptL d v (L)).length))), (0, .ref (b 0)), (1, .int (nI d)), (2, .int (v)), (3, .int (to))]) hx hb dX4_rename_73 hl (by decide) rfl (fun ls hl => ?_)
              refine lv_iconst (v := nI 0) hx hb dX4_rename_75 rfl ?_
              refine lv_istore (lv' := [(6, .int (nI 0)), (5, .int (nI 0)), (4, .int (nI ((keptL d v (L)).length))), (0, .ref (b 0)), (1, .int (nI d)), (2, .int (v)), (3, .int (to))]) hx hb dX4_rename_76 hl (by decide) rfl (fun ls hl => ?_)
              have loop2 : ∀ (k9 : Nat) (k : Nat) (M : List Pr) (lf : Nat → Int32) (rt : Nat → Int32) (H : Heap) (locs : List Loc) (ls : Array Slot), ((keptL d v L).length < k + k9) → (k ≤ (keptL d v L).length) → (M = wo d v L ++ (((keptL d v L).take k).foldl (renT d to (wo d v L)) ([], 0)).1) → (MI lf rt M) → va_P G.1 vwCl (cR G b M.length lf rt lo ro fo no lm rm pa mt q cf fa kp) H → va_S (fun q => q ∈ aR b) s.heap H locs → lv_has ls 9 [(6, .int (nI k)), (5, .int (nI ((((keptL d v L).take k).foldl (renT d to (wo d v L)) ([], 0)).2))), (4, .int (nI ((keptL d v L).length))), (0, .ref (b 0)), (1, .int (nI d)), (2, .int (v)), (3, .int (to))] → Wz p9 l e 2 46 s m [.ref (b 0), .int (nI d), .int (v), .int (to)] below meth c (fun q => q ∈ aR b) (fun r h => r = some (.int (renA L (nI d) v to)) ∧ ∃ (lf' rt' kp' : Nat → Int32), MI lf' rt' (renL L (nI d) v to) ∧ va_P G.1 vwCl (cR G b (renL L (nI d) v to).length lf' rt' lo ro fo no lm rm pa mt q cf fa kp') h) H locs (F0 m 78 ls []) := by
                intro k9
                induction k9 with
                | zero =>
                  intro k M lf rt H locs ls hfuel hk hM hMI hP hS hl
                  exact absurd hfuel (by omega)
                | succ k9 ih =>
                  intro k M lf rt H locs ls hfuel hk hM hMI hP hS hl
                  have hrl := renT_len d to (wo d v L) (keptL d v L) k hk
                  refine lv_iload hx hb dX4_rename_78 (lv_at hl 0 rfl) ?_
                  refine lv_iload hx hb dX4_rename_80 (lv_at hl 2 rfl) ?_
                  refine z_icmp_ge (tgt := 148) hx hb (by omega) (by omega) dX4_rename_82 (by decide) (fun hc5 => ?_) (fun hc5 => ?_)
                  · have he : k = (keptL d v L).length := by omega
                    subst he
                    refine lv_iload hx hb dX4_rename_148 (lv_at hl 1 rfl) ?_
                    rw [List.take_length, ← ren_kept] at hM
                    exact z_iret hx hb hr hlocks ⟨by rw [List.take_length, ← ren_kept, hrA], lf, rt, kp, by rw [hrL, ← hM]; exact ⟨hMI, hP⟩⟩ hS dX4_rename_150
                  · have htk := take_succ_i (keptL d v L) (show k < (keptL d v L).length by omega)
                    have hkk := hkp k (by omega)
                    obtain ⟨st, hst⟩ : ∃ z, z = ((keptL d v L).take k).foldl (renT d to (wo d v L)) ([], 0) := ⟨_, rfl⟩
                    rw [← hst] at hM hrl
                    have hl : lv_has ls 9 [(6, .int (nI k)), (5, .int (nI st.2)), (4, .int (nI ((keptL d v L).length))), (0, .ref (b 0)), (1, .int (nI d)), (2, .int (v)), (3, .int (to))] := by rw [hst]; exact hl
                    have hS1 : ((keptL d v L).take (k + 1)).foldl (renT d to (wo d v L)) ([], 0) = renT d to (wo d v L) st ((keptL d v L).getD k 0) := by rw [htk, List.foldl_append, ← hst]; rfl
                    refine lv_iload_n hx hb dX4_rename_85 rfl (lv_at hl 4 rfl) ?_
                    refine z_if_ne (tgt := 93) hx hb (by omega) dX4_rename_86 (by decide) (fun hc6 => ?_) (fun hc6 => ?_)
                    · refine lv_aload_n hx hb dX4_rename_93 rfl (lv_at hl 3 rfl) ?_
                      refine va_get (D := G.1) (ci := 4) (v := .ref (b 12)) (C := RX4) (T := TX4) (N := 15) hx hb hts hinX4 hown hK.1 hP 0 rfl rfl 14 (by decide) (hts (.fieldLink RX4 44 "PairThreadsModel" "kept" "[I") (by decide +kernel)) (fun _ h9 => h9) rfl dX4_rename_94 ?_
                      refine lv_iload hx hb dX4_rename_97 (lv_at hl 0 rfl) ?_
                      refine z_iald hx hb hK hP 12 rfl (j := k) (by omega) (by decide) dX4_rename_99 ?_
                      refine lv_istore (lv' := [(7, .int (kp k)), (6, .int (nI k)), (5, .int (nI st.2)), (4, .int (nI ((keptL d v L).length))), (0, .ref (b 0)), (1, .int (nI d)), (2, .int (v)), (3, .int (to))]) hx hb dX4_rename_100 hl (by decide) rfl (fun ls hl => ?_)
                      refine lv_iload_n hx hb dX4_rename_102 rfl (lv_at hl 5 rfl) ?_
                      refine z_if_ne (tgt := 116) hx hb (by omega) dX4_rename_103 (by decide) (fun hc7 => ?_) (fun hc7 => ?_)
                      · refine lv_iload_n hx hb dX4_rename_116 rfl (lv_at hl 7 rfl) ?_
                        refine lv_istore (lv' := [(8, .int (to)), (7, .int (kp k)), (6, .int (nI k)), (5, .int (nI st.2)), (4, .int (nI ((keptL d v L).length))), (0, .ref (b 0)), (1, .int (nI d)), (2, .int (v)), (3, .int (to))]) hx hb dX4_rename_117 hl (by decide) rfl (fun ls hl => ?_)
                        have hxy : (kp k, to) = mkp d to ((keptL d v L).getD k 0) := by unfold mkp; rw [if_neg hc6, hkk]
                        refine lv_aload_n hx hb dX4_rename_119 rfl (lv_at hl 5 rfl) ?_
                        refine lv_iload hx hb dX4_rename_120 (lv_at hl 1 rfl) ?_
                        refine lv_iload hx hb dX4_rename_122 (lv_at hl 0 rfl) ?_
                        refine z_callV (rest := []) 2 ⟨hx, hb, hml, hown, hts⟩ hK (c_find l G b lf rt lo ro fo no lm rm pa mt q cf fa kp M hMI (kp k) to) gX4_rename_X4_find rfl (by decide +kernel) ⟨Nat.le_of_ble_eq_true rfl, Nat.le_of_ble_eq_true rfl⟩ hP 0 rfl rfl rfl rfl hl.1 rfl (Nat.le_of_ble_eq_true rfl) dX4_rename_124 ⟨Nat.le_refl _, Nat.le_refl _⟩ hS (fun _ h => h.elim) (fun v9 H9 locs hR9 hk9 hS => ?_)
                        obtain ⟨o, rfl, ho⟩ := hR9
                        have hP := P_keep0 hP hk9
                        clear hk9
                        generalize H9 = H at hP hS ⊢
                        refine W.eq (g2 := F0 m 127 ls [.int (lk o)]) rfl ?_
                        refine lv_iconst (v := (-1)) hx hb dX4_rename_127 rfl ?_
                        refine z_none_ne (tgt := 142) hx hb (fun k hk => by have := posR_lt ho k hk; have := hMI.1; omega) dX4_rename_128 (by decide) (fun k2 hc8 => ?_) (fun hc8 => ?_)
                        · have hin : mkp d to ((keptL d v L).getD k 0) ∈ wo d v L ++ st.1 := by rw [← hxy, ← hM]; exact Decidable.byContradiction (fun z => by rw [(posR_none ho).mpr z] at hc8; cases hc8)
                          have hS2 := hS1.trans (if_pos hin)
                          refine z_iinc (lv' := [(6, .int (nI (k + 1))), (8, .int (to)), (7, .int (kp k)), (5, .int (nI st.2)), (4, .int (nI ((keptL d v L).length))), (0, .ref (b 0)), (1, .int (nI d)), (2, .int (v)), (3, .int (to))]) hx hb dX4_rename_142 hl (k := 2) rfl (by decide) rfl (fun ls hl => ?_)
                          refine lv_goto (tgt := 78) hx hb dX4_rename_145 (by decide) ?_
                          have hl : lv_has ls 9 [(6, .int (nI (k + 1))), (8, .int (to)), (7, .int (kp k)), (5, .int (nI ((((keptL d v L).take (k + 1)).foldl (renT d to (wo d v L)) ([], 0)).2))), (4, .int (nI ((keptL d v L).length))), (0, .ref (b 0)), (1, .int (nI d)), (2, .int (v)), (3, .int (to))] := by rw [hS2]; exact hl
                          exact ih (k + 1) M lf rt H locs ls (by omega) (by omega) (by rw [hS2]; exact hM) hMI hP hS (lv_sub hl [0, 3, 4, 5, 6, 7, 8] rfl)
                        · have hout : ¬ mkp d to ((keptL d v L).getD k 0) ∈ wo d v L ++ st.1 := by rw [← hxy, ← hM]; exact (posR_none ho).mp hc8
                          have hS2 := hS1.trans (if_neg hout)
                          have hMl : M.length < 300 := by rw [hM, List.length_append]; omega
                          refine lv_aload_n hx hb dX4_rename_131 rfl (lv_at hl 5 rfl) ?_
                          refine lv_iload hx hb dX4_rename_132 (lv_at hl 1 rfl) ?_
                          refine lv_iload hx hb dX4_rename_134 (lv_at hl 0 rfl) ?_
                          refine z_callV (rest := []) 2 ⟨hx, hb, hml, hown, hts⟩ hK (c_add l G b lf rt lo ro fo no lm rm pa mt q cf fa kp M hMI (kp k) to hMl hnd) gX4_rename_X4_add rfl (by decide +kernel) ⟨Nat.le_of_ble_eq_true rfl, Nat.le_of_ble_eq_true rfl⟩ hP 0 rfl rfl rfl rfl hl.1 rfl (Nat.le_of_ble_eq_true rfl) dX4_rename_136 ⟨Nat.le_refl _, Nat.le_refl _⟩ hS (fun _ h => h) (fun v9 H9 locs hR9 hk9 hS => ?_)
                          obtain ⟨rfl, lf3, rt3, hMI3, hP⟩ := hR9
                          clear hk9
                          generalize H9 = H at hP hS ⊢
                          refine W.eq (g2 := F0 m 139 ls []) rfl ?_
                          obtain ⟨M3, eM3⟩ : ∃ z, z = M ++ [(kp k, to)] := ⟨_, rfl⟩
                          rw [← eM3] at hMI3 hP
                          refine z_iinc (lv' := [(5, .int (nI (st.2 + 1))), (8, .int (to)), (7, .int (kp k)), (6, .int (nI k)), (4, .int (nI ((keptL d v L).length))), (0, .ref (b 0)), (1, .int (nI d)), (2, .int (v)), (3, .int (to))]) hx hb dX4_rename_139 hl (k := 3) rfl (by decide) rfl (fun ls hl => ?_)
                          refine z_iinc (lv' := [(6, .int (nI (k + 1))), (5, .int (nI (st.2 + 1))), (8, .int (to)), (7, .int (kp k)), (4, .int (nI ((keptL d v L).length))), (0, .ref (b 0)), (1, .int (nI d)), (2, .int (v)), (3, .int (to))]) hx hb dX4_rename_142 hl (k := 3) rfl (by decide) rfl (fun ls hl => ?_)
                          refine lv_goto (tgt := 78) hx hb dX4_rename_145 (by decide) ?_
                          have hl : lv_has ls 9 [(6, .int (nI (k + 1))), (5, .int (nI ((((keptL d v L).take (k + 1)).foldl (renT d to (wo d v L)) ([], 0)).2))), (8, .int (to)), (7, .int (kp k)), (4, .int (nI ((keptL d v L).length))), (0, .ref (b 0)), (1, .int (nI d)), (2, .int (v)), (3, .int (to))] := by rw [hS2]; exact hl
                          exact ih (k + 1) M3 lf3 rt3 H locs ls (by omega) (by omega) (by rw [hS2, eM3, hM, hxy, List.append_assoc]) hMI3 hP hS (lv_sub hl [0, 1, 4, 5, 6, 7, 8] rfl)
                      · exact absurd hc7 hc6
                    · refine lv_iload_n hx hb dX4_rename_89 rfl (lv_at hl 6 rfl) ?_
                      refine lv_goto (tgt := 100) hx hb dX4_rename_90 (by decide) ?_
                      refine lv_istore (lv' := [(7, .int (to)), (6, .int (nI k)), (5, .int (nI st.2)), (4, .int (nI ((keptL d v L).length))), (0, .ref (b 0)), (1, .int (nI d)), (2, .int (v)), (3, .int (to))]) hx hb dX4_rename_100 hl (by decide) rfl (fun ls hl => ?_)
                      refine lv_iload_n hx hb dX4_rename_102 rfl (lv_at hl 5 rfl) ?_
                      refine z_if_ne (tgt := 116) hx hb (by omega) dX4_rename_103 (by decide) (fun hc9 => ?_) (fun hc9 => ?_)
                      · exact absurd hc6 hc9
                      · refine lv_aload_n hx hb dX4_rename_106 rfl (lv_at hl 4 rfl) ?_
                        refine va_get (D := G.1) (ci := 4) (v := .ref (b 12)) (C := RX4) (T := TX4) (N := 15) hx hb hts hinX4 hown hK.1 hP 0 rfl rfl 14 (by decide) (hts (.fieldLink RX4 44 "PairThreadsModel" "kept" "[I") (by decide +kernel)) (fun _ h9 => h9) rfl dX4_rename_107 ?_
                        refine lv_iload hx hb dX4_rename_110 (lv_at hl 1 rfl) ?_
                        refine z_iald hx hb hK hP 12 rfl (j := k) (by omega) (by decide) dX4_rename_112 ?_
                        refine lv_goto (tgt := 117) hx hb dX4_rename_113 (by decide) ?_
                        refine lv_istore (lv' := [(8, .int (kp k)), (7, .int (to)), (6, .int (nI k)), (5, .int (nI st.2)), (4, .int (nI ((keptL d v L).length))), (0, .ref (b 0)), (1, .int (nI d)), (2, .int (v)), (3, .int (to))]) hx hb dX4_rename_117 hl (by decide) rfl (fun ls hl => ?_)
                        have hxy : (to, kp k) = mkp d to ((keptL d v L).getD k 0) := by unfold mkp; rw [if_pos hc6, hkk]
                        refine lv_aload_n hx hb dX4_rename_119 rfl (lv_at hl 5 rfl) ?_
                        refine lv_iload hx hb dX4_rename_120 (lv_at hl 1 rfl) ?_
                        refine lv_iload hx hb dX4_rename_122 (lv_at hl 0 rfl) ?_
                        refine z_callV (rest := []) 2 ⟨hx, hb, hml, hown, hts⟩ hK (c_find l G b lf rt lo ro fo no lm rm pa mt q cf fa kp M hMI to (kp k)) gX4_rename_X4_find rfl (by decide +kernel) ⟨Nat.le_of_ble_eq_true rfl, Nat.le_of_ble_eq_true rfl⟩ hP 0 rfl rfl rfl rfl hl.1 rfl (Nat.le_of_ble_eq_true rfl) dX4_rename_124 ⟨Nat.le_refl _, Nat.le_refl _⟩ hS (fun _ h => h.elim) (fun v9 H9 locs hR9 hk9 hS => ?_)
                        obtain ⟨o, rfl, ho⟩ := hR9
                        have hP := P_keep0 hP hk9
                        clear hk9
                        generalize H9 = H at hP hS ⊢
                        refine W.eq (g2 := F0 m 127 ls [.int (lk o)]) rfl ?_
                        refine lv_iconst (v := (-1)) hx hb dX4_rename_127 rfl ?_
                        refine z_none_ne (tgt := 142) hx hb (fun k hk => by have := posR_lt ho k hk; have := hMI.1; omega) dX4_rename_128 (by decide) (fun k2 hc10 => ?_) (fun hc10 => ?_)
                        · have hin : mkp d to ((keptL d v L).getD k 0) ∈ wo d v L ++ st.1 := by rw [← hxy, ← hM]; exact Decidable.byContradiction (fun z => by rw [(posR_none ho).mpr z] at hc10; cases hc10)
                          have hS2 := hS1.trans (if_pos hin)
                          refine z_iinc (lv' := [(6, .int (nI (k + 1))), (8, .int (kp k)), (7, .int (to)), (5, .int (nI st.2)), (4, .int (nI ((keptL d v L).length))), (0, .ref (b 0)), (1, .int (nI d)), (2, .int (v)), (3, .int (to))]) hx hb dX4_rename_142 hl (k := 2) rfl (by decide) rfl (fun ls hl => ?_)
                          refine lv_goto (tgt := 78) hx hb dX4_rename_145 (by decide) ?_
                          have hl : lv_has ls 9 [(6, .int (nI (k + 1))), (8, .int (kp k)), (7, .int (to)), (5, .int (nI ((((keptL d v L).take (k + 1)).foldl (renT d to (wo d v L)) ([], 0)).2))), (4, .int (nI ((keptL d v L).length))), (0, .ref (b 0)), (1, .int (nI d)), (2, .int (v)), (3, .int (to))] := by rw [hS2]; exact hl
                          exact ih (k + 1) M lf rt H locs ls (by omega) (by omega) (by rw [hS2]; exact hM) hMI hP hS (lv_sub hl [0, 3, 4, 5, 6, 7, 8] rfl)
                        · have hout : ¬ mkp d to ((keptL d v L).getD k 0) ∈ wo d v L ++ st.1 := by rw [← hxy, ← hM]; exact (posR_none ho).mp hc10
                          have hS2 := hS1.trans (if_neg hout)
                          have hMl : M.length < 300 := by rw [hM, List.length_append]; omega
                          refine lv_aload_n hx hb dX4_rename_131 rfl (lv_at hl 5 rfl) ?_
                          refine lv_iload hx hb dX4_rename_132 (lv_at hl 1 rfl) ?_
                          refine lv_iload hx hb dX4_rename_134 (lv_at hl 0 rfl) ?_
                          refine z_callV (rest := []) 2 ⟨hx, hb, hml, hown, hts⟩ hK (c_add l G b lf rt lo ro fo no lm rm pa mt q cf fa kp M hMI to (kp k) hMl hnd) gX4_rename_X4_add rfl (by decide +kernel) ⟨Nat.le_of_ble_eq_true rfl, Nat.le_of_ble_eq_true rfl⟩ hP 0 rfl rfl rfl rfl hl.1 rfl (Nat.le_of_ble_eq_true rfl) dX4_rename_136 ⟨Nat.le_refl _, Nat.le_refl _⟩ hS (fun _ h => h) (fun v9 H9 locs hR9 hk9 hS => ?_)
                          obtain ⟨rfl, lf3, rt3, hMI3, hP⟩ := hR9
                          clear hk9
                          generalize H9 = H at hP hS ⊢
                          refine W.eq (g2 := F0 m 139 ls []) rfl ?_
                          obtain ⟨M3, eM3⟩ : ∃ z, z = M ++ [(to, kp k)] := ⟨_, rfl⟩
                          rw [← eM3] at hMI3 hP
                          refine z_iinc (lv' := [(5, .int (nI (st.2 + 1))), (8, .int (kp k)), (7, .int (to)), (6, .int (nI k)), (4, .int (nI ((keptL d v L).length))), (0, .ref (b 0)), (1, .int (nI d)), (2, .int (v)), (3, .int (to))]) hx hb dX4_rename_139 hl (k := 3) rfl (by decide) rfl (fun ls hl => ?_)
                          refine z_iinc (lv' := [(6, .int (nI (k + 1))), (5, .int (nI (st.2 + 1))), (8, .int (kp k)), (7, .int (to)), (4, .int (nI ((keptL d v L).length))), (0, .ref (b 0)), (1, .int (nI d)), (2, .int (v)), (3, .int (to))]) hx hb dX4_rename_142 hl (k := 3) rfl (by decide) rfl (fun ls hl => ?_)
                          refine lv_goto (tgt := 78) hx hb dX4_rename_145 (by decide) ?_
                          have hl : lv_has ls 9 [(6, .int (nI (k + 1))), (5, .int (nI ((((keptL d v L).take (k + 1)).foldl (renT d to (wo d v L)) ([], 0)).2))), (8, .int (kp k)), (7, .int (to)), (4, .int (nI ((keptL d v L).length))), (0, .ref (b 0)), (1, .int (nI d)), (2, .int (v)), (3, .int (to))] := by rw [hS2]; exact hl
                          exact ih (k + 1) M3 lf3 rt3 H locs ls (by omega) (by omega) (by rw [hS2, eM3, hM, hxy, List.append_assoc]) hMI3 hP hS (lv_sub hl [0, 1, 4, 5, 6, 7, 8] rfl)
              exact loop2 ((keptL d v L).length + 1) 0 (wo d v L) lf2 rt2 _ _ ls (by omega) (by omega) (by simp) hMI2 hP hS (lv_sub hl [0, 1, 2, 3, 4, 5, 6] rfl)
            · have hks := kept_snoc (d := d) (v := v) (show k < L.length by omega)
              refine lv_aload_n hx hb dX4_rename_29 rfl (lv_at hl 2 rfl) ?_
              refine lv_iload_n hx hb dX4_rename_30 rfl (lv_at hl 3 rfl) ?_
              refine lv_iload hx hb dX4_rename_31 (lv_at hl 0 rfl) ?_
              refine z_callV (rest := []) 2 ⟨hx, hb, hml, hown, hts⟩ hK (c_own l G b L.length lf rt lo ro fo no lm rm pa mt q cf fa kp d k (by omega) (by omega)) gX4_rename_X4_own rfl (by decide +kernel) ⟨Nat.le_of_ble_eq_true rfl, Nat.le_of_ble_eq_true rfl⟩ hP 0 rfl rfl rfl rfl hl.1 rfl (Nat.le_of_ble_eq_true rfl) dX4_rename_33 ⟨Nat.le_refl _, Nat.le_refl _⟩ hS (fun _ h => h.elim) (fun v9 H9 locs hR9 hk9 hS => ?_)
              obtain rfl := hR9
              have hP := P_keep0 hP hk9
              clear hk9
              generalize H9 = H at hP hS ⊢
              refine W.eq (g2 := F0 m 36 ls [.int (ow d lf rt k)]) rfl ?_
              refine z_top (y := key d L k) (ow_key hMI hd (by omega)) ?_
              refine lv_iload_n hx hb dX4_rename_36 rfl (lv_at hl 4 rfl) ?_
              refine lv_icmp_ne (tgt := 59) hx hb dX4_rename_37 (by decide) (fun hc11 => ?_) (fun hc11 => ?_)
              · rw [if_neg hc11, List.append_nil] at hks
                refine z_iinc (lv' := [(5, .int (nI (k + 1))), (4, .int (nI ((keptL d v (L.take k)).length))), (0, .ref (b 0)), (1, .int (nI d)), (2, .int (v)), (3, .int (to))]) hx hb dX4_rename_59 hl (k := 0) rfl (by decide) rfl (fun ls hl => ?_)
                refine lv_goto (tgt := 20) hx hb dX4_rename_62 (by decide) ?_
                have hl : lv_has ls 9 [(5, .int (nI (k + 1))), (4, .int (nI ((keptL d v (L.take (k + 1))).length))), (0, .ref (b 0)), (1, .int (nI d)), (2, .int (v)), (3, .int (to))] := by rw [hks]; exact hl
                exact ih (k + 1) kp H locs ls (by omega) (by omega) (by rw [hks]; exact hkp) hP hS (lv_sub hl [0, 1, 2, 3, 4, 5] rfl)
              · rw [if_pos hc11] at hks
                refine lv_aload_n hx hb dX4_rename_40 rfl (lv_at hl 2 rfl) ?_
                refine va_get (D := G.1) (ci := 4) (v := .ref (b 12)) (C := RX4) (T := TX4) (N := 15) hx hb hts hinX4 hown hK.1 hP 0 rfl rfl 14 (by decide) (hts (.fieldLink RX4 44 "PairThreadsModel" "kept" "[I") (by decide +kernel)) (fun _ h9 => h9) rfl dX4_rename_41 ?_
                refine lv_iload hx hb dX4_rename_44 (lv_at hl 1 rfl) ?_
                refine lv_aload_n hx hb dX4_rename_46 rfl (lv_at hl 2 rfl) ?_
                refine lv_iconst (v := nI 1) hx hb dX4_rename_47 rfl ?_
                refine lv_iload_n hx hb dX4_rename_48 rfl (lv_at hl 3 rfl) ?_
                refine lv_isub hx hb dX4_rename_49 ?_
                refine z_top (y := nI (1 - d)) (pk_sub (by omega)) ?_
                refine lv_iload hx hb dX4_rename_50 (lv_at hl 0 rfl) ?_
                refine z_callV (rest := [.int (nI ((keptL d v (L.take k)).length)), .ref (b 12)]) 2 ⟨hx, hb, hml, hown, hts⟩ hK (c_own l G b L.length lf rt lo ro fo no lm rm pa mt q cf fa kp (1 - d) k (by omega) (by omega)) gX4_rename_X4_own rfl (by decide +kernel) ⟨Nat.le_of_ble_eq_true rfl, Nat.le_of_ble_eq_true rfl⟩ hP 0 rfl rfl rfl rfl hl.1 rfl (Nat.le_of_ble_eq_true rfl) dX4_rename_52 ⟨Nat.le_refl _, Nat.le_refl _⟩ hS (fun _ h => h.elim) (fun v9 H9 locs hR9 hk9 hS => ?_)
                obtain rfl := hR9
                have hP := P_keep0 hP hk9
                clear hk9
                generalize H9 = H at hP hS ⊢
                refine W.eq (g2 := F0 m 55 ls [.int (ow (1 - d) lf rt k), .int (nI ((keptL d v (L.take k)).length)), .ref (b 12)]) rfl ?_
                refine z_top (y := key (1 - d) L k) (ow_key hMI (by omega) (by omega)) ?_
                refine z_iast hx hb hK hP (hDD _ rfl) hS 12 rfl (j := (keptL d v (L.take k)).length) (by omega) (by decide) dX4_rename_55 (fun H locs hP hS => ?_)
                have hP : va_P G.1 vwCl (cR G b L.length lf rt lo ro fo no lm rm pa mt q cf fa (upd kp ((keptL d v (L.take k)).length) (key (1 - d) L k))) H := hP
                refine z_iinc (lv' := [(4, .int (nI ((keptL d v (L.take k)).length + 1))), (5, .int (nI k)), (0, .ref (b 0)), (1, .int (nI d)), (2, .int (v)), (3, .int (to))]) hx hb dX4_rename_56 hl (k := 1) rfl (by decide) rfl (fun ls hl => ?_)
                refine z_iinc (lv' := [(5, .int (nI (k + 1))), (4, .int (nI ((keptL d v (L.take k)).length + 1))), (0, .ref (b 0)), (1, .int (nI d)), (2, .int (v)), (3, .int (to))]) hx hb dX4_rename_59 hl (k := 1) rfl (by decide) rfl (fun ls hl => ?_)
                refine lv_goto (tgt := 20) hx hb dX4_rename_62 (by decide) ?_
                have hl : lv_has ls 9 [(5, .int (nI (k + 1))), (4, .int (nI ((keptL d v (L.take (k + 1))).length))), (0, .ref (b 0)), (1, .int (nI d)), (2, .int (v)), (3, .int (to))] := by rw [hks, List.length_append]; exact hl
                exact ih (k + 1) (upd kp ((keptL d v (L.take k)).length) (key (1 - d) L k)) H locs ls (by omega) (by omega) (by rw [hks]; exact kept_put hkp) hP hS (lv_sub hl [0, 1, 2, 3, 4, 5] rfl)
        exact loop (L.length + 1) 0 kp _ _ ls (by omega) (by omega) (fun j hj => absurd hj (Nat.not_lt_zero j)) hP hS (lv_sub hl [0, 1, 2, 3, 4, 5] rfl)
      · refine lv_iconst (v := (-1)) hx hb dX4_rename_12 rfl ?_
        exact z_iret hx hb hr hlocks ⟨by unfold renA; rw [hsd]; exact (congrArg (fun z => some (Value.int z)) (if_pos hc3)).symm, lf, rt, kp, by unfold renL; rw [hsd]; dsimp only; rw [if_pos hc3]; exact ⟨hMI, hP⟩⟩ hS dX4_rename_13
end
section
/-! the class itself: its cells beside those of its Threads -/
def aP (a : Nat → Nat) : List Nat := aT a ++ [a 27]
def cPL (G : Gd) (a : Nat → Nat) (L : List Pr) (h : Heap) : Prop := ∃ (p : Nat → Nat) (N : Nat → Nat → Int32) (B F : Nat → Nat → Option Nat), TI p N B F L ∧ va_P G.1 vwCl (cT G a p N B F L.length ++ cP a) h
theorem aP_T {a : Nat → Nat} (h : (aP a).Nodup) : (aT a).Nodup := (List.nodup_append.mp h).1
theorem aP_sep {a : Nat → Nat} (h : (aP a).Nodup) : ∀ q ∈ (cP a).map Prod.fst, ¬ (fun q => q ∈ aT a) q := by
  intro q hq hm
  have h1 : q ∈ [a 27] := hq
  exact (List.nodup_append.mp h).2.2 q hm q h1 rfl
theorem TI_clear {p : Nat → Nat} {N : Nat → Nat → Int32} {B F : Nat → Nat → Option Nat} {L : List Pr} (h : TI p N B F L) : TI p N B F [] :=
  ⟨h.1, h.2.1, Nat.zero_le _, fun d i _ hi => absurd hi (Nat.not_lt_zero i), fun d _ => ⟨fun i hi => absurd hi (Nat.not_lt_zero i), fun i hi => absurd hi (Nat.not_lt_zero i)⟩⟩
end
section
set_option maxHeartbeats 4000000 in
set_option maxRecDepth 100000 in
/-- place -/
theorem c_place (l : Launch) (G : Gd) (a p : Nat → Nat) (N : Nat → Nat → Int32) (B F : Nat → Nat → Option Nat) (L : List Pr) (hTI : TI p N B F L) (x y : Int32) : Mt l yX3_place wsX3_place 1 24 [.ref (a 27), .int (x), .int (y)] G (cT G a p N B F L.length ++ cP a) (fun _ => False) (fun r _ => ∃ o : Option Nat, r = some (.int (lk o)) ∧ posR L x y o) := by
  refine Mt.mk cX3_place 3 (some .int) (by decide) rfl (Nat.le_of_ble_eq_true rfl) ?_
  intro p9 e s m below meth c ls hx hb hr hml hts hown hlocks hP hK hl
  have hinX3 : ∀ w ∈ wsX30, w ∈ wsX3_place := by decide +kernel
  have hS : va_S (fun _ => False) s.heap s.heap [] := va_S.rf
  have hl : lv_has ls 3 [(0, .ref (a 27)), (1, .int (x)), (2, .int (y))] := hl
  have hown : s.vm.findClass RX3 = some m.cls := hown
  obtain ⟨hp, hinj, hn, hk, hlk⟩ := id hTI
  refine lv_aload_n hx hb dX3_place_0 rfl (lv_at hl 0 rfl) ?_
  refine va_get (D := G.1) (ci := 3) (v := .ref (a 0)) (C := RX3) (T := TX3) (N := 3) hx hb hts hinX3 hown hK.1 hP 11 rfl rfl 0 (by decide) (hts (.fieldLink RX3 10 "PairThreads" "pairs" "LPairThreads$Threads;") (by decide +kernel)) (fun _ h9 => h9) rfl dX3_place_1 ?_
  refine lv_iload_n hx hb dX3_place_4 rfl (lv_at hl 1 rfl) ?_
  refine lv_iload_n hx hb dX3_place_5 rfl (lv_at hl 2 rfl) ?_
  refine z_callV (rest := []) 2 ⟨hx, hb, hml, hown, hts⟩ hK (c_placeOf l G a p N B F L.length x y hn hp) gX3_place_X2_placeOf rfl (by decide +kernel) ⟨Nat.le_of_ble_eq_true rfl, Nat.le_of_ble_eq_true rfl⟩ (hP.sub (ws' := cT G a p N B F L.length ++ []) [0, 1, 2, 3, 4, 5, 6, 7, 8, 9, 10] rfl) 0 rfl rfl rfl rfl hl.1 rfl (Nat.le_of_ble_eq_true rfl) dX3_place_6 ⟨Nat.le_refl _, Nat.le_refl _⟩ hS (fun _ h => h.elim) (fun v9 H9 locs hR9 hk9 hS => ?_)
  obtain ⟨o, rfl, ho⟩ := hR9
  have hP := P_keep0 hP hk9
  clear hk9
  generalize H9 = H at hP hS ⊢
  refine W.eq (g2 := F0 m 9 ls [.int (lk o)]) rfl ?_
  exact z_iret hx hb hr hlocks ⟨o, rfl, placeR_pos (fun i hi => hk 0 i (by omega) hi) (fun i hi => hk 1 i (by omega) hi) ho⟩ hS dX3_place_9

set_option maxHeartbeats 4000000 in
set_option maxRecDepth 100000 in
/-- link -/
theorem c_link (l : Launch) (G : Gd) (a p : Nat → Nat) (N : Nat → Nat → Int32) (B F : Nat → Nat → Option Nat) (L : List Pr) (hTI : TI p N B F L) (x y : Int32) (hnd : (aP a).Nodup) : Mt l yX3_link wsX3_link 3 70 [.ref (a 27), .int (x), .int (y)] G (cT G a p N B F L.length ++ cP a) (fun q => q ∈ aP a) (fun r h => r = some (.int (linkA L x y)) ∧ cPL G a (linkL L x y) h) := by
  refine Mt.mk cX3_link 3 (some .int) (by decide) rfl (Nat.le_of_ble_eq_true rfl) ?_
  intro p9 e s m below meth c ls hx hb hr hml hts hown hlocks hP hK hl
  have hinX2 : ∀ w ∈ wsX20, w ∈ wsX3_link := by decide +kernel
  have hinX3 : ∀ w ∈ wsX30, w ∈ wsX3_link := by decide +kernel
  have hS : va_S (fun q => q ∈ aP a) s.heap s.heap [] := va_S.rf
  have hl : lv_has ls 3 [(0, .ref (a 27)), (1, .int (x)), (2, .int (y))] := hl
  have hown : s.vm.findClass RX3 = some m.cls := hown
  have hDD : ∀ ws : va_W, ws.map Prod.fst = aP a → va_D (fun q => q ∈ aP a) ws := D_of hnd (fun q h => h)
  obtain ⟨hp, hinj, hn, hk, hlk⟩ := id hTI
  refine lv_aload_n hx hb dX3_link_0 rfl (lv_at hl 0 rfl) ?_
  refine va_get (D := G.1) (ci := 3) (v := .ref (a 0)) (C := RX3) (T := TX3) (N := 3) hx hb hts hinX3 hown hK.1 hP 11 rfl rfl 0 (by decide) (hts (.fieldLink RX3 10 "PairThreads" "pairs" "LPairThreads$Threads;") (by decide +kernel)) (fun _ h9 => h9) rfl dX3_link_1 ?_
  refine lv_iload_n hx hb dX3_link_4 rfl (lv_at hl 1 rfl) ?_
  refine lv_iload_n hx hb dX3_link_5 rfl (lv_at hl 2 rfl) ?_
  refine z_callV (rest := []) 2 ⟨hx, hb, hml, hown, hts⟩ hK (c_placeOf l G a p N B F L.length x y hn hp) gX3_link_X2_placeOf rfl (by decide +kernel) ⟨Nat.le_of_ble_eq_true rfl, Nat.le_of_ble_eq_true rfl⟩ (hP.sub (ws' := cT G a p N B F L.length ++ []) [0, 1, 2, 3, 4, 5, 6, 7, 8, 9, 10] rfl) 0 rfl rfl rfl rfl hl.1 rfl (Nat.le_of_ble_eq_true rfl) dX3_link_6 ⟨Nat.le_refl _, Nat.le_refl _⟩ hS (fun _ h => h.elim) (fun v9 H9 locs hR9 hk9 hS => ?_)
  obtain ⟨o, rfl, ho⟩ := hR9
  have hP := P_keep0 hP hk9
  clear hk9
  generalize H9 = H at hP hS ⊢
  refine W.eq (g2 := F0 m 9 ls [.int (lk o)]) rfl ?_
  have ho := placeR_pos (fun i hi => hk 0 i (by omega) hi) (fun i hi => hk 1 i (by omega) hi) ho
  refine lv_iconst (v := (-1)) hx hb dX3_link_9 rfl ?_
  refine z_none_eq (tgt := 15) hx hb (fun k hk => by have := posR_lt ho k hk; omega) dX3_link_10 (by decide) (fun hc1 => ?_) (fun k hc1 => ?_)
  · have hm := (posR_none ho).mp hc1
    refine lv_aload_n hx hb dX3_link_15 rfl (lv_at hl 0 rfl) ?_
    refine va_get (D := G.1) (ci := 3) (v := .ref (a 0)) (C := RX3) (T := TX3) (N := 3) hx hb hts hinX3 hown hK.1 hP 11 rfl rfl 0 (by decide) (hts (.fieldLink RX3 10 "PairThreads" "pairs" "LPairThreads$Threads;") (by decide +kernel)) (fun _ h9 => h9) rfl dX3_link_16 ?_
    refine va_getN (D := G.1) (host := "PairThreads") (ci := 2) (v := .int (nI L.length)) (C := RX2) (T := TX2) (N := 5) hx hb hts hinX2 hown hK.1 hP 0 rfl rfl 4 (by decide) hK.2.nlX3_size (fun _ h9 => h9) rfl dX3_link_19 ?_
    refine lv_sipush (v := nI 300) hx hb dX3_link_22 (by decide) ?_
    refine z_icmp_lt (tgt := 31) hx hb (by omega) (by omega) dX3_link_25 (by decide) (fun hc2 => ?_) (fun hc2 => ?_)
    · refine lv_aload_n hx hb dX3_link_31 rfl (lv_at hl 0 rfl) ?_
      refine va_get (D := G.1) (ci := 3) (v := .ref (a 0)) (C := RX3) (T := TX3) (N := 3) hx hb hts hinX3 hown hK.1 hP 11 rfl rfl 0 (by decide) (hts (.fieldLink RX3 10 "PairThreads" "pairs" "LPairThreads$Threads;") (by decide +kernel)) (fun _ h9 => h9) rfl dX3_link_32 ?_
      refine lv_iload_n hx hb dX3_link_35 rfl (lv_at hl 1 rfl) ?_
      refine lv_iload_n hx hb dX3_link_36 rfl (lv_at hl 2 rfl) ?_
      refine z_callV (rest := []) 2 ⟨hx, hb, hml, hown, hts⟩ hK (c_append l G a p N B F L hTI x y (by omega) (aP_T hnd)) gX3_link_X2_append rfl (by decide +kernel) ⟨Nat.le_of_ble_eq_true rfl, Nat.le_of_ble_eq_true rfl⟩ (hP.sub (ws' := cT G a p N B F L.length ++ []) [0, 1, 2, 3, 4, 5, 6, 7, 8, 9, 10] rfl) 0 rfl rfl rfl rfl hl.1 rfl (Nat.le_of_ble_eq_true rfl) dX3_link_37 ⟨Nat.le_refl _, Nat.le_refl _⟩ hS (fun q h => List.mem_append_left _ h) (fun v9 H9 locs hR9 hk9 hS => ?_)
      obtain ⟨rfl, p2, N2, B2, F2, hTI2, hP1⟩ := hR9
      have hPk := P_keep (hP.sub (ws' := cP a) [11] rfl) hk9 (aP_sep hnd)
      have hP := hP1.app hPk
      clear hk9
      generalize H9 = H at hP hS ⊢
      refine W.eq (g2 := F0 m 40 ls []) rfl ?_
      have hP : va_P G.1 vwCl (cT G a p2 N2 B2 F2 ((L ++ [(x, y)]).length) ++ cP a) H := hP
      refine lv_aload_n hx hb dX3_link_40 rfl (lv_at hl 0 rfl) ?_
      refine va_get (D := G.1) (ci := 3) (v := .ref (a 0)) (C := RX3) (T := TX3) (N := 3) hx hb hts hinX3 hown hK.1 hP 11 rfl rfl 0 (by decide) (hts (.fieldLink RX3 10 "PairThreads" "pairs" "LPairThreads$Threads;") (by decide +kernel)) (fun _ h9 => h9) rfl dX3_link_41 ?_
      refine va_getN (D := G.1) (host := "PairThreads") (ci := 2) (v := .int (nI ((L ++ [(x, y)]).length))) (C := RX2) (T := TX2) (N := 5) hx hb hts hinX2 hown hK.1 hP 0 rfl rfl 4 (by decide) hK.2.nlX3_size (fun _ h9 => h9) rfl dX3_link_44 ?_
      exact z_iret hx hb hr hlocks ⟨by unfold linkA; rw [if_neg hm, if_neg (by omega)]; simp, p2, N2, B2, F2, by unfold linkL; rw [if_neg hm, if_neg (by omega)]; exact ⟨hTI2, hP⟩⟩ hS dX3_link_47
    · refine lv_bipush (v := (-2)) hx hb dX3_link_28 (by decide) ?_
      exact z_iret hx hb hr hlocks ⟨by unfold linkA; rw [if_neg hm, if_pos (by omega)], p, N, B, F, by unfold linkL; rw [if_neg hm, if_pos (by omega)]; exact ⟨hTI, hP⟩⟩ hS dX3_link_30
  · have hm : (x, y) ∈ L := Decidable.byContradiction (fun z => by rw [(posR_none ho).mpr z] at hc1; cases hc1)
    refine lv_iconst (v := (-1)) hx hb dX3_link_13 rfl ?_
    exact z_iret hx hb hr hlocks ⟨by unfold linkA; rw [if_pos hm], p, N, B, F, by unfold linkL; rw [if_pos hm]; exact ⟨hTI, hP⟩⟩ hS dX3_link_14

set_option maxHeartbeats 4000000 in
set_option maxRecDepth 100000 in
/-- unlink -/
theorem c_unlink (l : Launch) (G : Gd) (a p : Nat → Nat) (N : Nat → Nat → Int32) (B F : Nat → Nat → Option Nat) (L : List Pr) (hTI : TI p N B F L) (x y : Int32) (hnd : (aP a).Nodup) : Mt l yX3_unlink wsX3_unlink 2 46 [.ref (a 27), .int (x), .int (y)] G (cT G a p N B F L.length ++ cP a) (fun q => q ∈ aP a) (fun r h => ∃ o : Option Nat, posR L x y o ∧ r = some (.int (unlA L o)) ∧ cPL G a (unlL L o) h) := by
  refine Mt.mk cX3_unlink 4 (some .int) (by decide) rfl (Nat.le_of_ble_eq_true rfl) ?_
  intro p9 e s m below meth c ls hx hb hr hml hts hown hlocks hP hK hl
  have hinX2 : ∀ w ∈ wsX20, w ∈ wsX3_unlink := by decide +kernel
  have hinX3 : ∀ w ∈ wsX30, w ∈ wsX3_unlink := by decide +kernel
  have hS : va_S (fun q => q ∈ aP a) s.heap s.heap [] := va_S.rf
  have hl : lv_has ls 4 [(0, .ref (a 27)), (1, .int (x)), (2, .int (y))] := hl
  have hown : s.vm.findClass RX3 = some m.cls := hown
  have hDD : ∀ ws : va_W, ws.map Prod.fst = aP a → va_D (fun q => q ∈ aP a) ws := D_of hnd (fun q h => h)
  obtain ⟨hp, hinj, hn, hk, hlk⟩ := id hTI
  refine lv_aload_n hx hb dX3_unlink_0 rfl (lv_at hl 0 rfl) ?_
  refine va_get (D := G.1) (ci := 3) (v := .ref (a 0)) (C := RX3) (T := TX3) (N := 3) hx hb hts hinX3 hown hK.1 hP 11 rfl rfl 0 (by decide) (hts (.fieldLink RX3 10 "PairThreads" "pairs" "LPairThreads$Threads;") (by decide +kernel)) (fun _ h9 => h9) rfl dX3_unlink_1 ?_
  refine lv_iload_n hx hb dX3_unlink_4 rfl (lv_at hl 1 rfl) ?_
  refine lv_iload_n hx hb dX3_unlink_5 rfl (lv_at hl 2 rfl) ?_
  refine z_callV (rest := []) 2 ⟨hx, hb, hml, hown, hts⟩ hK (c_placeOf l G a p N B F L.length x y hn hp) gX3_unlink_X2_placeOf rfl (by decide +kernel) ⟨Nat.le_of_ble_eq_true rfl, Nat.le_of_ble_eq_true rfl⟩ (hP.sub (ws' := cT G a p N B F L.length ++ []) [0, 1, 2, 3, 4, 5, 6, 7, 8, 9, 10] rfl) 0 rfl rfl rfl rfl hl.1 rfl (Nat.le_of_ble_eq_true rfl) dX3_unlink_6 ⟨Nat.le_refl _, Nat.le_refl _⟩ hS (fun _ h => h.elim) (fun v9 H9 locs hR9 hk9 hS => ?_)
  obtain ⟨o, rfl, ho⟩ := hR9
  have hP := P_keep0 hP hk9
  clear hk9
  generalize H9 = H at hP hS ⊢
  refine W.eq (g2 := F0 m 9 ls [.int (lk o)]) rfl ?_
  have ho := placeR_pos (fun i hi => hk 0 i (by omega) hi) (fun i hi => hk 1 i (by omega) hi) ho
  refine lv_istore_n (lv' := [(3, .int (lk o)), (0, .ref (a 27)), (1, .int (x)), (2, .int (y))]) hx hb dX3_unlink_9 rfl hl (by decide) rfl (fun ls hl => ?_)
  refine lv_iload_n hx hb dX3_unlink_10 rfl (lv_at hl 0 rfl) ?_
  refine lv_iconst (v := (-1)) hx hb dX3_unlink_11 rfl ?_
  refine z_none_ne (tgt := 17) hx hb (fun k hk => by have := posR_lt ho k hk; omega) dX3_unlink_12 (by decide) (fun k hc1 => ?_) (fun hc1 => ?_)
  · subst hc1
    have hl : lv_has ls 4 [(3, .int (nI k)), (0, .ref (a 27)), (1, .int (x)), (2, .int (y))] := hl
    have hkl := posR_lt ho k rfl
    refine lv_aload_n hx hb dX3_unlink_17 rfl (lv_at hl 1 rfl) ?_
    refine va_get (D := G.1) (ci := 3) (v := .ref (a 0)) (C := RX3) (T := TX3) (N := 3) hx hb hts hinX3 hown hK.1 hP 11 rfl rfl 0 (by decide) (hts (.fieldLink RX3 10 "PairThreads" "pairs" "LPairThreads$Threads;") (by decide +kernel)) (fun _ h9 => h9) rfl dX3_unlink_18 ?_
    refine lv_iload_n hx hb dX3_unlink_21 rfl (lv_at hl 0 rfl) ?_
    refine z_callV (rest := []) 1 ⟨hx, hb, hml, hown, hts⟩ hK (c_takeOut l G a p N B F L hTI k hkl (aP_T hnd)) gX3_unlink_X2_takeOut rfl (by decide +kernel) ⟨Nat.le_of_ble_eq_true rfl, Nat.le_of_ble_eq_true rfl⟩ (hP.sub (ws' := cT G a p N B F L.length ++ []) [0, 1, 2, 3, 4, 5, 6, 7, 8, 9, 10] rfl) 0 rfl rfl rfl rfl hl.1 rfl (Nat.le_of_ble_eq_true rfl) dX3_unlink_22 ⟨Nat.le_refl _, Nat.le_refl _⟩ hS (fun q h => List.mem_append_left _ h) (fun v9 H9 locs hR9 hk9 hS => ?_)
    obtain ⟨rfl, p2, N2, B2, F2, hTI2, hP1⟩ := hR9
    have hPk := P_keep (hP.sub (ws' := cP a) [11] rfl) hk9 (aP_sep hnd)
    have hP := hP1.app hPk
    clear hk9
    generalize H9 = H at hP hS ⊢
    refine W.eq (g2 := F0 m 25 ls []) rfl ?_
    have hP : va_P G.1 vwCl (cT G a p2 N2 B2 F2 ((L.eraseIdx k).length) ++ cP a) H := hP
    refine lv_aload_n hx hb dX3_unlink_25 rfl (lv_at hl 1 rfl) ?_
    refine va_get (D := G.1) (ci := 3) (v := .ref (a 0)) (C := RX3) (T := TX3) (N := 3) hx hb hts hinX3 hown hK.1 hP 11 rfl rfl 0 (by decide) (hts (.fieldLink RX3 10 "PairThreads" "pairs" "LPairThreads$Threads;") (by decide +kernel)) (fun _ h9 => h9) rfl dX3_unlink_26 ?_
    refine va_getN (D := G.1) (host := "PairThreads") (ci := 2) (v := .int (nI ((L.eraseIdx k).length))) (C := RX2) (T := TX2) (N := 5) hx hb hts hinX2 hown hK.1 hP 0 rfl rfl 4 (by decide) hK.2.nlX3_size (fun _ h9 => h9) rfl dX3_unlink_29 ?_
    exact z_iret hx hb hr hlocks ⟨some k, ho, by rw [List.length_eraseIdx_of_lt hkl]; rfl, p2, N2, B2, F2, hTI2, hP⟩ hS dX3_unlink_32
  · subst hc1
    refine lv_iconst (v := (-1)) hx hb dX3_unlink_15 rfl ?_
    exact z_iret hx hb hr hlocks ⟨none, ho, rfl, p, N, B, F, hTI, hP⟩ hS dX3_unlink_16

set_option maxHeartbeats 4000000 in
set_option maxRecDepth 100000 in
/-- degree -/
theorem c_degree (l : Launch) (G : Gd) (a p : Nat → Nat) (N : Nat → Nat → Int32) (B F : Nat → Nat → Option Nat) (L : List Pr) (hTI : TI p N B F L) (sx v : Int32) : Mt l yX3_degree wsX3_degree 2 48 [.ref (a 27), .int (sx), .int (v)] G (cT G a p N B F L.length ++ cP a) (fun _ => False) (fun r _ => r = some (.int (degA L sx v))) := by
  refine Mt.mk cX3_degree 3 (some .int) (by decide) rfl (Nat.le_of_ble_eq_true rfl) ?_
  intro p9 e s m below meth c ls hx hb hr hml hts hown hlocks hP hK hl
  have hinX3 : ∀ w ∈ wsX30, w ∈ wsX3_degree := by decide +kernel
  have hS : va_S (fun _ => False) s.heap s.heap [] := va_S.rf
  have hl : lv_has ls 3 [(0, .ref (a 27)), (1, .int (sx)), (2, .int (v))] := hl
  have hown : s.vm.findClass RX3 = some m.cls := hown
  obtain ⟨hp, hinj, hn, hk, hlk⟩ := id hTI
  refine lv_iload_n hx hb dX3_degree_0 rfl (lv_at hl 1 rfl) ?_
  refine z_callS (rest := []) 1 ⟨hx, hb, hml, hown, hts⟩ hK (c_isSide3 l G sx) gX3_degree_X3_isSide rfl (by decide +kernel) ⟨Nat.le_of_ble_eq_true rfl, Nat.le_of_ble_eq_true rfl⟩ P_nil rfl hl.1 rfl (Nat.le_of_ble_eq_true rfl) dX3_degree_1 ⟨Nat.le_refl _, Nat.le_refl _⟩ hS (fun _ h => h.elim) (fun v9 H9 locs hR9 hk9 hS => ?_)
  obtain ⟨z, rfl, hz⟩ := hR9
  have hP := P_keep0 hP hk9
  clear hk9
  generalize H9 = H at hP hS ⊢
  refine W.eq (g2 := F0 m 4 ls [.int (nI z)]) rfl ?_
  rcases hz with ⟨rfl, hsd⟩ | ⟨rfl, d, hsd⟩
  · refine z_if_eq (tgt := 19) hx hb (by omega) dX3_degree_4 (by decide) (fun hc1 => ?_) (fun hc1 => ?_)
    · refine lv_iconst (v := (-1)) hx hb dX3_degree_19 rfl ?_
      exact z_iret hx hb hr hlocks (by unfold degA; rw [hsd]) hS dX3_degree_20
    · exact absurd hc1 (by decide)
  · refine z_if_eq (tgt := 19) hx hb (by omega) dX3_degree_4 (by decide) (fun hc2 => ?_) (fun hc2 => ?_)
    · exact absurd hc2 (by decide)
    · obtain ⟨hd, hsx⟩ := sideOf_some hsd
      subst hsx
      refine lv_aload_n hx hb dX3_degree_7 rfl (lv_at hl 0 rfl) ?_
      refine va_get (D := G.1) (ci := 3) (v := .ref (a 0)) (C := RX3) (T := TX3) (N := 3) hx hb hts hinX3 hown hK.1 hP 11 rfl rfl 0 (by decide) (hts (.fieldLink RX3 10 "PairThreads" "pairs" "LPairThreads$Threads;") (by decide +kernel)) (fun _ h9 => h9) rfl dX3_degree_8 ?_
      refine lv_iload_n hx hb dX3_degree_11 rfl (lv_at hl 1 rfl) ?_
      refine lv_iload_n hx hb dX3_degree_12 rfl (lv_at hl 2 rfl) ?_
      refine z_callV (rest := []) 2 ⟨hx, hb, hml, hown, hts⟩ hK (c_lengthOf l G a p N B F L.length d v hd hn hp (hlk d hd).2) gX3_degree_X2_lengthOf rfl (by decide +kernel) ⟨Nat.le_of_ble_eq_true rfl, Nat.le_of_ble_eq_true rfl⟩ (hP.sub (ws' := cT G a p N B F L.length ++ []) [0, 1, 2, 3, 4, 5, 6, 7, 8, 9, 10] rfl) 0 rfl rfl rfl rfl hl.1 rfl (Nat.le_of_ble_eq_true rfl) dX3_degree_13 ⟨Nat.le_refl _, Nat.le_refl _⟩ hS (fun _ h => h.elim) (fun v9 H9 locs hR9 hk9 hS => ?_)
      obtain rfl := hR9
      have hP := P_keep0 hP hk9
      clear hk9
      generalize H9 = H at hP hS ⊢
      refine W.eq (g2 := F0 m 16 ls [.int (nI (cnt (fun i => N d (p i)) v L.length))]) rfl ?_
      refine lv_goto (tgt := 20) hx hb dX3_degree_16 (by decide) ?_
      exact z_iret hx hb hr hlocks (by unfold degA; rw [hsd, cntK (fun i hi => hk d i hd hi)]) hS dX3_degree_20

set_option maxHeartbeats 4000000 in
set_option maxRecDepth 100000 in
/-- other -/
theorem c_other (l : Launch) (G : Gd) (a p : Nat → Nat) (N : Nat → Nat → Int32) (B F : Nat → Nat → Option Nat) (L : List Pr) (hTI : TI p N B F L) (sx v x : Int32) : Mt l yX3_other wsX3_other 2 48 [.ref (a 27), .int (sx), .int (v), .int (x)] G (cT G a p N B F L.length ++ cP a) (fun _ => False) (fun r _ => ∃ z : Int32, r = some (.int z) ∧ otherR L sx v x z) := by
  refine Mt.mk cX3_other 5 (some .int) (by decide) rfl (Nat.le_of_ble_eq_true rfl) ?_
  intro p9 e s m below meth c ls hx hb hr hml hts hown hlocks hP hK hl
  have hinX2 : ∀ w ∈ wsX20, w ∈ wsX3_other := by decide +kernel
  have hinX3 : ∀ w ∈ wsX30, w ∈ wsX3_other := by decide +kernel
  have hS : va_S (fun _ => False) s.heap s.heap [] := va_S.rf
  have hl : lv_has ls 5 [(0, .ref (a 27)), (1, .int (sx)), (2, .int (v)), (3, .int (x))] := hl
  have hown : s.vm.findClass RX3 = some m.cls := hown
  obtain ⟨hp, hinj, hn, hk, hlk⟩ := id hTI
  refine lv_iload_n hx hb dX3_other_0 rfl (lv_at hl 1 rfl) ?_
  refine z_callS (rest := []) 1 ⟨hx, hb, hml, hown, hts⟩ hK (c_isSide3 l G sx) gX3_other_X3_isSide rfl (by decide +kernel) ⟨Nat.le_of_ble_eq_true rfl, Nat.le_of_ble_eq_true rfl⟩ P_nil rfl hl.1 rfl (Nat.le_of_ble_eq_true rfl) dX3_other_1 ⟨Nat.le_refl _, Nat.le_refl _⟩ hS (fun _ h => h.elim) (fun v9 H9 locs hR9 hk9 hS => ?_)
  obtain ⟨z, rfl, hz⟩ := hR9
  have hP := P_keep0 hP hk9
  clear hk9
  generalize H9 = H at hP hS ⊢
  refine W.eq (g2 := F0 m 4 ls [.int (nI z)]) rfl ?_
  rcases hz with ⟨rfl, hsd⟩ | ⟨rfl, d, hsd⟩
  · refine z_if_ne (tgt := 9) hx hb (by omega) dX3_other_4 (by decide) (fun hc1 => ?_) (fun hc1 => ?_)
    · exact absurd hc1 (by decide)
    · refine lv_iconst (v := nI 0) hx hb dX3_other_7 rfl ?_
      exact z_iret hx hb hr hlocks ⟨nI 0, rfl, by unfold otherR; rw [hsd]⟩ hS dX3_other_8
  · refine z_if_ne (tgt := 9) hx hb (by omega) dX3_other_4 (by decide) (fun hc2 => ?_) (fun hc2 => ?_)
    · obtain ⟨hd, hsx⟩ := sideOf_some hsd
      subst hsx
      refine lv_aload_n hx hb dX3_other_9 rfl (lv_at hl 0 rfl) ?_
      refine va_get (D := G.1) (ci := 3) (v := .ref (a 0)) (C := RX3) (T := TX3) (N := 3) hx hb hts hinX3 hown hK.1 hP 11 rfl rfl 0 (by decide) (hts (.fieldLink RX3 10 "PairThreads" "pairs" "LPairThreads$Threads;") (by decide +kernel)) (fun _ h9 => h9) rfl dX3_other_10 ?_
      refine lv_iload_n hx hb dX3_other_13 rfl (lv_at hl 1 rfl) ?_
      refine lv_iload_n hx hb dX3_other_14 rfl (lv_at hl 2 rfl) ?_
      refine lv_iload_n hx hb dX3_other_15 rfl (lv_at hl 3 rfl) ?_
      refine z_callV (rest := []) 3 ⟨hx, hb, hml, hown, hts⟩ hK (c_inThread l G a p N B F L.length d v x hd hn hp (hlk d hd).2) gX3_other_X2_inThread rfl (by decide +kernel) ⟨Nat.le_of_ble_eq_true rfl, Nat.le_of_ble_eq_true rfl⟩ (hP.sub (ws' := cT G a p N B F L.length ++ []) [0, 1, 2, 3, 4, 5, 6, 7, 8, 9, 10] rfl) 0 rfl rfl rfl rfl hl.1 rfl (Nat.le_of_ble_eq_true rfl) dX3_other_16 ⟨Nat.le_refl _, Nat.le_refl _⟩ hS (fun _ h => h.elim) (fun v9 H9 locs hR9 hk9 hS => ?_)
      obtain ⟨o, rfl, ho⟩ := hR9
      have hP := P_keep0 hP hk9
      clear hk9
      generalize H9 = H at hP hS ⊢
      refine W.eq (g2 := F0 m 19 ls [.int (lk (Option.map p o))]) rfl ?_
      have hoL : ∀ j, o = some j → j < L.length := fun j hj => by rcases ho with ⟨e1, -⟩ | ⟨i, e1, h1, -⟩; rw [e1] at hj; cases hj; rw [e1] at hj; cases hj; exact h1
      have ho := nthR_to (fun i hi => hk d i hd hi) ho
      refine lv_istore (lv' := [(4, .int (lk (Option.map p o))), (0, .ref (a 27)), (1, .int (nI d)), (2, .int (v)), (3, .int (x))]) hx hb dX3_other_19 hl (by decide) rfl (fun ls hl => ?_)
      refine lv_iload hx hb dX3_other_21 (lv_at hl 0 rfl) ?_
      refine lv_iconst (v := (-1)) hx hb dX3_other_23 rfl ?_
      refine z_none_ne (tgt := 31) hx hb (fun k hk => by have := mp_lt hp hn hoL hk; omega) dX3_other_24 (by decide) (fun k hc3 => ?_) (fun hc3 => ?_)
      · obtain ⟨j, hoj, hjk⟩ := Option.map_eq_some_iff.mp hc3
        subst hoj
        clear hjk
        have hl : lv_has ls 5 [(4, .int (nI (p j))), (0, .ref (a 27)), (1, .int (nI d)), (2, .int (v)), (3, .int (x))] := hl
        have hjl := hoL j rfl
        have hpj := hp j (by omega)
        have h1d : 1 - d < 2 := by omega
        refine lv_aload_n hx hb dX3_other_31 rfl (lv_at hl 1 rfl) ?_
        refine va_get (D := G.1) (ci := 3) (v := .ref (a 0)) (C := RX3) (T := TX3) (N := 3) hx hb hts hinX3 hown hK.1 hP 11 rfl rfl 0 (by decide) (hts (.fieldLink RX3 10 "PairThreads" "pairs" "LPairThreads$Threads;") (by decide +kernel)) (fun _ h9 => h9) rfl dX3_other_32 ?_
        refine va_getN (D := G.1) (host := "PairThreads") (ci := 2) (v := .ref (a 2)) (C := RX2) (T := TX2) (N := 5) hx hb hts hinX2 hown hK.1 hP 0 rfl rfl 1 (by decide) hK.2.nlX3_number (fun _ h9 => h9) rfl dX3_other_35 ?_
        refine lv_iconst (v := nI 1) hx hb dX3_other_38 rfl ?_
        refine lv_iload_n hx hb dX3_other_39 rfl (lv_at hl 2 rfl) ?_
        refine lv_isub hx hb dX3_other_40 ?_
        refine z_top (y := nI (1 - d)) (pk_sub (by omega)) ?_
        refine z_ald hx hb hK hP 2 rfl (j := 1 - d) (by omega) (by decide) dX3_other_41 ?_
        refine lv_iload hx hb dX3_other_42 (lv_at hl 0 rfl) ?_
        refine z_iald hx hb hK hP (5 + (1 - d)) (cT_N h1d) (j := p j) (by omega) (by decide) dX3_other_44 ?_
        exact z_iret hx hb hr hlocks ⟨_, rfl, by unfold otherR; rw [hsd]; exact ⟨some j, ho, hk (1 - d) j h1d hjl⟩⟩ hS dX3_other_45
      · have hon : o = none := by cases o with | none => rfl | some j => cases hc3
        subst hon
        refine lv_iconst (v := nI 0) hx hb dX3_other_27 rfl ?_
        refine lv_goto (tgt := 45) hx hb dX3_other_28 (by decide) ?_
        exact z_iret hx hb hr hlocks ⟨nI 0, rfl, by unfold otherR; rw [hsd]; exact ⟨none, ho, rfl⟩⟩ hS dX3_other_45
    · exact absurd hc2 (by decide)

set_option maxHeartbeats 4000000 in
set_option maxRecDepth 100000 in
/-- drop -/
theorem c_drop (l : Launch) (G : Gd) (a p : Nat → Nat) (N : Nat → Nat → Int32) (B F : Nat → Nat → Option Nat) (L : List Pr) (hTI : TI p N B F L) (sx v : Int32) (hnd : (aP a).Nodup) : Mt l yX3_drop wsX3_drop 3 70 [.ref (a 27), .int (sx), .int (v)] G (cT G a p N B F L.length ++ cP a) (fun q => q ∈ aP a) (fun r h => r = some (.int (degA L sx v)) ∧ cPL G a (dropL L sx v) h) := by
  refine Mt.mk cX3_drop 3 (some .int) (by decide) rfl (Nat.le_of_ble_eq_true rfl) ?_
  intro p9 e s m below meth c ls hx hb hr hml hts hown hlocks hP hK hl
  have hinX3 : ∀ w ∈ wsX30, w ∈ wsX3_drop := by decide +kernel
  have hS : va_S (fun q => q ∈ aP a) s.heap s.heap [] := va_S.rf
  have hl : lv_has ls 3 [(0, .ref (a 27)), (1, .int (sx)), (2, .int (v))] := hl
  have hown : s.vm.findClass RX3 = some m.cls := hown
  have hDD : ∀ ws : va_W, ws.map Prod.fst = aP a → va_D (fun q => q ∈ aP a) ws := D_of hnd (fun q h => h)
  obtain ⟨hp, hinj, hn, hk, hlk⟩ := id hTI
  refine lv_iload_n hx hb dX3_drop_0 rfl (lv_at hl 1 rfl) ?_
  refine z_callS (rest := []) 1 ⟨hx, hb, hml, hown, hts⟩ hK (c_isSide3 l G sx) gX3_drop_X3_isSide rfl (by decide +kernel) ⟨Nat.le_of_ble_eq_true rfl, Nat.le_of_ble_eq_true rfl⟩ P_nil rfl hl.1 rfl (Nat.le_of_ble_eq_true rfl) dX3_drop_1 ⟨Nat.le_refl _, Nat.le_refl _⟩ hS (fun _ h => h.elim) (fun v9 H9 locs hR9 hk9 hS => ?_)
  obtain ⟨z, rfl, hz⟩ := hR9
  have hP := P_keep0 hP hk9
  clear hk9
  generalize H9 = H at hP hS ⊢
  refine W.eq (g2 := F0 m 4 ls [.int (nI z)]) rfl ?_
  rcases hz with ⟨rfl, hsd⟩ | ⟨rfl, d, hsd⟩
  · refine z_if_eq (tgt := 19) hx hb (by omega) dX3_drop_4 (by decide) (fun hc1 => ?_) (fun hc1 => ?_)
    · refine lv_iconst (v := (-1)) hx hb dX3_drop_19 rfl ?_
      exact z_iret hx hb hr hlocks ⟨by unfold degA; rw [hsd], p, N, B, F, by unfold dropL; rw [hsd]; exact ⟨hTI, hP⟩⟩ hS dX3_drop_20
    · exact absurd hc1 (by decide)
  · refine z_if_eq (tgt := 19) hx hb (by omega) dX3_drop_4 (by decide) (fun hc2 => ?_) (fun hc2 => ?_)
    · exact absurd hc2 (by decide)
    · obtain ⟨hd, hsx⟩ := sideOf_some hsd
      subst hsx
      refine lv_aload_n hx hb dX3_drop_7 rfl (lv_at hl 0 rfl) ?_
      refine va_get (D := G.1) (ci := 3) (v := .ref (a 0)) (C := RX3) (T := TX3) (N := 3) hx hb hts hinX3 hown hK.1 hP 11 rfl rfl 0 (by decide) (hts (.fieldLink RX3 10 "PairThreads" "pairs" "LPairThreads$Threads;") (by decide +kernel)) (fun _ h9 => h9) rfl dX3_drop_8 ?_
      refine lv_iload_n hx hb dX3_drop_11 rfl (lv_at hl 1 rfl) ?_
      refine lv_iload_n hx hb dX3_drop_12 rfl (lv_at hl 2 rfl) ?_
      refine z_callV (rest := []) 2 ⟨hx, hb, hml, hown, hts⟩ hK (c_takeOutAll l G a p N B F L hTI d v hd (aP_T hnd)) gX3_drop_X2_takeOutAll rfl (by decide +kernel) ⟨Nat.le_of_ble_eq_true rfl, Nat.le_of_ble_eq_true rfl⟩ (hP.sub (ws' := cT G a p N B F L.length ++ []) [0, 1, 2, 3, 4, 5, 6, 7, 8, 9, 10] rfl) 0 rfl rfl rfl rfl hl.1 rfl (Nat.le_of_ble_eq_true rfl) dX3_drop_13 ⟨Nat.le_refl _, Nat.le_refl _⟩ hS (fun q h => List.mem_append_left _ h) (fun v9 H9 locs hR9 hk9 hS => ?_)
      obtain ⟨rfl, p2, N2, B2, F2, hTI2, hP1⟩ := hR9
      have hPk := P_keep (hP.sub (ws' := cP a) [11] rfl) hk9 (aP_sep hnd)
      have hP := hP1.app hPk
      clear hk9
      generalize H9 = H at hP hS ⊢
      refine W.eq (g2 := F0 m 16 ls [.int (nI (cnt (key d L) v L.length))]) rfl ?_
      have hP : va_P G.1 vwCl (cT G a p2 N2 B2 F2 ((wo d v L).length) ++ cP a) H := hP
      refine lv_goto (tgt := 20) hx hb dX3_drop_16 (by decide) ?_
      exact z_iret hx hb hr hlocks ⟨by unfold degA; rw [hsd], p2, N2, B2, F2, by unfold dropL; rw [hsd]; exact ⟨hTI2, hP⟩⟩ hS dX3_drop_20

set_option maxHeartbeats 4000000 in
set_option maxRecDepth 100000 in
/-- rename -/
theorem c_rename (l : Launch) (G : Gd) (a p : Nat → Nat) (N : Nat → Nat → Int32) (B F : Nat → Nat → Option Nat) (L : List Pr) (hTI : TI p N B F L) (sx v to : Int32) (hnd : (aP a).Nodup) : Mt l yX3_rename wsX3_rename 4 100 [.ref (a 27), .int (sx), .int (v), .int (to)] G (cT G a p N B F L.length ++ cP a) (fun q => q ∈ aP a) (fun r h => r = some (.int (renA L sx v to)) ∧ cPL G a (renL L sx v to) h) := by
  refine Mt.mk cX3_rename 4 (some .int) (by decide) rfl (Nat.le_of_ble_eq_true rfl) ?_
  intro p9 e s m below meth c ls hx hb hr hml hts hown hlocks hP hK hl
  have hinX3 : ∀ w ∈ wsX30, w ∈ wsX3_rename := by decide +kernel
  have hS : va_S (fun q => q ∈ aP a) s.heap s.heap [] := va_S.rf
  have hl : lv_has ls 4 [(0, .ref (a 27)), (1, .int (sx)), (2, .int (v)), (3, .int (to))] := hl
  have hown : s.vm.findClass RX3 = some m.cls := hown
  have hDD : ∀ ws : va_W, ws.map Prod.fst = aP a → va_D (fun q => q ∈ aP a) ws := D_of hnd (fun q h => h)
  obtain ⟨hp, hinj, hn, hk, hlk⟩ := id hTI
  refine lv_iload_n hx hb dX3_rename_0 rfl (lv_at hl 1 rfl) ?_
  refine z_callS (rest := []) 1 ⟨hx, hb, hml, hown, hts⟩ hK (c_isSide3 l G sx) gX3_rename_X3_isSide rfl (by decide +kernel) ⟨Nat.le_of_ble_eq_true rfl, Nat.le_of_ble_eq_true rfl⟩ P_nil rfl hl.1 rfl (Nat.le_of_ble_eq_true rfl) dX3_rename_1 ⟨Nat.le_refl _, Nat.le_refl _⟩ hS (fun _ h => h.elim) (fun v9 H9 locs hR9 hk9 hS => ?_)
  obtain ⟨z, rfl, hz⟩ := hR9
  have hP := P_keep0 hP hk9
  clear hk9
  generalize H9 = H at hP hS ⊢
  refine W.eq (g2 := F0 m 4 ls [.int (nI z)]) rfl ?_
  rcases hz with ⟨rfl, hsd⟩ | ⟨rfl, d, hsd⟩
  · refine z_if_eq (tgt := 25) hx hb (by omega) dX3_rename_4 (by decide) (fun hc1 => ?_) (fun hc1 => ?_)
    · refine lv_iconst (v := (-1)) hx hb dX3_rename_25 rfl ?_
      exact z_iret hx hb hr hlocks ⟨by unfold renA; rw [hsd], p, N, B, F, by unfold renL; rw [hsd]; exact ⟨hTI, hP⟩⟩ hS dX3_rename_26
    · exact absurd hc1 (by decide)
  · refine z_if_eq (tgt := 25) hx hb (by omega) dX3_rename_4 (by decide) (fun hc2 => ?_) (fun hc2 => ?_)
    · exact absurd hc2 (by decide)
    · obtain ⟨hd, hsx⟩ := sideOf_some hsd
      subst hsx
      refine lv_iload_n hx hb dX3_rename_7 rfl (lv_at hl 2 rfl) ?_
      refine lv_iload_n hx hb dX3_rename_8 rfl (lv_at hl 3 rfl) ?_
      refine lv_icmp_eq (tgt := 25) hx hb dX3_rename_9 (by decide) (fun hc3 => ?_) (fun hc3 => ?_)
      · refine lv_iconst (v := (-1)) hx hb dX3_rename_25 rfl ?_
        exact z_iret hx hb hr hlocks ⟨by unfold renA; rw [hsd]; exact (congrArg (fun z => some (Value.int z)) (if_pos hc3)).symm, p, N, B, F, by unfold renL; rw [hsd]; dsimp only; rw [if_pos hc3]; exact ⟨hTI, hP⟩⟩ hS dX3_rename_26
      · refine lv_aload_n hx hb dX3_rename_12 rfl (lv_at hl 0 rfl) ?_
        refine va_get (D := G.1) (ci := 3) (v := .ref (a 0)) (C := RX3) (T := TX3) (N := 3) hx hb hts hinX3 hown hK.1 hP 11 rfl rfl 0 (by decide) (hts (.fieldLink RX3 10 "PairThreads" "pairs" "LPairThreads$Threads;") (by decide +kernel)) (fun _ h9 => h9) rfl dX3_rename_13 ?_
        refine lv_iload_n hx hb dX3_rename_16 rfl (lv_at hl 1 rfl) ?_
        refine lv_iload_n hx hb dX3_rename_17 rfl (lv_at hl 2 rfl) ?_
        refine lv_iload_n hx hb dX3_rename_18 rfl (lv_at hl 3 rfl) ?_
        refine z_callV (rest := []) 3 ⟨hx, hb, hml, hown, hts⟩ hK (c_moveAll l G a p N B F L hTI d v to hd (fun z => hc3 z.symm) (aP_T hnd)) gX3_rename_X2_moveAll rfl (by decide +kernel) ⟨Nat.le_of_ble_eq_true rfl, Nat.le_of_ble_eq_true rfl⟩ (hP.sub (ws' := cT G a p N B F L.length ++ []) [0, 1, 2, 3, 4, 5, 6, 7, 8, 9, 10] rfl) 0 rfl rfl rfl rfl hl.1 rfl (Nat.le_of_ble_eq_true rfl) dX3_rename_19 ⟨Nat.le_refl _, Nat.le_refl _⟩ hS (fun q h => List.mem_append_left _ h) (fun v9 H9 locs hR9 hk9 hS => ?_)
        obtain ⟨rfl, p2, N2, B2, F2, hTI2, hP1⟩ := hR9
        have hPk := P_keep (hP.sub (ws' := cP a) [11] rfl) hk9 (aP_sep hnd)
        have hP := hP1.app hPk
        clear hk9
        generalize H9 = H at hP hS ⊢
        refine W.eq (g2 := F0 m 22 ls [.int (nI ((ren d v to (wo d v L) L).2))]) rfl ?_
        have hP : va_P G.1 vwCl (cT G a p2 N2 B2 F2 ((wo d v L ++ (ren d v to (wo d v L) L).1).length) ++ cP a) H := hP
        refine lv_goto (tgt := 26) hx hb dX3_rename_22 (by decide) ?_
        exact z_iret hx hb hr hlocks ⟨by unfold renA; rw [hsd]; exact (congrArg (fun z => some (Value.int z)) (if_neg hc3)).symm, p2, N2, B2, F2, by unfold renL; rw [hsd]; dsimp only; rw [if_neg hc3]; exact ⟨hTI2, hP⟩⟩ hS dX3_rename_26

set_option maxHeartbeats 4000000 in
set_option maxRecDepth 100000 in
/-- at -/
theorem c_at (l : Launch) (G : Gd) (a p : Nat → Nat) (N : Nat → Nat → Int32) (B F : Nat → Nat → Option Nat) (L : List Pr) (hTI : TI p N B F L) (px sx : Int32) : Mt l yX3_at wsX3_at 1 22 [.ref (a 27), .int (px), .int (sx)] G (cT G a p N B F L.length ++ cP a) (fun _ => False) (fun r _ => r = some (.int (atA L px sx))) := by
  refine Mt.mk cX3_at 3 (some .int) (by decide) rfl (Nat.le_of_ble_eq_true rfl) ?_
  intro p9 e s m below meth c ls hx hb hr hml hts hown hlocks hP hK hl
  have hinX2 : ∀ w ∈ wsX20, w ∈ wsX3_at := by decide +kernel
  have hinX3 : ∀ w ∈ wsX30, w ∈ wsX3_at := by decide +kernel
  have hS : va_S (fun _ => False) s.heap s.heap [] := va_S.rf
  have hl : lv_has ls 3 [(0, .ref (a 27)), (1, .int (px)), (2, .int (sx))] := hl
  have hown : s.vm.findClass RX3 = some m.cls := hown
  obtain ⟨hp, hinj, hn, hk, hlk⟩ := id hTI
  refine lv_iload_n hx hb dX3_at_0 rfl (lv_at hl 2 rfl) ?_
  refine z_callS (rest := []) 1 ⟨hx, hb, hml, hown, hts⟩ hK (c_isSide3 l G sx) gX3_at_X3_isSide rfl (by decide +kernel) ⟨Nat.le_of_ble_eq_true rfl, Nat.le_of_ble_eq_true rfl⟩ P_nil rfl hl.1 rfl (Nat.le_of_ble_eq_true rfl) dX3_at_1 ⟨Nat.le_refl _, Nat.le_refl _⟩ hS (fun _ h => h.elim) (fun v9 H9 locs hR9 hk9 hS => ?_)
  obtain ⟨z, rfl, hz⟩ := hR9
  have hP := P_keep0 hP hk9
  clear hk9
  generalize H9 = H at hP hS ⊢
  refine W.eq (g2 := F0 m 4 ls [.int (nI z)]) rfl ?_
  rcases hz with ⟨rfl, hsd⟩ | ⟨rfl, d, hsd⟩
  · refine z_if_eq (tgt := 22) hx hb (by omega) dX3_at_4 (by decide) (fun hc1 => ?_) (fun hc1 => ?_)
    · refine lv_iconst (v := nI 0) hx hb dX3_at_22 rfl ?_
      exact z_iret hx hb hr hlocks (by unfold atA; rw [hsd]) hS dX3_at_23
    · exact absurd hc1 (by decide)
  · refine z_if_eq (tgt := 22) hx hb (by omega) dX3_at_4 (by decide) (fun hc2 => ?_) (fun hc2 => ?_)
    · exact absurd hc2 (by decide)
    · obtain ⟨hd, hsx⟩ := sideOf_some hsd
      subst hsx
      refine lv_iload_n hx hb dX3_at_7 rfl (lv_at hl 1 rfl) ?_
      refine lv_if_lt (tgt := 22) hx hb dX3_at_8 (by decide) (fun hc3 => ?_) (fun hc3 => ?_)
      · refine lv_iconst (v := nI 0) hx hb dX3_at_22 rfl ?_
        have hng : ¬ (0 ≤ px.toInt ∧ px.toInt < L.length) := fun z => by have h1 := Int32.lt_iff_toInt_lt.mp hc3; have h2 : (0 : Int32).toInt = 0 := rfl; omega
        exact z_iret hx hb hr hlocks (by unfold atA; rw [hsd]; exact (congrArg (fun z => some (Value.int z)) (if_neg hng)).symm) hS dX3_at_23
      · obtain ⟨x0, hx0, hxe⟩ := nI_of hc3
        subst hxe
        have hti := nI_toInt hx0
        refine lv_iload_n hx hb dX3_at_11 rfl (lv_at hl 1 rfl) ?_
        refine lv_aload_n hx hb dX3_at_12 rfl (lv_at hl 0 rfl) ?_
        refine va_get (D := G.1) (ci := 3) (v := .ref (a 0)) (C := RX3) (T := TX3) (N := 3) hx hb hts hinX3 hown hK.1 hP 11 rfl rfl 0 (by decide) (hts (.fieldLink RX3 10 "PairThreads" "pairs" "LPairThreads$Threads;") (by decide +kernel)) (fun _ h9 => h9) rfl dX3_at_13 ?_
        refine va_getN (D := G.1) (host := "PairThreads") (ci := 2) (v := .int (nI L.length)) (C := RX2) (T := TX2) (N := 5) hx hb hts hinX2 hown hK.1 hP 0 rfl rfl 4 (by decide) hK.2.nlX3_size (fun _ h9 => h9) rfl dX3_at_16 ?_
        refine z_icmp_lt (tgt := 24) hx hb (by omega) (by omega) dX3_at_19 (by decide) (fun hc4 => ?_) (fun hc4 => ?_)
        · have hpx := hp x0 (by omega)
          refine lv_aload_n hx hb dX3_at_24 rfl (lv_at hl 0 rfl) ?_
          refine va_get (D := G.1) (ci := 3) (v := .ref (a 0)) (C := RX3) (T := TX3) (N := 3) hx hb hts hinX3 hown hK.1 hP 11 rfl rfl 0 (by decide) (hts (.fieldLink RX3 10 "PairThreads" "pairs" "LPairThreads$Threads;") (by decide +kernel)) (fun _ h9 => h9) rfl dX3_at_25 ?_
          refine va_getN (D := G.1) (host := "PairThreads") (ci := 2) (v := .ref (a 2)) (C := RX2) (T := TX2) (N := 5) hx hb hts hinX2 hown hK.1 hP 0 rfl rfl 1 (by decide) hK.2.nlX3_number (fun _ h9 => h9) rfl dX3_at_28 ?_
          refine lv_iload_n hx hb dX3_at_31 rfl (lv_at hl 2 rfl) ?_
          refine z_ald hx hb hK hP 2 rfl (j := d) (by omega) (by decide) dX3_at_32 ?_
          refine lv_aload_n hx hb dX3_at_33 rfl (lv_at hl 0 rfl) ?_
          refine va_get (D := G.1) (ci := 3) (v := .ref (a 0)) (C := RX3) (T := TX3) (N := 3) hx hb hts hinX3 hown hK.1 hP 11 rfl rfl 0 (by decide) (hts (.fieldLink RX3 10 "PairThreads" "pairs" "LPairThreads$Threads;") (by decide +kernel)) (fun _ h9 => h9) rfl dX3_at_34 ?_
          refine va_getN (D := G.1) (host := "PairThreads") (ci := 2) (v := .ref (a 1)) (C := RX2) (T := TX2) (N := 5) hx hb hts hinX2 hown hK.1 hP 0 rfl rfl 0 (by decide) hK.2.nlX3_order (fun _ h9 => h9) rfl dX3_at_37 ?_
          refine lv_iload_n hx hb dX3_at_40 rfl (lv_at hl 1 rfl) ?_
          refine z_ialdN hx hb hK hP 1 rfl (j := x0) (by omega) (by decide) dX3_at_41 ?_
          refine z_iald hx hb hK hP (5 + d) (cT_N hd) (j := p x0) (by omega) (by decide) dX3_at_42 ?_
          exact z_iret hx hb hr hlocks (by unfold atA; rw [hsd]; dsimp only; rw [if_pos (by rw [hti]; omega), hti, hk d x0 hd (by omega)]; rfl) hS dX3_at_43
        · refine lv_iconst (v := nI 0) hx hb dX3_at_22 rfl ?_
          exact z_iret hx hb hr hlocks (by unfold atA; rw [hsd]; exact (congrArg (fun z => some (Value.int z)) (if_neg (by rw [hti]; omega))).symm) hS dX3_at_23

set_option maxHeartbeats 4000000 in
set_option maxRecDepth 100000 in
/-- clear -/
theorem c_clear (l : Launch) (G : Gd) (a p : Nat → Nat) (N : Nat → Nat → Int32) (B F : Nat → Nat → Option Nat) (L : List Pr) (hTI : TI p N B F L) (hnd : (aP a).Nodup) : Mt l yX3_clear wsX3_clear 0 0 [.ref (a 27)] G (cT G a p N B F L.length ++ cP a) (fun q => q ∈ aP a) (fun r h => r = some (.int (nI L.length)) ∧ cPL G a [] h) := by
  refine Mt.mk cX3_clear 2 (some .int) (by decide) rfl (Nat.le_of_ble_eq_true rfl) ?_
  intro p9 e s m below meth c ls hx hb hr hml hts hown hlocks hP hK hl
  have hinX2 : ∀ w ∈ wsX20, w ∈ wsX3_clear := by decide +kernel
  have hinX3 : ∀ w ∈ wsX30, w ∈ wsX3_clear := by decide +kernel
  have hS : va_S (fun q => q ∈ aP a) s.heap s.heap [] := va_S.rf
  have hl : lv_has ls 2 [(0, .ref (a 27))] := hl
  have hown : s.vm.findClass RX3 = some m.cls := hown
  have hDD : ∀ ws : va_W, ws.map Prod.fst = aP a → va_D (fun q => q ∈ aP a) ws := D_of hnd (fun q h => h)
  refine lv_aload_n hx hb dX3_clear_0 rfl (lv_at hl 0 rfl) ?_
  refine va_get (D := G.1) (ci := 3) (v := .ref (a 0)) (C := RX3) (T := TX3) (N := 3) hx hb hts hinX3 hown hK.1 hP 11 rfl rfl 0 (by decide) (hts (.fieldLink RX3 10 "PairThreads" "pairs" "LPairThreads$Threads;") (by decide +kernel)) (fun _ h9 => h9) rfl dX3_clear_1 ?_
  refine va_getN (D := G.1) (host := "PairThreads") (ci := 2) (v := .int (nI L.length)) (C := RX2) (T := TX2) (N := 5) hx hb hts hinX2 hown hK.1 hP 0 rfl rfl 4 (by decide) hK.2.nlX3_size (fun _ h9 => h9) rfl dX3_clear_4 ?_
  refine lv_istore_n (lv' := [(1, .int (nI L.length)), (0, .ref (a 27))]) hx hb dX3_clear_7 rfl hl (by decide) rfl (fun ls hl => ?_)
  refine lv_aload_n hx hb dX3_clear_8 rfl (lv_at hl 1 rfl) ?_
  refine va_get (D := G.1) (ci := 3) (v := .ref (a 0)) (C := RX3) (T := TX3) (N := 3) hx hb hts hinX3 hown hK.1 hP 11 rfl rfl 0 (by decide) (hts (.fieldLink RX3 10 "PairThreads" "pairs" "LPairThreads$Threads;") (by decide +kernel)) (fun _ h9 => h9) rfl dX3_clear_9 ?_
  refine lv_iconst (v := nI 0) hx hb dX3_clear_12 rfl ?_
  refine va_putN (D := G.1) (host := "PairThreads") (ci := 2) (v := .int (nI 0)) (ty := .int) (C := RX2) (T := TX2) (N := 5) hx hb hts hinX2 tyX2 tyX2_ok nmX2 hown hK.1 hP (hDD _ rfl) hS 0 rfl rfl 4 (by decide) hK.2.nlX3_size (fun _ h9 => h9) rfl (by decide +kernel) rfl rfl (Nat.le_of_ble_eq_true rfl) dX3_clear_13 (fun H locs hP _ hS => ?_)
  have hP : va_P G.1 vwCl (cT G a p N B F 0 ++ cP a) H := hP
  refine lv_iload_n hx hb dX3_clear_16 rfl (lv_at hl 0 rfl) ?_
  exact z_iret hx hb hr hlocks ⟨rfl, p, N, B, F, TI_clear hTI, hP⟩ hS dX3_clear_17

set_option maxHeartbeats 4000000 in
set_option maxRecDepth 100000 in
/-- check -/
theorem c_check (l : Launch) (G : Gd) (a p : Nat → Nat) (N : Nat → Nat → Int32) (B F : Nat → Nat → Option Nat) (L : List Pr) (hTI : TI p N B F L) : Mt l yX3_check wsX3_check 2 50 [.ref (a 27)] G (cT G a p N B F L.length ++ cP a) (fun _ => False) (fun r _ => r = some (.int (nI 1))) := by
  refine Mt.mk cX3_check 1 (some .int) (by decide) rfl (Nat.le_of_ble_eq_true rfl) ?_
  intro p9 e s m below meth c ls hx hb hr hml hts hown hlocks hP hK hl
  have hinX3 : ∀ w ∈ wsX30, w ∈ wsX3_check := by decide +kernel
  have hS : va_S (fun _ => False) s.heap s.heap [] := va_S.rf
  have hl : lv_has ls 1 [(0, .ref (a 27))] := hl
  have hown : s.vm.findClass RX3 = some m.cls := hown
  obtain ⟨hp, hinj, hn, hk, hlk⟩ := id hTI
  refine lv_aload_n hx hb dX3_check_0 rfl (lv_at hl 0 rfl) ?_
  refine va_get (D := G.1) (ci := 3) (v := .ref (a 0)) (C := RX3) (T := TX3) (N := 3) hx hb hts hinX3 hown hK.1 hP 11 rfl rfl 0 (by decide) (hts (.fieldLink RX3 10 "PairThreads" "pairs" "LPairThreads$Threads;") (by decide +kernel)) (fun _ h9 => h9) rfl dX3_check_1 ?_
  refine lv_iconst (v := nI 0) hx hb dX3_check_4 rfl ?_
  refine z_callV (rest := []) 1 ⟨hx, hb, hml, hown, hts⟩ hK (c_areSound l G a p N B F L.length 0 (by omega) hn hp hinj (hlk 0 (by omega)).1 (hlk 0 (by omega)).2) gX3_check_X2_areSound rfl (by decide +kernel) ⟨Nat.le_of_ble_eq_true rfl, Nat.le_of_ble_eq_true rfl⟩ (hP.sub (ws' := cT G a p N B F L.length ++ []) [0, 1, 2, 3, 4, 5, 6, 7, 8, 9, 10] rfl) 0 rfl rfl rfl rfl hl.1 rfl (Nat.le_of_ble_eq_true rfl) dX3_check_5 ⟨Nat.le_refl _, Nat.le_refl _⟩ hS (fun _ h => h.elim) (fun v9 H9 locs hR9 hk9 hS => ?_)
  obtain rfl := hR9
  have hP := P_keep0 hP hk9
  clear hk9
  generalize H9 = H at hP hS ⊢
  refine W.eq (g2 := F0 m 8 ls [.int (nI 1)]) rfl ?_
  refine z_if_eq (tgt := 26) hx hb (by omega) dX3_check_8 (by decide) (fun hc1 => ?_) (fun hc1 => ?_)
  · exact absurd hc1 (by decide)
  · refine lv_aload_n hx hb dX3_check_11 rfl (lv_at hl 0 rfl) ?_
    refine va_get (D := G.1) (ci := 3) (v := .ref (a 0)) (C := RX3) (T := TX3) (N := 3) hx hb hts hinX3 hown hK.1 hP 11 rfl rfl 0 (by decide) (hts (.fieldLink RX3 10 "PairThreads" "pairs" "LPairThreads$Threads;") (by decide +kernel)) (fun _ h9 => h9) rfl dX3_check_12 ?_
    refine lv_iconst (v := nI 1) hx hb dX3_check_15 rfl ?_
    refine z_callV (rest := []) 1 ⟨hx, hb, hml, hown, hts⟩ hK (c_areSound l G a p N B F L.length 1 (by omega) hn hp hinj (hlk 1 (by omega)).1 (hlk 1 (by omega)).2) gX3_check_X2_areSound rfl (by decide +kernel) ⟨Nat.le_of_ble_eq_true rfl, Nat.le_of_ble_eq_true rfl⟩ (hP.sub (ws' := cT G a p N B F L.length ++ []) [0, 1, 2, 3, 4, 5, 6, 7, 8, 9, 10] rfl) 0 rfl rfl rfl rfl hl.1 rfl (Nat.le_of_ble_eq_true rfl) dX3_check_16 ⟨Nat.le_refl _, Nat.le_refl _⟩ hS (fun _ h => h.elim) (fun v9 H9 locs hR9 hk9 hS => ?_)
    obtain rfl := hR9
    have hP := P_keep0 hP hk9
    clear hk9
    generalize H9 = H at hP hS ⊢
    refine W.eq (g2 := F0 m 19 ls [.int (nI 1)]) rfl ?_
    refine z_if_eq (tgt := 26) hx hb (by omega) dX3_check_19 (by decide) (fun hc2 => ?_) (fun hc2 => ?_)
    · exact absurd hc2 (by decide)
    · refine lv_iconst (v := nI 1) hx hb dX3_check_22 rfl ?_
      refine lv_goto (tgt := 27) hx hb dX3_check_23 (by decide) ?_
      exact z_iret hx hb hr hlocks rfl hS dX3_check_27
end
section
/-! breadth first, over n places with a relation T between them: S the places to begin with, O old ones -/
def rch (T : Nat → Nat → Prop) (n : Nat) (S : Nat → Prop) : Nat → Nat → Prop
  | 0, k => k < n ∧ S k
  | m + 1, k => k < n ∧ (rch T n S m k ∨ ∃ j, rch T n S m j ∧ T j k)
theorem rch_lt {T : Nat → Nat → Prop} {n m k : Nat} {S : Nat → Prop} (h : rch T n S m k) : k < n := by
  cases m with
  | zero => exact h.1
  | succ m => exact h.1
def cz (far : Nat → Nat) : Nat → Nat
  | 0 => 0
  | n + 1 => cz far n + (if far n = 0 then 0 else 1)
theorem cz_le (far : Nat → Nat) (n : Nat) : cz far n ≤ n := by
  induction n with
  | zero => exact Nat.le_refl _
  | succ n ih => simp only [cz]; split <;> omega
theorem cz_congr {far far' : Nat → Nat} {n : Nat} (h : ∀ i, i < n → (far i = 0 ↔ far' i = 0)) : cz far n = cz far' n := by
  induction n with
  | zero => rfl
  | succ n ih =>
    simp only [cz]
    rw [ih (fun i hi => h i (by omega))]
    by_cases q : far n = 0
    · rw [if_pos q, if_pos ((h n (by omega)).mp q)]
    · rw [if_neg q, if_neg (fun z => q ((h n (by omega)).mpr z))]
theorem cz_lt {far : Nat → Nat} {n k : Nat} (hk : k < n) (h0 : far k = 0) : cz far n < n := by
  induction n with
  | zero => omega
  | succ n ih =>
    simp only [cz]
    by_cases q : k = n
    · subst q
      have := cz_le far k
      rw [if_pos h0]; omega
    · have := ih (by omega)
      split <;> omega
theorem cz_set {far : Nat → Nat} {n k v : Nat} (hk : k < n) (h0 : far k = 0) (hv : v ≠ 0) : cz (va_up far k v) n = cz far n + 1 := by
  induction n with
  | zero => omega
  | succ n ih =>
    simp only [cz]
    by_cases q : k = n
    · subst q
      rw [up_s, if_neg hv, if_pos h0, cz_congr (far := va_up far k v) (far' := far) (fun i hi => by rw [up_n (by omega)])]
    · rw [up_n (fun z => q z.symm), ih (by omega)]
      split <;> omega
def BI (T : Nat → Nat → Prop) (n c0 : Nat) (S O : Nat → Prop) (s0 e : Nat) (q far : Nat → Nat) (b : Nat) : Prop :=
  s0 ≤ e ∧ e + c0 = cz far n ∧ (∀ i, s0 ≤ i → i < e → q i < n ∧ far (q i) ≠ 0 ∧ ¬ O (q i) ∧ far (q i) ≤ b) ∧ (∀ k, k < n → far k ≠ 0 → ¬ O k → ∃ i, s0 ≤ i ∧ i < e ∧ q i = k) ∧ (∀ k, k < n → O k → far k ≠ 0) ∧
  (∀ i j, s0 ≤ i → i ≤ j → j < e → far (q i) ≤ far (q j)) ∧ (∀ k, k < n → far k ≠ 0 → ¬ O k → rch T n S (far k - 1) k)
theorem BI_add {T : Nat → Nat → Prop} {n c0 : Nat} {S O : Nat → Prop} {s0 e : Nat} {q far : Nat → Nat} {b k : Nat} (h : BI T n c0 S O s0 e q far b) (hk : k < n) (h0 : far k = 0) (hb : 0 < b) (hr : rch T n S (b - 1) k) :
    BI T n c0 S O s0 (e + 1) (va_up q e k) (va_up far k b) b := by
  obtain ⟨h1, h2, h3, h4, h5, h6, h7⟩ := h
  have hOk : ¬ O k := fun z => h5 k hk z h0
  have qe : ∀ i, i < e → va_up q e k i = q i := fun i hi => up_n (by omega)
  have fe : ∀ x, x ≠ k → va_up far k b x = far x := fun x hx => up_n hx
  have qk : ∀ i, s0 ≤ i → i < e → q i ≠ k := fun i a1 a2 z => (h3 i a1 a2).2.1 (by rw [z]; exact h0)
  refine ⟨by omega, by rw [cz_set hk h0 (by omega)]; omega, fun i a1 a2 => ?_, fun x a1 a2 a3 => ?_, fun x a1 a2 => ?_, fun i j a1 a2 a3 => ?_, fun x a1 a2 a3 => ?_⟩
  · rcases Nat.lt_succ_iff_lt_or_eq.mp a2 with z | z
    · rw [qe i z, fe _ (qk i a1 z)]
      exact h3 i a1 z
    · subst z
      rw [up_s, up_s]
      exact ⟨hk, by omega, hOk, Nat.le_refl _⟩
  · by_cases z : x = k
    · exact ⟨e, h1, by omega, by rw [up_s, z]⟩
    · rw [fe x z] at a2
      obtain ⟨i, c1, c2, c3⟩ := h4 x a1 a2 a3
      exact ⟨i, c1, by omega, by rw [qe i c2]; exact c3⟩
  · by_cases z : x = k
    · rw [z, up_s]; omega
    · rw [fe x z]; exact h5 x a1 a2
  · rcases Nat.lt_succ_iff_lt_or_eq.mp a3 with z | z
    · rw [qe i (by omega), qe j z, fe _ (qk i a1 (by omega)), fe _ (qk j (by omega) z)]
      exact h6 i j a1 a2 z
    · subst z
      rw [up_s, up_s]
      rcases Nat.lt_or_ge i j with y | y
      · rw [qe i y, fe _ (qk i a1 y)]
        exact (h3 i a1 y).2.2.2
      · rw [show i = j by omega, up_s, up_s]
        exact Nat.le_refl _
  · by_cases z : x = k
    · rw [z, up_s]; exact hr
    · rw [fe x z]
      rw [fe x z] at a2
      exact h7 x a1 a2 a3
theorem BI_wk {T : Nat → Nat → Prop} {n c0 : Nat} {S O : Nat → Prop} {s0 e : Nat} {q far : Nat → Nat} {b b' : Nat} (hb : b ≤ b') (h : BI T n c0 S O s0 e q far b) : BI T n c0 S O s0 e q far b' := by
  obtain ⟨h1, h2, h3, h4⟩ := h
  exact ⟨h1, h2, fun i a1 a2 => ⟨(h3 i a1 a2).1, (h3 i a1 a2).2.1, (h3 i a1 a2).2.2.1, Nat.le_trans (h3 i a1 a2).2.2.2 hb⟩, h4⟩
theorem BI_to {T : Nat → Nat → Prop} {n c0 : Nat} {S O : Nat → Prop} {s0 e : Nat} {q far far' : Nat → Nat} {b : Nat} (hf : ∀ i, i < n → far' i = far i) (h : BI T n c0 S O s0 e q far b) : BI T n c0 S O s0 e q far' b := by
  obtain ⟨h1, h2, h3, h4, h5, h6, h7⟩ := h
  refine ⟨h1, by rw [h2]; exact cz_congr (fun i hi => by rw [hf i hi]), fun i a1 a2 => ?_, fun k a1 a2 => ?_, fun k a1 a2 => ?_, fun i j a1 a2 a3 => ?_, fun k a1 a2 a3 => ?_⟩
  · have := h3 i a1 a2
    rw [hf _ this.1]; exact this
  · rw [hf k a1] at a2; exact h4 k a1 a2
  · rw [hf k a1]; exact h5 k a1 a2
  · rw [hf _ (h3 i a1 (by omega)).1, hf _ (h3 j (by omega) a3).1]; exact h6 i j a1 a2 a3
  · rw [hf k a1]; rw [hf k a1] at a2; exact h7 k a1 a2 a3
def Ext (n e : Nat) (q far : Nat → Nat) (e' : Nat) (q' far' : Nat → Nat) : Prop := e ≤ e' ∧ (∀ i, i < e → q' i = q i) ∧ ∀ k, k < n → far k ≠ 0 → far' k = far k
theorem Ext_rf {n e : Nat} {q far : Nat → Nat} : Ext n e q far e q far := ⟨Nat.le_refl _, fun _ _ => rfl, fun _ _ _ => rfl⟩
theorem Ext_tr {n e e1 e2 : Nat} {q far q1 far1 q2 far2 : Nat → Nat} (h1 : Ext n e q far e1 q1 far1) (h2 : Ext n e1 q1 far1 e2 q2 far2) : Ext n e q far e2 q2 far2 :=
  ⟨Nat.le_trans h1.1 h2.1, fun i hi => (h2.2.1 i (Nat.lt_of_lt_of_le hi h1.1)).trans (h1.2.1 i hi), fun k hk h => by rw [h2.2.2 k hk (by rw [h1.2.2 k hk h]; exact h), h1.2.2 k hk h]⟩
theorem Ext_add {n e k b : Nat} {q far : Nat → Nat} (h0 : far k = 0) : Ext n e q far (e + 1) (va_up q e k) (va_up far k b) :=
  ⟨by omega, fun i hi => up_n (by omega), fun x _ h => up_n (fun z => h (by rw [z]; exact h0))⟩
theorem Ext_to {n e e' : Nat} {q far q' far' far2 : Nat → Nat} (hf : ∀ i, i < n → far2 i = far' i) (h : Ext n e q far e' q' far') : Ext n e q far e' q' far2 :=
  ⟨h.1, h.2.1, fun k hk h0 => by rw [hf k hk]; exact h.2.2 k hk h0⟩
/-- the neighbours of those before t have been reached -/
def Pd (T : Nat → Nat → Prop) (n s0 t : Nat) (q far : Nat → Nat) : Prop := ∀ i, s0 ≤ i → i < t → ∀ k, k < n → T (q i) k → far k ≠ 0 ∧ far k ≤ far (q i) + 1
theorem Pd_ext {T : Nat → Nat → Prop} {n s0 t e e' : Nat} {q far q' far' : Nat → Nat} (ht : t ≤ e) (hq : ∀ i, s0 ≤ i → i < e → q i < n ∧ far (q i) ≠ 0) (h : Pd T n s0 t q far) (hx : Ext n e q far e' q' far') : Pd T n s0 t q' far' := by
  intro i a1 a2 k hk hT
  rw [hx.2.1 i (by omega)] at hT ⊢
  obtain ⟨b1, b2⟩ := h i a1 a2 k hk hT
  obtain ⟨c1, c2⟩ := hq i a1 (by omega)
  rw [hx.2.2 k hk b1, hx.2.2 _ c1 c2]
  exact ⟨b1, b2⟩
def IsFar (T : Nat → Nat → Prop) (n : Nat) (S : Nat → Prop) (far : Nat → Nat) : Prop :=
  (∀ k, k < n → far k ≠ 0 → rch T n S (far k - 1) k) ∧ (∀ k, k < n → S k → far k ≠ 0 ∧ far k ≤ 1) ∧ ∀ j k, j < n → k < n → far j ≠ 0 → T j k → far k ≠ 0 ∧ far k ≤ far j + 1
theorem IsFar_of {T : Nat → Nat → Prop} {n c0 : Nat} {S : Nat → Prop} {s0 e : Nat} {q far : Nat → Nat} {b : Nat} (h : BI T n c0 S (fun _ => False) s0 e q far b) (hp : Pd T n s0 e q far) (hs : ∀ k, k < n → S k → far k ≠ 0 ∧ far k ≤ 1) : IsFar T n S far := by
  obtain ⟨h1, h2, h3, h4, h5, h6, h7⟩ := h
  refine ⟨fun k a1 a2 => h7 k a1 a2 id, hs, fun j k a1 a2 a3 a4 => ?_⟩
  obtain ⟨i, c1, c2, c3⟩ := h4 j a1 a3 id
  subst c3
  exact hp i c1 c2 k a2 a4
theorem IsFar_le {T : Nat → Nat → Prop} {n : Nat} {S : Nat → Prop} {far : Nat → Nat} (h : IsFar T n S far) : ∀ m k, rch T n S m k → far k ≠ 0 ∧ far k ≤ m + 1 := by
  intro m
  induction m with
  | zero => intro k hk; exact h.2.1 k hk.1 hk.2
  | succ m ih =>
    intro k hk
    rcases hk with ⟨a, b | ⟨j, b, c⟩⟩
    · have := ih k b
      exact ⟨this.1, by omega⟩
    · have h1 := ih j b
      have h2 := h.2.2 j k (rch_lt b) a h1.1 c
      exact ⟨h2.1, by omega⟩
theorem IsFar_uniq {T : Nat → Nat → Prop} {n : Nat} {S : Nat → Prop} {far far' : Nat → Nat} (h : IsFar T n S far) (h' : IsFar T n S far') : ∀ k, k < n → far k = far' k := by
  intro k hk
  by_cases h0 : far k = 0
  · by_cases h1 : far' k = 0
    · rw [h0, h1]
    · exact absurd h0 (IsFar_le h _ k (h'.1 k hk h1)).1
  · have a := IsFar_le h' _ k (h.1 k hk h0)
    have b := IsFar_le h _ k (h'.1 k hk a.1)
    omega
theorem IsFar_to {T : Nat → Nat → Prop} {n : Nat} {S : Nat → Prop} {far far' : Nat → Nat} (hf : ∀ i, i < n → far' i = far i) (h : IsFar T n S far) : IsFar T n S far' :=
  ⟨fun k a1 a2 => by rw [hf k a1]; rw [hf k a1] at a2; exact h.1 k a1 a2, fun k a1 a2 => by rw [hf k a1]; exact h.2.1 k a1 a2, fun j k a1 a2 a3 a4 => by rw [hf j a1] at a3 ⊢; rw [hf k a2]; exact h.2.2 j k a1 a2 a3 a4⟩
/-- parts -/
def conn (T : Nat → Nat → Prop) (n j k : Nat) : Prop := ∃ m, rch T n (fun x => x = j) m k
noncomputable def pcn (T : Nat → Nat → Prop) (n : Nat) : Nat → Nat
  | 0 => 0
  | k + 1 => pcn T n k + @ite Nat (∃ j, j < k ∧ conn T n j k) (Classical.propDecidable _) 0 1
theorem pcn_old {T : Nat → Nat → Prop} {n k : Nat} (h : ∃ j, j < k ∧ conn T n j k) : pcn T n (k + 1) = pcn T n k := by
  show pcn T n k + _ = _
  rw [if_pos h, Nat.add_zero]
theorem pcn_new {T : Nat → Nat → Prop} {n k : Nat} (h : ¬ ∃ j, j < k ∧ conn T n j k) : pcn T n (k + 1) = pcn T n k + 1 := by
  show pcn T n k + _ = _
  rw [if_neg h]
theorem conn_step {T : Nat → Nat → Prop} {n j k x : Nat} (h : conn T n j k) (hx : x < n) (hT : T k x) : conn T n j x := by
  obtain ⟨m, h⟩ := h
  exact ⟨m + 1, hx, Or.inr ⟨k, h, hT⟩⟩
theorem conn_from {T : Nat → Nat → Prop} {n k : Nat} {S : Nat → Prop} (hS : ∀ x, x < n → S x → conn T n k x) : ∀ m x, rch T n S m x → conn T n k x := by
  intro m
  induction m with
  | zero => intro x h; exact hS x h.1 h.2
  | succ m ih =>
    intro x h
    rcases h with ⟨a, b | ⟨j, b, c⟩⟩
    · exact ih x b
    · exact conn_step (ih j b) a c
/-- what has been reached, when the places below k have been gone through -/
def PI (T : Nat → Nat → Prop) (n k : Nat) (far : Nat → Nat) : Prop := ∀ x, x < n → (far x ≠ 0 ↔ ∃ j, j < k ∧ conn T n j x)
theorem PI_0 {T : Nat → Nat → Prop} {n : Nat} {far : Nat → Nat} (h : ∀ x, x < n → far x = 0) : PI T n 0 far := fun x hx => ⟨fun z => absurd (h x hx) z, fun ⟨j, a, _⟩ => absurd a (Nat.not_lt_zero j)⟩
theorem PI_old {T : Nat → Nat → Prop} {n k : Nat} {far : Nat → Nat} (hk : k < n) (h : PI T n k far) (h0 : far k ≠ 0) : PI T n (k + 1) far := by
  intro x hx
  rw [h x hx]
  refine ⟨fun ⟨j, a, b⟩ => ⟨j, by omega, b⟩, fun ⟨j, a, b⟩ => ?_⟩
  rcases Nat.lt_succ_iff_lt_or_eq.mp a with z | z
  · exact ⟨j, z, b⟩
  · subst z
    obtain ⟨i, c1, c2⟩ := (h j hk).mp h0
    obtain ⟨m, b⟩ := b
    exact ⟨i, c1, conn_from (S := fun x => x = j) (fun y _ hy => by rw [hy]; exact c2) m x b⟩
theorem PI_new {T : Nat → Nat → Prop} {n k c0 : Nat} {S : Nat → Prop} {s0 e : Nat} {q far far' : Nat → Nat} {b : Nat} (hsym : ∀ x y, T x y → T y x) (hk : k < n) (h : PI T n k far) (h0 : far k = 0) (hSk : S k) (hS : ∀ x, x < n → S x → conn T n k x)
    (hB : BI T n c0 S (fun x => far x ≠ 0) s0 e q far' b) (hp : Pd T n s0 e q far') (hs : ∀ x, x < n → S x → far' x ≠ 0) (hx : ∀ x, x < n → far x ≠ 0 → far' x = far x) : PI T n (k + 1) far' := by
  obtain ⟨h1, h2, h3, h4, h5, h6, h7⟩ := hB
  have hcl : ∀ x y, x < n → y < n → far x ≠ 0 → T x y → far y ≠ 0 := fun x y a1 a2 a3 a4 => by
    obtain ⟨j, b1, b2⟩ := (h x a1).mp a3
    exact (h y a2).mpr ⟨j, b1, conn_step b2 a2 a4⟩
  have key : ∀ m x, rch T n (fun x => x = k) m x → far' x ≠ 0 ∧ ¬ far x ≠ 0 := by
    intro m
    induction m with
    | zero =>
      intro x hx'
      rw [hx'.2]
      exact ⟨hs k hk hSk, fun z => z h0⟩
    | succ m ih =>
      intro x hx'
      rcases hx' with ⟨a, b | ⟨j, b, c⟩⟩
      · exact ih x b
      · obtain ⟨d1, d2⟩ := ih j b
        obtain ⟨i, e1, e2, e3⟩ := h4 j (rch_lt b) d1 d2
        subst e3
        exact ⟨(hp i e1 e2 x a c).1, fun z => d2 (hcl x (q i) a (rch_lt b) z (hsym _ _ c))⟩
  intro x hx'
  constructor
  · intro z
    by_cases ho : far x ≠ 0
    · obtain ⟨j, a1, a2⟩ := (h x hx').mp ho
      exact ⟨j, by omega, a2⟩
    · exact ⟨k, by omega, conn_from hS _ x (h7 x hx' z ho)⟩
  · rintro ⟨j, a1, a2⟩
    rcases Nat.lt_succ_iff_lt_or_eq.mp a1 with z | z
    · have := (h x hx').mpr ⟨j, z, a2⟩
      rw [hx x hx' this]; exact this
    · subst z
      obtain ⟨m, a2⟩ := a2
      exact (key m x a2).1
/-- two pairs have a number in common -/
def tch (L : List Pr) (i j : Nat) : Prop := key 0 L i = key 0 L j ∨ key 1 L i = key 1 L j
theorem tch_sym (L : List Pr) : ∀ x y, tch L x y → tch L y x := fun _ _ h => h.imp Eq.symm Eq.symm
theorem tch_d {L : List Pr} {d i j : Nat} (hd : d < 2) (h : key d L i = key d L j) : tch L i j := by
  rcases (show d = 0 ∨ d = 1 by omega) with rfl | rfl
  · exact Or.inl h
  · exact Or.inr h
/-- the answers -/
def partR (L : List Pr) (sx v : Int32) (r : Nat) : Prop := match sideOf sx with
  | none => r = 0
  | some d => ∃ far, IsFar (tch L) L.length (fun i => key d L i = v) far ∧ r = cz far L.length
def wayR (L : List Pr) (sx v ox w : Int32) (r : Nat) : Prop := match sideOf sx, sideOf ox with
  | some d, some o => ∃ far, IsFar (tch L) L.length (fun i => key d L i = v) far ∧ ((r = 0 ∧ ∀ k, k < L.length → key o L k = w → far k = 0) ∨ (∃ k, k < L.length ∧ key o L k = w ∧ far k ≠ 0 ∧ r = far k ∧ ∀ j, j < L.length → key o L j = w → far j ≠ 0 → far k ≤ far j))
  | _, _ => r = 0
theorem partR_uniq {L : List Pr} {sx v : Int32} {r r' : Nat} (h : partR L sx v r) (h' : partR L sx v r') : r = r' := by
  unfold partR at h h'
  cases hs : sideOf sx with
  | none => rw [hs] at h h'; exact h.trans h'.symm
  | some d =>
    rw [hs] at h h'
    obtain ⟨f, a1, a2⟩ := h
    obtain ⟨f', b1, b2⟩ := h'
    rw [a2, b2]
    exact cz_congr (fun i hi => by rw [IsFar_uniq a1 b1 i hi])
theorem wayR_uniq {L : List Pr} {sx v ox w : Int32} {r r' : Nat} (h : wayR L sx v ox w r) (h' : wayR L sx v ox w r') : r = r' := by
  unfold wayR at h h'
  cases hs : sideOf sx with
  | none => rw [hs] at h h'; exact h.trans h'.symm
  | some d =>
    cases ho : sideOf ox with
    | none => rw [hs, ho] at h h'; exact h.trans h'.symm
    | some o =>
      rw [hs, ho] at h h'
      obtain ⟨f, a1, a2⟩ := h
      obtain ⟨f', b1, b2⟩ := h'
      have e := IsFar_uniq a1 b1
      rcases a2 with ⟨c1, c2⟩ | ⟨k, c1, c2, c3, c4, c5⟩ <;> rcases b2 with ⟨d1, d2⟩ | ⟨j, d1, d2, d3, d4, d5⟩
      · rw [c1, d1]
      · exact absurd (by rw [← e j d1]; exact c2 j d1 d2) d3
      · exact absurd (by rw [e k c1]; exact d2 k c1 c2) c3
      · have g1 := c5 j d1 d2 (by rw [e j d1]; exact d3)
        have g2 := d5 k c1 c2 (by rw [← e k c1]; exact c3)
        have e1 := e j d1
        have e2 := e k c1
        omega
end
section
/-! the same with bounds on the rows -/
def BJ (T : Nat → Nat → Prop) (n c0 : Nat) (S O : Nat → Prop) (s0 e : Nat) (q far : Nat → Nat) (b : Nat) : Prop :=
  BI T n c0 S O s0 e q far b ∧ (∀ i, s0 ≤ i → i < e → far (q i) ≤ i + 1) ∧ (∀ k, k < n → far k ≤ 300) ∧ n ≤ 300
theorem BJ_add {T : Nat → Nat → Prop} {n c0 : Nat} {S O : Nat → Prop} {s0 e : Nat} {q far : Nat → Nat} {b k : Nat} (h : BJ T n c0 S O s0 e q far b) (hk : k < n) (h0 : far k = 0) (hb : 0 < b) (hbe : b ≤ e + 1) (hr : rch T n S (b - 1) k) :
    BJ T n c0 S O s0 (e + 1) (va_up q e k) (va_up far k b) b := by
  obtain ⟨h1, h2, h3, h4⟩ := h
  refine ⟨BI_add h1 hk h0 hb hr, fun i a1 a2 => ?_, fun x hx => ?_, h4⟩
  · rcases Nat.lt_succ_iff_lt_or_eq.mp a2 with z | z
    · rw [up_n (show i ≠ e by omega), up_n (fun y => (h1.2.2.1 i a1 z).2.1 (by rw [y]; exact h0))]
      exact h2 i a1 z
    · subst z
      rw [up_s, up_s]; exact hbe
  · by_cases z : x = k
    · rw [z, up_s]
      have := cz_lt hk h0
      have := h1.2.1
      omega
    · rw [up_n z]; exact h3 x hx
theorem BJ_wk {T : Nat → Nat → Prop} {n c0 : Nat} {S O : Nat → Prop} {s0 e : Nat} {q far : Nat → Nat} {b b' : Nat} (hb : b ≤ b') (h : BJ T n c0 S O s0 e q far b) : BJ T n c0 S O s0 e q far b' := ⟨BI_wk hb h.1, h.2⟩
theorem BJ_to {T : Nat → Nat → Prop} {n c0 : Nat} {S O : Nat → Prop} {s0 e : Nat} {q far far' : Nat → Nat} {b : Nat} (hf : ∀ i, i < n → far' i = far i) (h : BJ T n c0 S O s0 e q far b) : BJ T n c0 S O s0 e q far' b :=
  ⟨BI_to hf h.1, fun i a1 a2 => by rw [hf _ (h.1.2.2.1 i a1 a2).1]; exact h.2.1 i a1 a2, fun k hk => by rw [hf k hk]; exact h.2.2.1 k hk, h.2.2.2⟩
theorem BJ_lt {T : Nat → Nat → Prop} {n c0 : Nat} {S O : Nat → Prop} {s0 e : Nat} {q far : Nat → Nat} {b k : Nat} (h : BJ T n c0 S O s0 e q far b) (hk : k < n) (h0 : far k = 0) : e < n := by
  have := cz_lt hk h0
  have := h.1.2.1
  omega
theorem BJ_le {T : Nat → Nat → Prop} {n c0 : Nat} {S O : Nat → Prop} {s0 e : Nat} {q far : Nat → Nat} {b : Nat} (h : BJ T n c0 S O s0 e q far b) : e ≤ n := by
  have := cz_le far n
  have := h.1.2.1
  omega
/-- nothing reached yet but what is old -/
theorem BJ_0 {T : Nat → Nat → Prop} {n c0 e : Nat} {S : Nat → Prop} {q far : Nat → Nat} {b : Nat} (hn : n ≤ 300) (hf : ∀ k, k < n → far k ≤ 300) (hc : e + c0 = cz far n) : BJ T n c0 S (fun x => far x ≠ 0) e e q far b :=
  ⟨⟨Nat.le_refl _, hc, fun i a1 a2 => absurd a2 (by omega), fun k _ a2 a3 => absurd a2 a3, fun k _ a => a, fun i j a1 a2 a3 => absurd a3 (by omega), fun k _ a2 a3 => absurd a2 a3⟩, fun i a1 a2 => absurd a2 (by omega), hf, hn⟩
theorem cz_0 {far : Nat → Nat} {n : Nat} (h : ∀ k, k < n → far k = 0) : cz far n = 0 := by
  induction n with
  | zero => rfl
  | succ n ih => simp only [cz]; rw [ih (fun k hk => h k (by omega)), if_pos (h n (by omega))]
theorem BJ_F {T : Nat → Nat → Prop} {n : Nat} {S : Nat → Prop} {q far : Nat → Nat} {b : Nat} (hn : n ≤ 300) (h : ∀ k, k < n → far k = 0) : BJ T n 0 S (fun _ => False) 0 0 q far b :=
  ⟨⟨Nat.le_refl _, (cz_0 h).symm, fun i a1 a2 => absurd a2 (by omega), fun k a1 a2 => absurd (h k a1) a2, fun k _ a => a.elim, fun i j a1 a2 a3 => absurd a3 (by omega), fun k a1 a2 => absurd (h k a1) a2⟩, fun i a1 a2 => absurd a2 (by omega), fun k hk => by rw [h k hk]; omega, hn⟩
/-- the next place of the row, and a neighbour of it -/
theorem BJ_nb {T : Nat → Nat → Prop} {n c0 : Nat} {S O : Nat → Prop} {s0 e : Nat} {q far : Nat → Nat} {b t k : Nat} (h : BJ T n c0 S O s0 e q far b) (h1 : s0 ≤ t) (h2 : t < e) (hk : k < n) (hT : T (q t) k) : rch T n S (far (q t) + 1 - 1) k := by
  obtain ⟨a1, a2, a3, -⟩ := h.1.2.2.1 t h1 h2
  have := h.1.2.2.2.2.2.2 _ a1 a2 a3
  rw [show far (q t) + 1 - 1 = (far (q t) - 1) + 1 by omega]
  exact ⟨hk, Or.inr ⟨_, this, hT⟩⟩
/-- a place that has been reached and is not old has a small row -/
theorem BJ_far {T : Nat → Nat → Prop} {n c0 : Nat} {S O : Nat → Prop} {s0 e : Nat} {q far : Nat → Nat} {b k : Nat} (h : BJ T n c0 S O s0 e q far b) (hk : k < n) (h0 : far k ≠ 0) (hO : ¬ O k) : far k ≤ b := by
  obtain ⟨i, a1, a2, a3⟩ := h.1.2.2.2.1 k hk h0 hO
  subst a3
  exact (h.1.2.2.1 i a1 a2).2.2.2
theorem vis_add {n : Nat} {far : Nat → Nat} {k b c : Nat} {P : Nat → Prop} (h0 : far k = 0) (h : ∀ x, x < n → P x → far x ≠ 0 ∧ far x ≤ c) : ∀ x, x < n → P x → va_up far k b x ≠ 0 ∧ va_up far k b x ≤ c := by
  intro x hx hp
  have := h x hx hp
  rw [up_n (fun z => this.1 (by rw [z]; exact h0))]
  exact this
def zr (k : Nat) (f : Nat → Nat) : Nat → Nat := fun j => if j < k then 0 else f j
theorem zr_0 (f : Nat → Nat) : zr 0 f = f := by
  funext j
  unfold zr
  rw [if_neg (by omega)]
theorem zr_s (k : Nat) (f : Nat → Nat) : va_up (zr k f) k 0 = zr (k + 1) f := by
  funext j
  unfold va_up zr
  by_cases h : j = k
  · rw [if_pos h, if_pos (by omega)]
  · rw [if_neg h]
    by_cases h2 : j < k
    · rw [if_pos h2, if_pos (by omega)]
    · rw [if_neg h2, if_neg (by omega)]
section ZR2
variable {p : Program} {l : Launch} {e : Env} {R : Room} {s : State} {m : MethodId} {args : Array Value} {below : List Frame} {meth : Method} {c : Code} {H : Heap} {locs : List Loc} {cells slots : Nat} {Q : State → Prop}
variable {cc : ByteArray} {pc : Nat} {ls : Array Slot} {rest : List Value}
theorem z_if_le (hx : p.tables.exec = Jvm.exec) (hb : c.code = cc) {x : Nat} {off : Int} {tgt : Nat} (h1 : x < 2 ^ 31) (hdg : decode cc pc = .ok (.ifCond .le off, 3)) (ht : (pc : Int) + off = (tgt : Int))
    (kt : x = 0 → W p l e R s m args below meth c H locs cells slots Q (F0 m tgt ls rest)) (kf : x ≠ 0 → W p l e R s m args below meth c H locs cells slots Q (F0 m (pc + 3) ls rest)) : W p l e R s m args below meth c H locs cells slots Q (F0 m pc ls (.int (nI x) :: rest)) :=
  lv_if_le hx hb hdg ht (fun h => kt (by
    rcases Nat.eq_zero_or_pos x with q | q
    · exact q
    · exact absurd h (nI_nle q h1))) (fun h => kf (fun q => h (by rw [q]; decide)))
end ZR2
end
section
set_option maxHeartbeats 4000000 in
set_option maxRecDepth 100000 in
/-- the model: touch -/
theorem c_touch (l : Launch) (G : Gd) (b : Nat → Nat) (lf : Nat → Int32) (rt : Nat → Int32) (lo : Nat → Nat) (ro : Nat → Nat) (fo : Nat → Option Nat) (no : Nat → Option Nat) (lm : Nat) (rm : Nat) (pa : Nat → Option Nat) (mt : Nat → Int32) (q : Nat → Nat) (cf : Nat → Option Nat) (fa : Nat → Nat) (kp : Nat → Int32) (L : List Pr) (hMI : MI lf rt L) (i j : Nat) (hi : i < L.length) (hj : j < L.length) : Mt l yX4_touch wsX4_touch 0 0 [.ref (b 0), .int (nI i), .int (nI j)] G (cR G b L.length lf rt lo ro fo no lm rm pa mt q cf fa kp) (fun _ => False) (fun r _ => ∃ z : Nat, r = some (.int (nI z)) ∧ ((z = 1 ∧ tch L i j) ∨ (z = 0 ∧ ¬ tch L i j))) := by
  refine Mt.mk cX4_touch 3 (some .boolean) (by decide) rfl (Nat.le_of_ble_eq_true rfl) ?_
  intro p9 e s m below meth c ls hx hb hr hml hts hown hlocks hP hK hl
  have hinX4 : ∀ w ∈ wsX40, w ∈ wsX4_touch := by decide +kernel
  have hS : va_S (fun _ => False) s.heap s.heap [] := va_S.rf
  have hl : lv_has ls 3 [(0, .ref (b 0)), (1, .int (nI i)), (2, .int (nI j))] := hl
  have hown : s.vm.findClass RX4 = some m.cls := hown
  have hn := hMI.1
  have hi0 := hMI.2 i hi
  have hj0 := hMI.2 j hj
  refine lv_aload_n hx hb dX4_touch_0 rfl (lv_at hl 0 rfl) ?_
  refine va_get (D := G.1) (ci := 4) (v := .ref (b 1)) (C := RX4) (T := TX4) (N := 15) hx hb hts hinX4 hown hK.1 hP 0 rfl rfl 1 (by decide) (hts (.fieldLink RX4 7 "PairThreadsModel" "lefts" "[I") (by decide +kernel)) (fun _ h9 => h9) rfl dX4_touch_1 ?_
  refine lv_iload_n hx hb dX4_touch_4 rfl (lv_at hl 1 rfl) ?_
  refine z_iald hx hb hK hP 1 rfl (j := i) (by omega) (by decide) dX4_touch_5 ?_
  refine lv_aload_n hx hb dX4_touch_6 rfl (lv_at hl 0 rfl) ?_
  refine va_get (D := G.1) (ci := 4) (v := .ref (b 1)) (C := RX4) (T := TX4) (N := 15) hx hb hts hinX4 hown hK.1 hP 0 rfl rfl 1 (by decide) (hts (.fieldLink RX4 7 "PairThreadsModel" "lefts" "[I") (by decide +kernel)) (fun _ h9 => h9) rfl dX4_touch_7 ?_
  refine lv_iload_n hx hb dX4_touch_10 rfl (lv_at hl 2 rfl) ?_
  refine z_iald hx hb hK hP 1 rfl (j := j) (by omega) (by decide) dX4_touch_11 ?_
  refine lv_icmp_eq (tgt := 30) hx hb dX4_touch_12 (by decide) (fun hc1 => ?_) (fun hc1 => ?_)
  · refine lv_iconst (v := nI 1) hx hb dX4_touch_30 rfl ?_
    refine lv_goto (tgt := 35) hx hb dX4_touch_31 (by decide) ?_
    exact z_zret hx hb hr rfl hlocks ⟨1, rfl, Or.inl ⟨rfl, Or.inl (by rw [← hi0.1, ← hj0.1]; exact hc1)⟩⟩ hS dX4_touch_35
  · refine lv_aload_n hx hb dX4_touch_15 rfl (lv_at hl 0 rfl) ?_
    refine va_get (D := G.1) (ci := 4) (v := .ref (b 2)) (C := RX4) (T := TX4) (N := 15) hx hb hts hinX4 hown hK.1 hP 0 rfl rfl 2 (by decide) (hts (.fieldLink RX4 13 "PairThreadsModel" "rights" "[I") (by decide +kernel)) (fun _ h9 => h9) rfl dX4_touch_16 ?_
    refine lv_iload_n hx hb dX4_touch_19 rfl (lv_at hl 1 rfl) ?_
    refine z_iald hx hb hK hP 2 rfl (j := i) (by omega) (by decide) dX4_touch_20 ?_
    refine lv_aload_n hx hb dX4_touch_21 rfl (lv_at hl 0 rfl) ?_
    refine va_get (D := G.1) (ci := 4) (v := .ref (b 2)) (C := RX4) (T := TX4) (N := 15) hx hb hts hinX4 hown hK.1 hP 0 rfl rfl 2 (by decide) (hts (.fieldLink RX4 13 "PairThreadsModel" "rights" "[I") (by decide +kernel)) (fun _ h9 => h9) rfl dX4_touch_22 ?_
    refine lv_iload_n hx hb dX4_touch_25 rfl (lv_at hl 2 rfl) ?_
    refine z_iald hx hb hK hP 2 rfl (j := j) (by omega) (by decide) dX4_touch_26 ?_
    refine lv_icmp_ne (tgt := 34) hx hb dX4_touch_27 (by decide) (fun hc2 => ?_) (fun hc2 => ?_)
    · refine lv_iconst (v := nI 0) hx hb dX4_touch_34 rfl ?_
      exact z_zret hx hb hr rfl hlocks ⟨0, rfl, Or.inr ⟨rfl, fun z => by unfold tch at z; rw [← hi0.1, ← hj0.1, ← hi0.2, ← hj0.2] at z; exact z.elim hc1 hc2⟩⟩ hS dX4_touch_35
    · refine lv_iconst (v := nI 1) hx hb dX4_touch_30 rfl ?_
      refine lv_goto (tgt := 35) hx hb dX4_touch_31 (by decide) ?_
      exact z_zret hx hb hr rfl hlocks ⟨1, rfl, Or.inl ⟨rfl, Or.inr (by rw [← hi0.2, ← hj0.2]; exact hc2)⟩⟩ hS dX4_touch_35

set_option maxHeartbeats 4000000 in
set_option maxRecDepth 100000 in
/-- the model: clearFar -/
theorem c_clearFar (l : Launch) (G : Gd) (b : Nat → Nat) (lf : Nat → Int32) (rt : Nat → Int32) (lo : Nat → Nat) (ro : Nat → Nat) (fo : Nat → Option Nat) (no : Nat → Option Nat) (lm : Nat) (rm : Nat) (pa : Nat → Option Nat) (mt : Nat → Int32) (q : Nat → Nat) (cf : Nat → Option Nat) (fa : Nat → Nat) (kp : Nat → Int32) (L : List Pr) (hMI : MI lf rt L) (hnd : (aR b).Nodup) : Mt l yX4_clearFar wsX4_clearFar 0 0 [.ref (b 0)] G (cR G b L.length lf rt lo ro fo no lm rm pa mt q cf fa kp) (fun q => q ∈ aR b) (fun r h => r = none ∧ ∃ fa' : Nat → Nat, (∀ k, k < L.length → fa' k = 0) ∧ va_P G.1 vwCl (cR G b L.length lf rt lo ro fo no lm rm pa mt q cf fa' kp) h) := by
  refine Mt.mk cX4_clearFar 2 none (by decide) rfl (Nat.le_of_ble_eq_true rfl) ?_
  intro p9 e s m below meth c ls hx hb hr hml hts hown hlocks hP hK hl
  have hinX4 : ∀ w ∈ wsX40, w ∈ wsX4_clearFar := by decide +kernel
  have hS : va_S (fun q => q ∈ aR b) s.heap s.heap [] := va_S.rf
  have hl : lv_has ls 2 [(0, .ref (b 0))] := hl
  have hown : s.vm.findClass RX4 = some m.cls := hown
  have hDD : ∀ ws : va_W, ws.map Prod.fst = aR b → va_D (fun q => q ∈ aR b) ws := D_of hnd (fun q h => h)
  have hn := hMI.1
  refine lv_iconst (v := nI 0) hx hb dX4_clearFar_0 rfl ?_
  refine lv_istore_n (lv' := [(1, .int (nI 0)), (0, .ref (b 0))]) hx hb dX4_clearFar_1 rfl hl (by decide) rfl (fun ls hl => ?_)
  have loop : ∀ (k9 : Nat) (k : Nat) (H : Heap) (locs : List Loc) (ls : Array Slot), (L.length < k + k9) → (k ≤ L.length) → va_P G.1 vwCl (cR G b L.length lf rt lo ro fo no lm rm pa mt q cf (zr k fa) kp) H → va_S (fun q => q ∈ aR b) s.heap H locs → lv_has ls 2 [(1, .int (nI k)), (0, .ref (b 0))] → Wz p9 l e 0 0 s m [.ref (b 0)] below meth c (fun q => q ∈ aR b) (fun r h => r = none ∧ ∃ fa' : Nat → Nat, (∀ k, k < L.length → fa' k = 0) ∧ va_P G.1 vwCl (cR G b L.length lf rt lo ro fo no lm rm pa mt q cf fa' kp) h) H locs (F0 m 2 ls []) := by
    intro k9
    induction k9 with
    | zero =>
      intro k H locs ls hfuel hk hP hS hl
      exact absurd hfuel (by omega)
    | succ k9 ih =>
      intro k H locs ls hfuel hk hP hS hl
      refine lv_iload_n hx hb dX4_clearFar_2 rfl (lv_at hl 0 rfl) ?_
      refine lv_aload_n hx hb dX4_clearFar_3 rfl (lv_at hl 1 rfl) ?_
      refine va_get (D := G.1) (ci := 4) (v := .int (nI L.length)) (C := RX4) (T := TX4) (N := 15) hx hb hts hinX4 hown hK.1 hP 0 rfl rfl 0 (by decide) (hts (.fieldLink RX4 47 "PairThreadsModel" "many" "I") (by decide +kernel)) (fun _ h9 => h9) rfl dX4_clearFar_4 ?_
      refine z_icmp_ge (tgt := 23) hx hb (by omega) (by omega) dX4_clearFar_7 (by decide) (fun hc1 => ?_) (fun hc1 => ?_)
      · exact z_vret hx hb hr hlocks ⟨rfl, _, fun j hj => if_pos (by omega), hP⟩ hS dX4_clearFar_23
      · refine lv_aload_n hx hb dX4_clearFar_10 rfl (lv_at hl 1 rfl) ?_
        refine va_get (D := G.1) (ci := 4) (v := .ref (b 11)) (C := RX4) (T := TX4) (N := 15) hx hb hts hinX4 hown hK.1 hP 0 rfl rfl 13 (by decide) (hts (.fieldLink RX4 41 "PairThreadsModel" "far" "[I") (by decide +kernel)) (fun _ h9 => h9) rfl dX4_clearFar_11 ?_
        refine lv_iload_n hx hb dX4_clearFar_14 rfl (lv_at hl 0 rfl) ?_
        refine lv_iconst (v := nI 0) hx hb dX4_clearFar_15 rfl ?_
        refine z_iastN hx hb hK hP (hDD _ rfl) hS 11 rfl (j := k) (by omega) (by decide) dX4_clearFar_16 (fun H locs hP hS => ?_)
        have hP : va_P G.1 vwCl (cR G b L.length lf rt lo ro fo no lm rm pa mt q cf (va_up (zr k fa) k 0) kp) H := hP
        refine z_iinc (lv' := [(1, .int (nI (k + 1))), (0, .ref (b 0))]) hx hb dX4_clearFar_17 hl (k := 0) rfl (by decide) rfl (fun ls hl => ?_)
        refine lv_goto (tgt := 2) hx hb dX4_clearFar_20 (by decide) ?_
        rw [zr_s] at hP
        exact ih (k + 1) H locs ls (by omega) (by omega) hP hS (lv_sub hl [0, 1] rfl)
  rw [← zr_0 fa] at hP
  exact loop (L.length + 1) 0 _ _ ls (by omega) (by omega) hP hS (lv_sub hl [0, 1] rfl)

set_option maxHeartbeats 4000000 in
set_option maxRecDepth 100000 in
/-- the model: begin -/
theorem c_begin (l : Launch) (G : Gd) (b : Nat → Nat) (lf : Nat → Int32) (rt : Nat → Int32) (lo : Nat → Nat) (ro : Nat → Nat) (fo : Nat → Option Nat) (no : Nat → Option Nat) (lm : Nat) (rm : Nat) (pa : Nat → Option Nat) (mt : Nat → Int32) (q : Nat → Nat) (cf : Nat → Option Nat) (fa : Nat → Nat) (kp : Nat → Int32) (L : List Pr) (hMI : MI lf rt L) (d : Nat) (v : Int32) (hd : d < 2) (hnd : (aR b).Nodup) : Mt l yX4_begin wsX4_begin 1 22 [.ref (b 0), .int (nI d), .int (v)] G (cR G b L.length lf rt lo ro fo no lm rm pa mt q cf fa kp) (fun q => q ∈ aR b) (fun r h => ∃ (n1 : Nat) (q' fa' : Nat → Nat), r = some (.int (nI n1)) ∧ BJ (tch L) L.length 0 (fun i => key d L i = v) (fun _ => False) 0 n1 q' fa' 1 ∧ (∀ k, k < L.length → key d L k = v → fa' k ≠ 0 ∧ fa' k ≤ 1) ∧ va_P G.1 vwCl (cR G b L.length lf rt lo ro fo no lm rm pa mt q' cf fa' kp) h) := by
  refine Mt.mk cX4_begin 5 (some .int) (by decide) rfl (Nat.le_of_ble_eq_true rfl) ?_
  intro p9 e s m below meth c ls hx hb hr hml hts hown hlocks hP hK hl
  have hinX4 : ∀ w ∈ wsX40, w ∈ wsX4_begin := by decide +kernel
  have hS : va_S (fun q => q ∈ aR b) s.heap s.heap [] := va_S.rf
  have hl : lv_has ls 5 [(0, .ref (b 0)), (1, .int (nI d)), (2, .int (v))] := hl
  have hown : s.vm.findClass RX4 = some m.cls := hown
  have hDD : ∀ ws : va_W, ws.map Prod.fst = aR b → va_D (fun q => q ∈ aR b) ws := D_of hnd (fun q h => h)
  have hn := hMI.1
  refine lv_aload_n hx hb dX4_begin_0 rfl (lv_at hl 0 rfl) ?_
  refine z_callV (rest := []) 0 ⟨hx, hb, hml, hown, hts⟩ hK (c_clearFar l G b lf rt lo ro fo no lm rm pa mt q cf fa kp L hMI hnd) gX4_begin_X4_clearFar rfl (by decide +kernel) ⟨Nat.le_of_ble_eq_true rfl, Nat.le_of_ble_eq_true rfl⟩ hP 0 rfl rfl rfl rfl hl.1 rfl (Nat.le_of_ble_eq_true rfl) dX4_begin_1 ⟨Nat.le_refl _, Nat.le_refl _⟩ hS (fun _ h => h) (fun v9 H9 locs hR9 hk9 hS => ?_)
  obtain ⟨rfl, fa1, hfa1, hP⟩ := hR9
  clear hk9
  generalize H9 = H at hP hS ⊢
  refine W.eq (g2 := F0 m 4 ls []) rfl ?_
  refine lv_iconst (v := nI 0) hx hb dX4_begin_4 rfl ?_
  refine lv_istore_n (lv' := [(3, .int (nI 0)), (0, .ref (b 0)), (1, .int (nI d)), (2, .int (v))]) hx hb dX4_begin_5 rfl hl (by decide) rfl (fun ls hl => ?_)
  refine lv_iconst (v := nI 0) hx hb dX4_begin_6 rfl ?_
  refine lv_istore (lv' := [(4, .int (nI 0)), (3, .int (nI 0)), (0, .ref (b 0)), (1, .int (nI d)), (2, .int (v))]) hx hb dX4_begin_7 hl (by decide) rfl (fun ls hl => ?_)
  have loop : ∀ (k9 : Nat) (k : Nat) (n1 : Nat) (q : Nat → Nat) (fa : Nat → Nat) (H : Heap) (locs : List Loc) (ls : Array Slot), (L.length < k + k9) → (k ≤ L.length) → (BJ (tch L) L.length 0 (fun i => key d L i = v) (fun _ => False) 0 n1 q fa 1) → (∀ j, j < L.length → (j < k ∧ key d L j = v) → fa j ≠ 0 ∧ fa j ≤ 1) → (∀ j, j < L.length → k ≤ j → fa j = 0) → va_P G.1 vwCl (cR G b L.length lf rt lo ro fo no lm rm pa mt q cf fa kp) H → va_S (fun q => q ∈ aR b) s.heap H locs → lv_has ls 5 [(4, .int (nI k)), (3, .int (nI n1)), (0, .ref (b 0)), (1, .int (nI d)), (2, .int (v))] → Wz p9 l e 1 22 s m [.ref (b 0), .int (nI d), .int (v)] below meth c (fun q => q ∈ aR b) (fun r h => ∃ (n1 : Nat) (q' fa' : Nat → Nat), r = some (.int (nI n1)) ∧ BJ (tch L) L.length 0 (fun i => key d L i = v) (fun _ => False) 0 n1 q' fa' 1 ∧ (∀ k, k < L.length → key d L k = v → fa' k ≠ 0 ∧ fa' k ≤ 1) ∧ va_P G.1 vwCl (cR G b L.length lf rt lo ro fo no lm rm pa mt q' cf fa' kp) h) H locs (F0 m 9 ls []) := by
    intro k9
    induction k9 with
    | zero =>
      intro k n1 q fa H locs ls hfuel hk hBJ hv1 hv2 hP hS hl
      exact absurd hfuel (by omega)
    | succ k9 ih =>
      intro k n1 q fa H locs ls hfuel hk hBJ hv1 hv2 hP hS hl
      have hle := BJ_le hBJ
      refine lv_iload hx hb dX4_begin_9 (lv_at hl 0 rfl) ?_
      refine lv_aload_n hx hb dX4_begin_11 rfl (lv_at hl 2 rfl) ?_
      refine va_get (D := G.1) (ci := 4) (v := .int (nI L.length)) (C := RX4) (T := TX4) (N := 15) hx hb hts hinX4 hown hK.1 hP 0 rfl rfl 0 (by decide) (hts (.fieldLink RX4 47 "PairThreadsModel" "many" "I") (by decide +kernel)) (fun _ h9 => h9) rfl dX4_begin_12 ?_
      refine z_icmp_ge (tgt := 54) hx hb (by omega) (by omega) dX4_begin_15 (by decide) (fun hc1 => ?_) (fun hc1 => ?_)
      · refine lv_iload_n hx hb dX4_begin_54 rfl (lv_at hl 1 rfl) ?_
        exact z_iret hx hb hr hlocks ⟨n1, q, fa, rfl, hBJ, fun j hj hv => hv1 j hj ⟨by omega, hv⟩, hP⟩ hS dX4_begin_55
      · refine lv_aload_n hx hb dX4_begin_18 rfl (lv_at hl 2 rfl) ?_
        refine lv_iload_n hx hb dX4_begin_19 rfl (lv_at hl 3 rfl) ?_
        refine lv_iload hx hb dX4_begin_20 (lv_at hl 0 rfl) ?_
        refine z_callV (rest := []) 2 ⟨hx, hb, hml, hown, hts⟩ hK (c_own l G b L.length lf rt lo ro fo no lm rm pa mt q cf fa kp d k (by omega) (by omega)) gX4_begin_X4_own rfl (by decide +kernel) ⟨Nat.le_of_ble_eq_true rfl, Nat.le_of_ble_eq_true rfl⟩ hP 0 rfl rfl rfl rfl hl.1 rfl (Nat.le_of_ble_eq_true rfl) dX4_begin_22 ⟨Nat.le_refl _, Nat.le_refl _⟩ hS (fun _ h => h.elim) (fun v9 H9 locs hR9 hk9 hS => ?_)
        obtain rfl := hR9
        have hP := P_keep0 hP hk9
        clear hk9
        generalize H9 = H at hP hS ⊢
        refine W.eq (g2 := F0 m 25 ls [.int (ow d lf rt k)]) rfl ?_
        refine z_top (y := key d L k) (ow_key hMI hd (by omega)) ?_
        refine lv_iload_n hx hb dX4_begin_25 rfl (lv_at hl 4 rfl) ?_
        refine lv_icmp_ne (tgt := 48) hx hb dX4_begin_26 (by decide) (fun hc2 => ?_) (fun hc2 => ?_)
        · refine z_iinc (lv' := [(4, .int (nI (k + 1))), (3, .int (nI n1)), (0, .ref (b 0)), (1, .int (nI d)), (2, .int (v))]) hx hb dX4_begin_48 hl (k := 0) rfl (by decide) rfl (fun ls hl => ?_)
          refine lv_goto (tgt := 9) hx hb dX4_begin_51 (by decide) ?_
          exact ih (k + 1) n1 q fa H locs ls (by omega) (by omega) hBJ (fun j hj hv => hv1 j hj ⟨by rcases Nat.lt_succ_iff_lt_or_eq.mp hv.1 with z | z; exact z; exact absurd (z ▸ hv.2) hc2, hv.2⟩) (fun j hj hj2 => hv2 j hj (by omega)) hP hS (lv_sub hl [0, 1, 2, 3, 4] rfl)
        · have hf0 := hv2 k (by omega) (Nat.le_refl _)
          have hlt := BJ_lt hBJ (show k < L.length by omega) hf0
          refine lv_aload_n hx hb dX4_begin_29 rfl (lv_at hl 2 rfl) ?_
          refine va_get (D := G.1) (ci := 4) (v := .ref (b 11)) (C := RX4) (T := TX4) (N := 15) hx hb hts hinX4 hown hK.1 hP 0 rfl rfl 13 (by decide) (hts (.fieldLink RX4 41 "PairThreadsModel" "far" "[I") (by decide +kernel)) (fun _ h9 => h9) rfl dX4_begin_30 ?_
          refine lv_iload hx hb dX4_begin_33 (lv_at hl 0 rfl) ?_
          refine lv_iconst (v := nI 1) hx hb dX4_begin_35 rfl ?_
          refine z_iastN hx hb hK hP (hDD _ rfl) hS 11 rfl (j := k) (by omega) (by decide) dX4_begin_36 (fun H locs hP hS => ?_)
          have hP : va_P G.1 vwCl (cR G b L.length lf rt lo ro fo no lm rm pa mt q cf (va_up fa k 1) kp) H := hP
          refine lv_aload_n hx hb dX4_begin_37 rfl (lv_at hl 2 rfl) ?_
          refine va_get (D := G.1) (ci := 4) (v := .ref (b 9)) (C := RX4) (T := TX4) (N := 15) hx hb hts hinX4 hown hK.1 hP 0 rfl rfl 11 (by decide) (hts (.fieldLink RX4 35 "PairThreadsModel" "queue" "[I") (by decide +kernel)) (fun _ h9 => h9) rfl dX4_begin_38 ?_
          refine lv_iload_n hx hb dX4_begin_41 rfl (lv_at hl 1 rfl) ?_
          refine lv_iload hx hb dX4_begin_42 (lv_at hl 0 rfl) ?_
          refine z_iastN hx hb hK hP (hDD _ rfl) hS 9 rfl (j := n1) (by omega) (by decide) dX4_begin_44 (fun H locs hP hS => ?_)
          have hP : va_P G.1 vwCl (cR G b L.length lf rt lo ro fo no lm rm pa mt (va_up q n1 k) cf (va_up fa k 1) kp) H := hP
          refine z_iinc (lv' := [(3, .int (nI (n1 + 1))), (4, .int (nI k)), (0, .ref (b 0)), (1, .int (nI d)), (2, .int (v))]) hx hb dX4_begin_45 hl (k := 1) rfl (by decide) rfl (fun ls hl => ?_)
          refine z_iinc (lv' := [(4, .int (nI (k + 1))), (3, .int (nI (n1 + 1))), (0, .ref (b 0)), (1, .int (nI d)), (2, .int (v))]) hx hb dX4_begin_48 hl (k := 1) rfl (by decide) rfl (fun ls hl => ?_)
          refine lv_goto (tgt := 9) hx hb dX4_begin_51 (by decide) ?_
          exact ih (k + 1) (n1 + 1) (va_up q n1 k) (va_up fa k 1) H locs ls (by omega) (by omega) (BJ_add hBJ (by omega) hf0 (by omega) (by omega) ⟨by omega, hc2⟩) (fun j hj hv => by rcases Nat.lt_succ_iff_lt_or_eq.mp hv.1 with z | z; rw [up_n (by omega)]; exact hv1 j hj ⟨z, hv.2⟩; rw [z, up_s]; exact ⟨by omega, Nat.le_refl _⟩) (fun j hj hj2 => by rw [up_n (by omega)]; exact hv2 j hj (by omega)) hP hS (lv_sub hl [0, 1, 2, 3, 4] rfl)
  exact loop (L.length + 1) 0 0 q fa1 _ _ ls (by omega) (by omega) (BJ_F hn hfa1) (fun j _ hj => absurd hj.1 (Nat.not_lt_zero j)) (fun j hj _ => hfa1 j hj) hP hS (lv_sub hl [0, 1, 2, 3, 4] rfl)

set_option maxHeartbeats 4000000 in
set_option maxRecDepth 100000 in
/-- the model: reach -/
theorem c_Rreach (l : Launch) (G : Gd) (b : Nat → Nat) (lf : Nat → Int32) (rt : Nat → Int32) (lo : Nat → Nat) (ro : Nat → Nat) (fo : Nat → Option Nat) (no : Nat → Option Nat) (lm : Nat) (rm : Nat) (pa : Nat → Option Nat) (mt : Nat → Int32) (q : Nat → Nat) (cf : Nat → Option Nat) (fa : Nat → Nat) (kp : Nat → Int32) (L : List Pr) (hMI : MI lf rt L) (n0 c0 : Nat) (S O : Nat → Prop) (hBJ0 : BJ (tch L) L.length c0 S O 0 n0 q fa 1) (hcl : ∀ x y, x < L.length → y < L.length → O x → tch L x y → O y) (hnd : (aR b).Nodup) : Mt l yX4_reach wsX4_reach 1 22 [.ref (b 0), .int (nI n0)] G (cR G b L.length lf rt lo ro fo no lm rm pa mt q cf fa kp) (fun q => q ∈ aR b) (fun r h => ∃ (n1 : Nat) (b1 : Nat) (q' fa' : Nat → Nat), r = some (.int (nI n1)) ∧ BJ (tch L) L.length c0 S O 0 n1 q' fa' b1 ∧ Pd (tch L) L.length 0 n1 q' fa' ∧ Ext L.length n0 q fa n1 q' fa' ∧ va_P G.1 vwCl (cR G b L.length lf rt lo ro fo no lm rm pa mt q' cf fa' kp) h) := by
  refine Mt.mk cX4_reach 5 (some .int) (by decide) rfl (Nat.le_of_ble_eq_true rfl) ?_
  intro p9 e s m below meth c ls hx hb hr hml hts hown hlocks hP hK hl
  have hinX4 : ∀ w ∈ wsX40, w ∈ wsX4_reach := by decide +kernel
  have hS : va_S (fun q => q ∈ aR b) s.heap s.heap [] := va_S.rf
  have hl : lv_has ls 5 [(0, .ref (b 0)), (1, .int (nI n0))] := hl
  have hown : s.vm.findClass RX4 = some m.cls := hown
  have hDD : ∀ ws : va_W, ws.map Prod.fst = aR b → va_D (fun q => q ∈ aR b) ws := D_of hnd (fun q h => h)
  have hn := hMI.1
  refine lv_iload_n hx hb dX4_reach_0 rfl (lv_at hl 1 rfl) ?_
  refine lv_istore_n (lv' := [(2, .int (nI n0)), (0, .ref (b 0)), (1, .int (nI n0))]) hx hb dX4_reach_1 rfl hl (by decide) rfl (fun ls hl => ?_)
  refine lv_iconst (v := nI 0) hx hb dX4_reach_2 rfl ?_
  refine lv_istore_n (lv' := [(3, .int (nI 0)), (2, .int (nI n0)), (0, .ref (b 0)), (1, .int (nI n0))]) hx hb dX4_reach_3 rfl hl (by decide) rfl (fun ls hl => ?_)
  obtain ⟨q0, hq0⟩ : ∃ z, z = q := ⟨_, rfl⟩
  obtain ⟨f0, hf0⟩ : ∃ z, z = fa := ⟨_, rfl⟩
  have loop : ∀ (k9 : Nat) (t : Nat) (n1 : Nat) (b1 : Nat) (q : Nat → Nat) (fa : Nat → Nat) (H : Heap) (locs : List Loc) (ls : Array Slot), (L.length < t + k9 ∧ n1 ≤ L.length) → (t ≤ n1) → (BJ (tch L) L.length c0 S O 0 n1 q fa b1) → (t < n1 → b1 ≤ fa (q t) + 1) → (Pd (tch L) L.length 0 t q fa) → (Ext L.length n0 q0 f0 n1 q fa) → va_P G.1 vwCl (cR G b L.length lf rt lo ro fo no lm rm pa mt q cf fa kp) H → va_S (fun q => q ∈ aR b) s.heap H locs → lv_has ls 5 [(3, .int (nI t)), (2, .int (nI n1)), (0, .ref (b 0)), (1, .int (nI n0))] → Wz p9 l e 1 22 s m [.ref (b 0), .int (nI n0)] below meth c (fun q => q ∈ aR b) (fun r h => ∃ (n1 : Nat) (b1 : Nat) (q' fa' : Nat → Nat), r = some (.int (nI n1)) ∧ BJ (tch L) L.length c0 S O 0 n1 q' fa' b1 ∧ Pd (tch L) L.length 0 n1 q' fa' ∧ Ext L.length n0 q0 f0 n1 q' fa' ∧ va_P G.1 vwCl (cR G b L.length lf rt lo ro fo no lm rm pa mt q' cf fa' kp) h) H locs (F0 m 4 ls []) := by
    intro k9
    induction k9 with
    | zero =>
      intro t n1 b1 q fa H locs ls hfuel ht hBJ hb1 hPd hEx hP hS hl
      exact absurd hfuel (by omega)
    | succ k9 ih =>
      intro t n1 b1 q fa H locs ls hfuel ht hBJ hb1 hPd hEx hP hS hl
      have hle := BJ_le hBJ
      refine lv_iload_n hx hb dX4_reach_4 rfl (lv_at hl 0 rfl) ?_
      refine lv_iload_n hx hb dX4_reach_5 rfl (lv_at hl 1 rfl) ?_
      refine z_icmp_ge (tgt := 89) hx hb (by omega) (by omega) dX4_reach_6 (by decide) (fun hc1 => ?_) (fun hc1 => ?_)
      · refine lv_iload_n hx hb dX4_reach_89 rfl (lv_at hl 1 rfl) ?_
        have he : t = n1 := by omega
        subst he
        exact z_iret hx hb hr hlocks ⟨t, b1, q, fa, rfl, hBJ, hPd, hEx, hP⟩ hS dX4_reach_90
      · have hBJ := BJ_wk (hb1 (by omega)) hBJ
        obtain ⟨x, hxe⟩ : ∃ z, z = q t := ⟨_, rfl⟩
        obtain ⟨fr, hfr⟩ : ∃ z, z = fa x := ⟨_, rfl⟩
        rw [← hxe, ← hfr] at hBJ
        refine lv_iconst (v := nI 0) hx hb dX4_reach_9 rfl ?_
        refine lv_istore (lv' := [(4, .int (nI 0)), (3, .int (nI t)), (2, .int (nI n1)), (0, .ref (b 0)), (1, .int (nI n0))]) hx hb dX4_reach_10 hl (by decide) rfl (fun ls hl => ?_)
        have ihout := ih
        have loop2 : ∀ (k9 : Nat) (k : Nat) (n1 : Nat) (q : Nat → Nat) (fa : Nat → Nat) (H : Heap) (locs : List Loc) (ls : Array Slot), (L.length < k + k9) → (k ≤ L.length) → (t < n1) → (q t = x ∧ fa x = fr) → (BJ (tch L) L.length c0 S O 0 n1 q fa (fr + 1)) → (Pd (tch L) L.length 0 t q fa) → (Ext L.length n0 q0 f0 n1 q fa) → (∀ j, j < L.length → (j < k ∧ tch L x j) → fa j ≠ 0 ∧ fa j ≤ fr + 1) → va_P G.1 vwCl (cR G b L.length lf rt lo ro fo no lm rm pa mt q cf fa kp) H → va_S (fun q => q ∈ aR b) s.heap H locs → lv_has ls 5 [(4, .int (nI k)), (3, .int (nI t)), (2, .int (nI n1)), (0, .ref (b 0)), (1, .int (nI n0))] → Wz p9 l e 1 22 s m [.ref (b 0), .int (nI n0)] below meth c (fun q => q ∈ aR b) (fun r h => ∃ (n1 : Nat) (b1 : Nat) (q' fa' : Nat → Nat), r = some (.int (nI n1)) ∧ BJ (tch L) L.length c0 S O 0 n1 q' fa' b1 ∧ Pd (tch L) L.length 0 n1 q' fa' ∧ Ext L.length n0 q0 f0 n1 q' fa' ∧ va_P G.1 vwCl (cR G b L.length lf rt lo ro fo no lm rm pa mt q' cf fa' kp) h) H locs (F0 m 12 ls []) := by
          intro k9
          induction k9 with
          | zero =>
            intro k n1 q fa H locs ls hfuel hk ht hx2 hBJ hPd hEx hPk hP hS hl
            exact absurd hfuel (by omega)
          | succ k9 ih =>
            intro k n1 q fa H locs ls hfuel hk ht hx2 hBJ hPd hEx hPk hP hS hl
            have hle := BJ_le hBJ
            obtain ⟨hqn, hq1, hq2, hq3⟩ := hBJ.1.2.2.1 t (by omega) ht
            have hJ := hBJ.2.1 t (by omega) ht
            refine lv_iload hx hb dX4_reach_12 (lv_at hl 0 rfl) ?_
            refine lv_aload_n hx hb dX4_reach_14 rfl (lv_at hl 3 rfl) ?_
            refine va_get (D := G.1) (ci := 4) (v := .int (nI L.length)) (C := RX4) (T := TX4) (N := 15) hx hb hts hinX4 hown hK.1 hP 0 rfl rfl 0 (by decide) (hts (.fieldLink RX4 47 "PairThreadsModel" "many" "I") (by decide +kernel)) (fun _ h9 => h9) rfl dX4_reach_15 ?_
            refine z_icmp_ge (tgt := 83) hx hb (by omega) (by omega) dX4_reach_18 (by decide) (fun hc2 => ?_) (fun hc2 => ?_)
            · refine z_iinc (lv' := [(3, .int (nI (t + 1))), (4, .int (nI k)), (2, .int (nI n1)), (0, .ref (b 0)), (1, .int (nI n0))]) hx hb dX4_reach_83 hl (k := 1) rfl (by decide) rfl (fun ls hl => ?_)
              refine lv_goto (tgt := 4) hx hb dX4_reach_86 (by decide) ?_
              have hPd2 : Pd (tch L) L.length 0 (t + 1) q fa := fun i a1 a2 y hy hT => by
                rcases Nat.lt_succ_iff_lt_or_eq.mp a2 with z | z
                · exact hPd i a1 z y hy hT
                · subst z; rw [hx2.1] at hT ⊢; rw [hx2.2]; exact hPk y hy ⟨by omega, hT⟩
              exact ihout (t + 1) n1 (fr + 1) q fa H locs ls (by omega) (by omega) hBJ (fun h1 => by have h2 := hBJ.1.2.2.2.2.2.1 t (t + 1) (by omega) (by omega) h1; rw [hx2.1, hx2.2] at h2; omega) hPd2 hEx hP hS (lv_sub hl [0, 2, 3, 4] rfl)
            · have hfk := hBJ.2.2.1 k (by omega)
              refine lv_aload_n hx hb dX4_reach_21 rfl (lv_at hl 3 rfl) ?_
              refine va_get (D := G.1) (ci := 4) (v := .ref (b 11)) (C := RX4) (T := TX4) (N := 15) hx hb hts hinX4 hown hK.1 hP 0 rfl rfl 13 (by decide) (hts (.fieldLink RX4 41 "PairThreadsModel" "far" "[I") (by decide +kernel)) (fun _ h9 => h9) rfl dX4_reach_22 ?_
              refine lv_iload hx hb dX4_reach_25 (lv_at hl 0 rfl) ?_
              refine z_ialdN hx hb hK hP 11 rfl (j := k) (by omega) (by decide) dX4_reach_27 ?_
              refine z_if_ne (tgt := 77) hx hb (by omega) dX4_reach_28 (by decide) (fun hc3 => ?_) (fun hc3 => ?_)
              · refine z_iinc (lv' := [(4, .int (nI (k + 1))), (3, .int (nI t)), (2, .int (nI n1)), (0, .ref (b 0)), (1, .int (nI n0))]) hx hb dX4_reach_77 hl (k := 0) rfl (by decide) rfl (fun ls hl => ?_)
                refine lv_goto (tgt := 12) hx hb dX4_reach_80 (by decide) ?_
                exact ih (k + 1) n1 q fa H locs ls (by omega) (by omega) ht hx2 hBJ hPd hEx (fun j hj hv => by rcases Nat.lt_succ_iff_lt_or_eq.mp hv.1 with z | z; exact hPk j hj ⟨z, hv.2⟩; subst z; exact ⟨hc3, BJ_far hBJ hj hc3 (fun ho => (hx2.1 ▸ hq2) (hcl j x hj (hx2.1 ▸ hqn) ho (tch_sym L _ _ hv.2)))⟩) hP hS (lv_sub hl [0, 1, 2, 3, 4] rfl)
              · refine lv_aload_n hx hb dX4_reach_31 rfl (lv_at hl 3 rfl) ?_
                refine lv_aload_n hx hb dX4_reach_32 rfl (lv_at hl 3 rfl) ?_
                refine va_get (D := G.1) (ci := 4) (v := .ref (b 9)) (C := RX4) (T := TX4) (N := 15) hx hb hts hinX4 hown hK.1 hP 0 rfl rfl 11 (by decide) (hts (.fieldLink RX4 35 "PairThreadsModel" "queue" "[I") (by decide +kernel)) (fun _ h9 => h9) rfl dX4_reach_33 ?_
                refine lv_iload_n hx hb dX4_reach_36 rfl (lv_at hl 1 rfl) ?_
                refine z_ialdN hx hb hK hP 9 rfl (j := t) (by omega) (by decide) dX4_reach_37 ?_
                refine lv_iload hx hb dX4_reach_38 (lv_at hl 0 rfl) ?_
                refine z_callV (rest := []) 2 ⟨hx, hb, hml, hown, hts⟩ hK (c_touch l G b lf rt lo ro fo no lm rm pa mt q cf fa kp L hMI (q t) k hqn (by omega)) gX4_reach_X4_touch rfl (by decide +kernel) ⟨Nat.le_of_ble_eq_true rfl, Nat.le_of_ble_eq_true rfl⟩ hP 0 rfl rfl rfl rfl hl.1 rfl (Nat.le_of_ble_eq_true rfl) dX4_reach_40 ⟨Nat.le_refl _, Nat.le_refl _⟩ hS (fun _ h => h.elim) (fun v9 H9 locs hR9 hk9 hS => ?_)
                obtain ⟨z, rfl, hz⟩ := hR9
                have hP := P_keep0 hP hk9
                clear hk9
                generalize H9 = H at hP hS ⊢
                refine W.eq (g2 := F0 m 43 ls [.int (nI z)]) rfl ?_
                rcases hz with ⟨rfl, hT⟩ | ⟨rfl, hT⟩
                · refine z_if_eq (tgt := 77) hx hb (by omega) dX4_reach_43 (by decide) (fun hc4 => ?_) (fun hc4 => ?_)
                  · exact absurd hc4 (by decide)
                  · have hlt := BJ_lt hBJ (show k < L.length by omega) hc3
                    have hqL : q t < 300 := by omega
                    have hfq : fa (q t) = fr := by rw [hx2.1]; exact hx2.2
                    have hne : x ≠ k := fun z => hq1 (by rw [hx2.1, z]; exact hc3)
                    have hrc := BJ_nb hBJ (by omega) ht (show k < L.length by omega) hT
                    refine lv_aload_n hx hb dX4_reach_46 rfl (lv_at hl 3 rfl) ?_
                    refine va_get (D := G.1) (ci := 4) (v := .ref (b 11)) (C := RX4) (T := TX4) (N := 15) hx hb hts hinX4 hown hK.1 hP 0 rfl rfl 13 (by decide) (hts (.fieldLink RX4 41 "PairThreadsModel" "far" "[I") (by decide +kernel)) (fun _ h9 => h9) rfl dX4_reach_47 ?_
                    refine lv_iload hx hb dX4_reach_50 (lv_at hl 0 rfl) ?_
                    refine lv_aload_n hx hb dX4_reach_52 rfl (lv_at hl 3 rfl) ?_
                    refine va_get (D := G.1) (ci := 4) (v := .ref (b 11)) (C := RX4) (T := TX4) (N := 15) hx hb hts hinX4 hown hK.1 hP 0 rfl rfl 13 (by decide) (hts (.fieldLink RX4 41 "PairThreadsModel" "far" "[I") (by decide +kernel)) (fun _ h9 => h9) rfl dX4_reach_53 ?_
                    refine lv_aload_n hx hb dX4_reach_56 rfl (lv_at hl 3 rfl) ?_
                    refine va_get (D := G.1) (ci := 4) (v := .ref (b 9)) (C := RX4) (T := TX4) (N := 15) hx hb hts hinX4 hown hK.1 hP 0 rfl rfl 11 (by decide) (hts (.fieldLink RX4 35 "PairThreadsModel" "queue" "[I") (by decide +kernel)) (fun _ h9 => h9) rfl dX4_reach_57 ?_
                    refine lv_iload_n hx hb dX4_reach_60 rfl (lv_at hl 1 rfl) ?_
                    refine z_ialdN hx hb hK hP 9 rfl (j := t) (by omega) (by decide) dX4_reach_61 ?_
                    refine z_ialdN hx hb hK hP 11 rfl (j := q t) (by omega) (by decide) dX4_reach_62 ?_
                    refine lv_iconst (v := nI 1) hx hb dX4_reach_63 rfl ?_
                    refine lv_iadd hx hb dX4_reach_64 ?_
                    refine z_top (y := nI (fa (q t) + 1)) (nI_add _ _) ?_
                    refine z_iastN hx hb hK hP (hDD _ rfl) hS 11 rfl (j := k) (by omega) (by decide) dX4_reach_65 (fun H locs hP hS => ?_)
                    have hP : va_P G.1 vwCl (cR G b L.length lf rt lo ro fo no lm rm pa mt q cf (va_up fa k (fa (q t) + 1)) kp) H := hP
                    refine lv_aload_n hx hb dX4_reach_66 rfl (lv_at hl 3 rfl) ?_
                    refine va_get (D := G.1) (ci := 4) (v := .ref (b 9)) (C := RX4) (T := TX4) (N := 15) hx hb hts hinX4 hown hK.1 hP 0 rfl rfl 11 (by decide) (hts (.fieldLink RX4 35 "PairThreadsModel" "queue" "[I") (by decide +kernel)) (fun _ h9 => h9) rfl dX4_reach_67 ?_
                    refine lv_iload_n hx hb dX4_reach_70 rfl (lv_at hl 2 rfl) ?_
                    refine lv_iload hx hb dX4_reach_71 (lv_at hl 0 rfl) ?_
                    refine z_iastN hx hb hK hP (hDD _ rfl) hS 9 rfl (j := n1) (by omega) (by decide) dX4_reach_73 (fun H locs hP hS => ?_)
                    have hP : va_P G.1 vwCl (cR G b L.length lf rt lo ro fo no lm rm pa mt (va_up q n1 k) cf (va_up fa k (fa (q t) + 1)) kp) H := hP
                    refine z_iinc (lv' := [(2, .int (nI (n1 + 1))), (4, .int (nI k)), (3, .int (nI t)), (0, .ref (b 0)), (1, .int (nI n0))]) hx hb dX4_reach_74 hl (k := 2) rfl (by decide) rfl (fun ls hl => ?_)
                    refine z_iinc (lv' := [(4, .int (nI (k + 1))), (2, .int (nI (n1 + 1))), (3, .int (nI t)), (0, .ref (b 0)), (1, .int (nI n0))]) hx hb dX4_reach_77 hl (k := 1) rfl (by decide) rfl (fun ls hl => ?_)
                    refine lv_goto (tgt := 12) hx hb dX4_reach_80 (by decide) ?_
                    rw [hfq] at hP hrc
                    have hBJ2 := BJ_add hBJ (show k < L.length by omega) hc3 (by omega) (by rw [hfq] at hJ; omega) hrc
                    have hE2 : Ext L.length n1 q fa (n1 + 1) (va_up q n1 k) (va_up fa k (fr + 1)) := Ext_add hc3
                    exact ih (k + 1) (n1 + 1) (va_up q n1 k) (va_up fa k (fr + 1)) H locs ls (by omega) (by omega) (by omega) ⟨by rw [up_n (by omega)]; exact hx2.1, by rw [up_n hne]; exact hx2.2⟩ hBJ2 (Pd_ext (by omega) (fun i a1 a2 => ⟨(hBJ.1.2.2.1 i a1 a2).1, (hBJ.1.2.2.1 i a1 a2).2.1⟩) hPd hE2) (Ext_tr hEx hE2) (fun j hj hv => by rcases Nat.lt_succ_iff_lt_or_eq.mp hv.1 with z | z; exact vis_add (P := fun j => j < k ∧ tch L x j) hc3 hPk j hj ⟨z, hv.2⟩; rw [z, up_s]; exact ⟨by omega, Nat.le_refl _⟩) hP hS (lv_sub hl [0, 2, 1, 3, 4] rfl)
                · refine z_if_eq (tgt := 77) hx hb (by omega) dX4_reach_43 (by decide) (fun hc5 => ?_) (fun hc5 => ?_)
                  · refine z_iinc (lv' := [(4, .int (nI (k + 1))), (3, .int (nI t)), (2, .int (nI n1)), (0, .ref (b 0)), (1, .int (nI n0))]) hx hb dX4_reach_77 hl (k := 0) rfl (by decide) rfl (fun ls hl => ?_)
                    refine lv_goto (tgt := 12) hx hb dX4_reach_80 (by decide) ?_
                    exact ih (k + 1) n1 q fa H locs ls (by omega) (by omega) ht hx2 hBJ hPd hEx (fun j hj hv => by rcases Nat.lt_succ_iff_lt_or_eq.mp hv.1 with z | z; exact hPk j hj ⟨z, hv.2⟩; subst z; exact absurd hv.2 (hx2.1 ▸ hT)) hP hS (lv_sub hl [0, 1, 2, 3, 4] rfl)
                  · exact absurd rfl hc5
        exact loop2 (L.length + 1) 0 n1 q fa _ _ ls (by omega) (by omega) (by omega) ⟨hxe.symm, hfr.symm⟩ hBJ hPd hEx (fun j _ hj => absurd hj.1 (Nat.not_lt_zero j)) hP hS (lv_sub hl [0, 1, 2, 3, 4] rfl)
  have hle := BJ_le hBJ0
  rw [hq0, hf0] at loop
  exact loop (L.length + 1) 0 n0 1 q fa _ _ ls ⟨by omega, by omega⟩ (by omega) hBJ0 (fun h => by have := (hBJ0.1.2.2.1 0 (by omega) h).2.1; omega) (fun i _ a2 => absurd a2 (by omega)) Ext_rf hP hS (lv_sub hl [0, 1, 2, 3] rfl)
end
section
set_option maxHeartbeats 4000000 in
set_option maxRecDepth 100000 in
/-- the model: parts -/
theorem c_Rparts (l : Launch) (G : Gd) (b : Nat → Nat) (lf : Nat → Int32) (rt : Nat → Int32) (lo : Nat → Nat) (ro : Nat → Nat) (fo : Nat → Option Nat) (no : Nat → Option Nat) (lm : Nat) (rm : Nat) (pa : Nat → Option Nat) (mt : Nat → Int32) (q : Nat → Nat) (cf : Nat → Option Nat) (fa : Nat → Nat) (kp : Nat → Int32) (L : List Pr) (hMI : MI lf rt L) (hnd : (aR b).Nodup) : Mt l yX4_parts wsX4_parts 2 46 [.ref (b 0)] G (cR G b L.length lf rt lo ro fo no lm rm pa mt q cf fa kp) (fun q => q ∈ aR b) (fun r h => r = some (.int (nI (pcn (tch L) L.length L.length))) ∧ ∃ q' fa' : Nat → Nat, va_P G.1 vwCl (cR G b L.length lf rt lo ro fo no lm rm pa mt q' cf fa' kp) h) := by
  refine Mt.mk cX4_parts 3 (some .int) (by decide) rfl (Nat.le_of_ble_eq_true rfl) ?_
  intro p9 e s m below meth c ls hx hb hr hml hts hown hlocks hP hK hl
  have hinX4 : ∀ w ∈ wsX40, w ∈ wsX4_parts := by decide +kernel
  have hS : va_S (fun q => q ∈ aR b) s.heap s.heap [] := va_S.rf
  have hl : lv_has ls 3 [(0, .ref (b 0))] := hl
  have hown : s.vm.findClass RX4 = some m.cls := hown
  have hDD : ∀ ws : va_W, ws.map Prod.fst = aR b → va_D (fun q => q ∈ aR b) ws := D_of hnd (fun q h => h)
  have hn := hMI.1
  refine lv_aload_n hx hb dX4_parts_0 rfl (lv_at hl 0 rfl) ?_
  refine z_callV (rest := []) 0 ⟨hx, hb, hml, hown, hts⟩ hK (c_clearFar l G b lf rt lo ro fo no lm rm pa mt q cf fa kp L hMI hnd) gX4_parts_X4_clearFar rfl (by decide +kernel) ⟨Nat.le_of_ble_eq_true rfl, Nat.le_of_ble_eq_true rfl⟩ hP 0 rfl rfl rfl rfl hl.1 rfl (Nat.le_of_ble_eq_true rfl) dX4_parts_1 ⟨Nat.le_refl _, Nat.le_refl _⟩ hS (fun _ h => h) (fun v9 H9 locs hR9 hk9 hS => ?_)
  obtain ⟨rfl, fa1, hfa1, hP⟩ := hR9
  clear hk9
  generalize H9 = H at hP hS ⊢
  refine W.eq (g2 := F0 m 4 ls []) rfl ?_
  refine lv_iconst (v := nI 0) hx hb dX4_parts_4 rfl ?_
  refine lv_istore_n (lv' := [(1, .int (nI 0)), (0, .ref (b 0))]) hx hb dX4_parts_5 rfl hl (by decide) rfl (fun ls hl => ?_)
  refine lv_iconst (v := nI 0) hx hb dX4_parts_6 rfl ?_
  refine lv_istore_n (lv' := [(2, .int (nI 0)), (1, .int (nI 0)), (0, .ref (b 0))]) hx hb dX4_parts_7 rfl hl (by decide) rfl (fun ls hl => ?_)
  have loop : ∀ (k9 : Nat) (k : Nat) (q : Nat → Nat) (fa : Nat → Nat) (H : Heap) (locs : List Loc) (ls : Array Slot), (L.length < k + k9) → (k ≤ L.length) → (PI (tch L) L.length k fa) → (∀ x, x < L.length → fa x ≤ 300) → va_P G.1 vwCl (cR G b L.length lf rt lo ro fo no lm rm pa mt q cf fa kp) H → va_S (fun q => q ∈ aR b) s.heap H locs → lv_has ls 3 [(2, .int (nI k)), (1, .int (nI (pcn (tch L) L.length k))), (0, .ref (b 0))] → Wz p9 l e 2 46 s m [.ref (b 0)] below meth c (fun q => q ∈ aR b) (fun r h => r = some (.int (nI (pcn (tch L) L.length L.length))) ∧ ∃ q' fa' : Nat → Nat, va_P G.1 vwCl (cR G b L.length lf rt lo ro fo no lm rm pa mt q' cf fa' kp) h) H locs (F0 m 8 ls []) := by
    intro k9
    induction k9 with
    | zero =>
      intro k q fa H locs ls hfuel hk hPI hFB hP hS hl
      exact absurd hfuel (by omega)
    | succ k9 ih =>
      intro k q fa H locs ls hfuel hk hPI hFB hP hS hl
      refine lv_iload_n hx hb dX4_parts_8 rfl (lv_at hl 0 rfl) ?_
      refine lv_aload_n hx hb dX4_parts_9 rfl (lv_at hl 2 rfl) ?_
      refine va_get (D := G.1) (ci := 4) (v := .int (nI L.length)) (C := RX4) (T := TX4) (N := 15) hx hb hts hinX4 hown hK.1 hP 0 rfl rfl 0 (by decide) (hts (.fieldLink RX4 47 "PairThreadsModel" "many" "I") (by decide +kernel)) (fun _ h9 => h9) rfl dX4_parts_10 ?_
      refine z_icmp_ge (tgt := 54) hx hb (by omega) (by omega) dX4_parts_13 (by decide) (fun hc1 => ?_) (fun hc1 => ?_)
      · refine lv_iload_n hx hb dX4_parts_54 rfl (lv_at hl 1 rfl) ?_
        exact z_iret hx hb hr hlocks ⟨by rw [show k = L.length by omega], q, fa, hP⟩ hS dX4_parts_55
      · have hfk := hFB k (by omega)
        refine lv_aload_n hx hb dX4_parts_16 rfl (lv_at hl 2 rfl) ?_
        refine va_get (D := G.1) (ci := 4) (v := .ref (b 11)) (C := RX4) (T := TX4) (N := 15) hx hb hts hinX4 hown hK.1 hP 0 rfl rfl 13 (by decide) (hts (.fieldLink RX4 41 "PairThreadsModel" "far" "[I") (by decide +kernel)) (fun _ h9 => h9) rfl dX4_parts_17 ?_
        refine lv_iload_n hx hb dX4_parts_20 rfl (lv_at hl 0 rfl) ?_
        refine z_ialdN hx hb hK hP 11 rfl (j := k) (by omega) (by decide) dX4_parts_21 ?_
        refine z_if_ne (tgt := 48) hx hb (by omega) dX4_parts_22 (by decide) (fun hc2 => ?_) (fun hc2 => ?_)
        · refine z_iinc (lv' := [(2, .int (nI (k + 1))), (1, .int (nI (pcn (tch L) L.length k))), (0, .ref (b 0))]) hx hb dX4_parts_48 hl (k := 0) rfl (by decide) rfl (fun ls hl => ?_)
          refine lv_goto (tgt := 8) hx hb dX4_parts_51 (by decide) ?_
          have hl : lv_has ls 3 [(2, .int (nI (k + 1))), (1, .int (nI (pcn (tch L) L.length (k + 1)))), (0, .ref (b 0))] := by rw [pcn_old ((hPI k (by omega)).mp hc2)]; exact hl
          exact ih (k + 1) q fa H locs ls (by omega) (by omega) (PI_old (by omega) hPI hc2) hFB hP hS (lv_sub hl [0, 1, 2] rfl)
        · have hB0 : BJ (tch L) L.length (cz fa L.length) (fun x => x = k) (fun x => fa x ≠ 0) 0 0 q fa 1 := BJ_0 hn hFB (Nat.zero_add _)
          have hB1 := BJ_add hB0 (show k < L.length by omega) hc2 (by omega) (by omega) ⟨by omega, rfl⟩
          refine lv_aload_n hx hb dX4_parts_25 rfl (lv_at hl 2 rfl) ?_
          refine va_get (D := G.1) (ci := 4) (v := .ref (b 11)) (C := RX4) (T := TX4) (N := 15) hx hb hts hinX4 hown hK.1 hP 0 rfl rfl 13 (by decide) (hts (.fieldLink RX4 41 "PairThreadsModel" "far" "[I") (by decide +kernel)) (fun _ h9 => h9) rfl dX4_parts_26 ?_
          refine lv_iload_n hx hb dX4_parts_29 rfl (lv_at hl 0 rfl) ?_
          refine lv_iconst (v := nI 1) hx hb dX4_parts_30 rfl ?_
          refine z_iastN hx hb hK hP (hDD _ rfl) hS 11 rfl (j := k) (by omega) (by decide) dX4_parts_31 (fun H locs hP hS => ?_)
          have hP : va_P G.1 vwCl (cR G b L.length lf rt lo ro fo no lm rm pa mt q cf (va_up fa k 1) kp) H := hP
          refine lv_aload_n hx hb dX4_parts_32 rfl (lv_at hl 2 rfl) ?_
          refine va_get (D := G.1) (ci := 4) (v := .ref (b 9)) (C := RX4) (T := TX4) (N := 15) hx hb hts hinX4 hown hK.1 hP 0 rfl rfl 11 (by decide) (hts (.fieldLink RX4 35 "PairThreadsModel" "queue" "[I") (by decide +kernel)) (fun _ h9 => h9) rfl dX4_parts_33 ?_
          refine lv_iconst (v := nI 0) hx hb dX4_parts_36 rfl ?_
          refine lv_iload_n hx hb dX4_parts_37 rfl (lv_at hl 0 rfl) ?_
          refine z_iastN hx hb hK hP (hDD _ rfl) hS 9 rfl (j := 0) (by omega) (by decide) dX4_parts_38 (fun H locs hP hS => ?_)
          have hP : va_P G.1 vwCl (cR G b L.length lf rt lo ro fo no lm rm pa mt (va_up q 0 k) cf (va_up fa k 1) kp) H := hP
          refine lv_aload_n hx hb dX4_parts_39 rfl (lv_at hl 2 rfl) ?_
          refine lv_iconst (v := nI 1) hx hb dX4_parts_40 rfl ?_
          refine z_callV (rest := []) 1 ⟨hx, hb, hml, hown, hts⟩ hK (c_Rreach l G b lf rt lo ro fo no lm rm pa mt (va_up q 0 k) cf (va_up fa k 1) kp L hMI 1 (cz fa L.length) (fun x => x = k) (fun x => fa x ≠ 0) hB1 (fun x y hx2 hy2 ho hT => by obtain ⟨j, a1, a2⟩ := (hPI x hx2).mp ho; exact (hPI y hy2).mpr ⟨j, a1, conn_step a2 hy2 hT⟩) hnd) gX4_parts_X4_reach rfl (by decide +kernel) ⟨Nat.le_of_ble_eq_true rfl, Nat.le_of_ble_eq_true rfl⟩ hP 0 rfl rfl rfl rfl hl.1 rfl (Nat.le_of_ble_eq_true rfl) dX4_parts_41 ⟨Nat.le_refl _, Nat.le_refl _⟩ hS (fun _ h => h) (fun v9 H9 locs hR9 hk9 hS => ?_)
          obtain ⟨n1, b1, q2, fa2, rfl, hBJ, hPd, hEx, hP⟩ := hR9
          clear hk9
          generalize H9 = H at hP hS ⊢
          refine W.eq (g2 := F0 m 44 ls [.int (nI n1)]) rfl ?_
          have hPI2 : PI (tch L) L.length (k + 1) fa2 := PI_new (tch_sym L) (show k < L.length by omega) hPI hc2 (S := fun x => x = k) rfl (fun x hx2 he => by rw [he]; exact ⟨0, by omega, rfl⟩) hBJ.1 hPd (fun x hx2 he => by rw [he, hEx.2.2 k (by omega) (by rw [up_s]; omega), up_s]; omega) (fun x hx2 h0 => by have hne : x ≠ k := fun z => h0 (by rw [z]; exact hc2); rw [hEx.2.2 x hx2 (by rw [up_n hne]; exact h0), up_n hne])
          refine lv_pop hx hb dX4_parts_44 rfl ?_
          refine z_iinc (lv' := [(1, .int (nI (pcn (tch L) L.length k + 1))), (2, .int (nI k)), (0, .ref (b 0))]) hx hb dX4_parts_45 hl (k := 1) rfl (by decide) rfl (fun ls hl => ?_)
          refine z_iinc (lv' := [(2, .int (nI (k + 1))), (1, .int (nI (pcn (tch L) L.length k + 1))), (0, .ref (b 0))]) hx hb dX4_parts_48 hl (k := 1) rfl (by decide) rfl (fun ls hl => ?_)
          refine lv_goto (tgt := 8) hx hb dX4_parts_51 (by decide) ?_
          have hl : lv_has ls 3 [(2, .int (nI (k + 1))), (1, .int (nI (pcn (tch L) L.length (k + 1)))), (0, .ref (b 0))] := by rw [pcn_new (fun z => (hPI k (by omega)).mpr z hc2)]; exact hl
          exact ih (k + 1) q2 fa2 H locs ls (by omega) (by omega) hPI2 hBJ.2.2.1 hP hS (lv_sub hl [0, 1, 2] rfl)
  exact loop (L.length + 1) 0 q fa1 _ _ ls (by omega) (by omega) (PI_0 hfa1) (fun x hx2 => by rw [hfa1 x hx2]; omega) hP hS (lv_sub hl [0, 1, 2] rfl)

set_option maxHeartbeats 4000000 in
set_option maxRecDepth 100000 in
/-- the model: part -/
theorem c_Rpart (l : Launch) (G : Gd) (b : Nat → Nat) (lf : Nat → Int32) (rt : Nat → Int32) (lo : Nat → Nat) (ro : Nat → Nat) (fo : Nat → Option Nat) (no : Nat → Option Nat) (lm : Nat) (rm : Nat) (pa : Nat → Option Nat) (mt : Nat → Int32) (q : Nat → Nat) (cf : Nat → Option Nat) (fa : Nat → Nat) (kp : Nat → Int32) (L : List Pr) (hMI : MI lf rt L) (sx v : Int32) (hnd : (aR b).Nodup) : Mt l yX4_part wsX4_part 2 46 [.ref (b 0), .int (sx), .int (v)] G (cR G b L.length lf rt lo ro fo no lm rm pa mt q cf fa kp) (fun q => q ∈ aR b) (fun r h => ∃ z : Nat, r = some (.int (nI z)) ∧ partR L sx v z ∧ ∃ q' fa' : Nat → Nat, va_P G.1 vwCl (cR G b L.length lf rt lo ro fo no lm rm pa mt q' cf fa' kp) h) := by
  refine Mt.mk cX4_part 3 (some .int) (by decide) rfl (Nat.le_of_ble_eq_true rfl) ?_
  intro p9 e s m below meth c ls hx hb hr hml hts hown hlocks hP hK hl
  have hS : va_S (fun q => q ∈ aR b) s.heap s.heap [] := va_S.rf
  have hl : lv_has ls 3 [(0, .ref (b 0)), (1, .int (sx)), (2, .int (v))] := hl
  have hown : s.vm.findClass RX4 = some m.cls := hown
  have hDD : ∀ ws : va_W, ws.map Prod.fst = aR b → va_D (fun q => q ∈ aR b) ws := D_of hnd (fun q h => h)
  have hn := hMI.1
  refine lv_iload_n hx hb dX4_part_0 rfl (lv_at hl 1 rfl) ?_
  refine z_callS (rest := []) 1 ⟨hx, hb, hml, hown, hts⟩ hK (c_isSide4 l G sx) gX4_part_X4_isSide rfl (by decide +kernel) ⟨Nat.le_of_ble_eq_true rfl, Nat.le_of_ble_eq_true rfl⟩ P_nil rfl hl.1 rfl (Nat.le_of_ble_eq_true rfl) dX4_part_1 ⟨Nat.le_refl _, Nat.le_refl _⟩ hS (fun _ h => h.elim) (fun v9 H9 locs hR9 hk9 hS => ?_)
  obtain ⟨z, rfl, hz⟩ := hR9
  have hP := P_keep0 hP hk9
  clear hk9
  generalize H9 = H at hP hS ⊢
  refine W.eq (g2 := F0 m 4 ls [.int (nI z)]) rfl ?_
  rcases hz with ⟨rfl, hsd⟩ | ⟨rfl, d, hsd⟩
  · refine z_if_eq (tgt := 20) hx hb (by omega) dX4_part_4 (by decide) (fun hc1 => ?_) (fun hc1 => ?_)
    · refine lv_iconst (v := nI 0) hx hb dX4_part_20 rfl ?_
      exact z_iret hx hb hr hlocks ⟨0, rfl, by unfold partR; rw [hsd], q, fa, hP⟩ hS dX4_part_21
    · exact absurd hc1 (by decide)
  · refine z_if_eq (tgt := 20) hx hb (by omega) dX4_part_4 (by decide) (fun hc2 => ?_) (fun hc2 => ?_)
    · exact absurd hc2 (by decide)
    · obtain ⟨hd, hsx⟩ := sideOf_some hsd
      subst hsx
      refine lv_aload_n hx hb dX4_part_7 rfl (lv_at hl 0 rfl) ?_
      refine lv_aload_n hx hb dX4_part_8 rfl (lv_at hl 0 rfl) ?_
      refine lv_iload_n hx hb dX4_part_9 rfl (lv_at hl 1 rfl) ?_
      refine lv_iload_n hx hb dX4_part_10 rfl (lv_at hl 2 rfl) ?_
      refine z_callV (rest := [.ref (b 0)]) 2 ⟨hx, hb, hml, hown, hts⟩ hK (c_begin l G b lf rt lo ro fo no lm rm pa mt q cf fa kp L hMI d v hd hnd) gX4_part_X4_begin rfl (by decide +kernel) ⟨Nat.le_of_ble_eq_true rfl, Nat.le_of_ble_eq_true rfl⟩ hP 0 rfl rfl rfl rfl hl.1 rfl (Nat.le_of_ble_eq_true rfl) dX4_part_11 ⟨Nat.le_refl _, Nat.le_refl _⟩ hS (fun _ h => h) (fun v9 H9 locs hR9 hk9 hS => ?_)
      obtain ⟨n1, q1, fa1, rfl, hBJ1, hS1, hP⟩ := hR9
      clear hk9
      generalize H9 = H at hP hS ⊢
      refine W.eq (g2 := F0 m 14 ls [.int (nI n1), .ref (b 0)]) rfl ?_
      refine z_callV (rest := []) 1 ⟨hx, hb, hml, hown, hts⟩ hK (c_Rreach l G b lf rt lo ro fo no lm rm pa mt q1 cf fa1 kp L hMI n1 0 (fun i => key d L i = v) (fun _ => False) hBJ1 (fun x y _ _ h _ => h.elim) hnd) gX4_part_X4_reach rfl (by decide +kernel) ⟨Nat.le_of_ble_eq_true rfl, Nat.le_of_ble_eq_true rfl⟩ hP 0 rfl rfl rfl rfl hl.1 rfl (Nat.le_of_ble_eq_true rfl) dX4_part_14 ⟨Nat.le_refl _, Nat.le_refl _⟩ hS (fun _ h => h) (fun v9 H9 locs hR9 hk9 hS => ?_)
      obtain ⟨n2, b2, q2, fa2, rfl, hBJ2, hPd2, hEx2, hP⟩ := hR9
      clear hk9
      generalize H9 = H at hP hS ⊢
      refine W.eq (g2 := F0 m 17 ls [.int (nI n2)]) rfl ?_
      have hFar : IsFar (tch L) L.length (fun i => key d L i = v) fa2 := IsFar_of hBJ2.1 hPd2 (fun k hk hv => by have := hS1 k hk hv; rw [hEx2.2.2 k hk this.1]; exact this)
      refine lv_goto (tgt := 21) hx hb dX4_part_17 (by decide) ?_
      exact z_iret hx hb hr hlocks ⟨n2, rfl, by unfold partR; rw [hsd]; exact ⟨fa2, hFar, hBJ2.1.2.1⟩, q2, fa2, hP⟩ hS dX4_part_21

set_option maxHeartbeats 4000000 in
set_option maxRecDepth 100000 in
/-- the model: way -/
theorem c_Rway (l : Launch) (G : Gd) (b : Nat → Nat) (lf : Nat → Int32) (rt : Nat → Int32) (lo : Nat → Nat) (ro : Nat → Nat) (fo : Nat → Option Nat) (no : Nat → Option Nat) (lm : Nat) (rm : Nat) (pa : Nat → Option Nat) (mt : Nat → Int32) (q : Nat → Nat) (cf : Nat → Option Nat) (fa : Nat → Nat) (kp : Nat → Int32) (L : List Pr) (hMI : MI lf rt L) (sx v ox w : Int32) (hnd : (aR b).Nodup) : Mt l yX4_way wsX4_way 2 46 [.ref (b 0), .int (sx), .int (v), .int (ox), .int (w)] G (cR G b L.length lf rt lo ro fo no lm rm pa mt q cf fa kp) (fun q => q ∈ aR b) (fun r h => ∃ z : Nat, r = some (.int (nI z)) ∧ wayR L sx v ox w z ∧ ∃ q' fa' : Nat → Nat, va_P G.1 vwCl (cR G b L.length lf rt lo ro fo no lm rm pa mt q' cf fa' kp) h) := by
  refine Mt.mk cX4_way 7 (some .int) (by decide) rfl (Nat.le_of_ble_eq_true rfl) ?_
  intro p9 e s m below meth c ls hx hb hr hml hts hown hlocks hP hK hl
  have hinX4 : ∀ w ∈ wsX40, w ∈ wsX4_way := by decide +kernel
  have hS : va_S (fun q => q ∈ aR b) s.heap s.heap [] := va_S.rf
  have hl : lv_has ls 7 [(0, .ref (b 0)), (1, .int (sx)), (2, .int (v)), (3, .int (ox)), (4, .int (w))] := hl
  have hown : s.vm.findClass RX4 = some m.cls := hown
  have hDD : ∀ ws : va_W, ws.map Prod.fst = aR b → va_D (fun q => q ∈ aR b) ws := D_of hnd (fun q h => h)
  have hn := hMI.1
  refine lv_iload_n hx hb dX4_way_0 rfl (lv_at hl 1 rfl) ?_
  refine z_callS (rest := []) 1 ⟨hx, hb, hml, hown, hts⟩ hK (c_isSide4 l G sx) gX4_way_X4_isSide rfl (by decide +kernel) ⟨Nat.le_of_ble_eq_true rfl, Nat.le_of_ble_eq_true rfl⟩ P_nil rfl hl.1 rfl (Nat.le_of_ble_eq_true rfl) dX4_way_1 ⟨Nat.le_refl _, Nat.le_refl _⟩ hS (fun _ h => h.elim) (fun v9 H9 locs hR9 hk9 hS => ?_)
  obtain ⟨z, rfl, hz⟩ := hR9
  have hP := P_keep0 hP hk9
  clear hk9
  generalize H9 = H at hP hS ⊢
  refine W.eq (g2 := F0 m 4 ls [.int (nI z)]) rfl ?_
  rcases hz with ⟨rfl, hsd⟩ | ⟨rfl, d, hsd⟩
  · refine z_if_eq (tgt := 14) hx hb (by omega) dX4_way_4 (by decide) (fun hc1 => ?_) (fun hc1 => ?_)
    · refine lv_iconst (v := nI 0) hx hb dX4_way_14 rfl ?_
      exact z_iret hx hb hr hlocks ⟨0, rfl, by unfold wayR; rw [hsd], q, fa, hP⟩ hS dX4_way_15
    · exact absurd hc1 (by decide)
  · refine z_if_eq (tgt := 14) hx hb (by omega) dX4_way_4 (by decide) (fun hc2 => ?_) (fun hc2 => ?_)
    · exact absurd hc2 (by decide)
    · obtain ⟨hd, hsx⟩ := sideOf_some hsd
      subst hsx
      refine lv_iload_n hx hb dX4_way_7 rfl (lv_at hl 3 rfl) ?_
      refine z_callS (rest := []) 1 ⟨hx, hb, hml, hown, hts⟩ hK (c_isSide4 l G ox) gX4_way_X4_isSide rfl (by decide +kernel) ⟨Nat.le_of_ble_eq_true rfl, Nat.le_of_ble_eq_true rfl⟩ P_nil rfl hl.1 rfl (Nat.le_of_ble_eq_true rfl) dX4_way_8 ⟨Nat.le_refl _, Nat.le_refl _⟩ hS (fun _ h => h.elim) (fun v9 H9 locs hR9 hk9 hS => ?_)
      obtain ⟨z, rfl, hz⟩ := hR9
      have hP := P_keep0 hP hk9
      clear hk9
      generalize H9 = H at hP hS ⊢
      refine W.eq (g2 := F0 m 11 ls [.int (nI z)]) rfl ?_
      rcases hz with ⟨rfl, hso⟩ | ⟨rfl, o, hso⟩
      · refine z_if_ne (tgt := 16) hx hb (by omega) dX4_way_11 (by decide) (fun hc3 => ?_) (fun hc3 => ?_)
        · exact absurd hc3 (by decide)
        · refine lv_iconst (v := nI 0) hx hb dX4_way_14 rfl ?_
          exact z_iret hx hb hr hlocks ⟨0, rfl, by unfold wayR; rw [hsd, hso], q, fa, hP⟩ hS dX4_way_15
      · refine z_if_ne (tgt := 16) hx hb (by omega) dX4_way_11 (by decide) (fun hc4 => ?_) (fun hc4 => ?_)
        · obtain ⟨ho, hox⟩ := sideOf_some hso
          subst hox
          refine lv_aload_n hx hb dX4_way_16 rfl (lv_at hl 0 rfl) ?_
          refine lv_aload_n hx hb dX4_way_17 rfl (lv_at hl 0 rfl) ?_
          refine lv_iload_n hx hb dX4_way_18 rfl (lv_at hl 1 rfl) ?_
          refine lv_iload_n hx hb dX4_way_19 rfl (lv_at hl 2 rfl) ?_
          refine z_callV (rest := [.ref (b 0)]) 2 ⟨hx, hb, hml, hown, hts⟩ hK (c_begin l G b lf rt lo ro fo no lm rm pa mt q cf fa kp L hMI d v hd hnd) gX4_way_X4_begin rfl (by decide +kernel) ⟨Nat.le_of_ble_eq_true rfl, Nat.le_of_ble_eq_true rfl⟩ hP 0 rfl rfl rfl rfl hl.1 rfl (Nat.le_of_ble_eq_true rfl) dX4_way_20 ⟨Nat.le_refl _, Nat.le_refl _⟩ hS (fun _ h => h) (fun v9 H9 locs hR9 hk9 hS => ?_)
          obtain ⟨n1, q1, fa1, rfl, hBJ1, hS1, hP⟩ := hR9
          clear hk9
          generalize H9 = H at hP hS ⊢
          refine W.eq (g2 := F0 m 23 ls [.int (nI n1), .ref (b 0)]) rfl ?_
          refine z_callV (rest := []) 1 ⟨hx, hb, hml, hown, hts⟩ hK (c_Rreach l G b lf rt lo ro fo no lm rm pa mt q1 cf fa1 kp L hMI n1 0 (fun i => key d L i = v) (fun _ => False) hBJ1 (fun x y _ _ h _ => h.elim) hnd) gX4_way_X4_reach rfl (by decide +kernel) ⟨Nat.le_of_ble_eq_true rfl, Nat.le_of_ble_eq_true rfl⟩ hP 0 rfl rfl rfl rfl hl.1 rfl (Nat.le_of_ble_eq_true rfl) dX4_way_23 ⟨Nat.le_refl _, Nat.le_refl _⟩ hS (fun _ h => h) (fun v9 H9 locs hR9 hk9 hS => ?_)
          obtain ⟨n2, b2, q2, fa2, rfl, hBJ2, hPd2, hEx2, hP⟩ := hR9
          clear hk9
          generalize H9 = H at hP hS ⊢
          refine W.eq (g2 := F0 m 26 ls [.int (nI n2)]) rfl ?_
          have hFar : IsFar (tch L) L.length (fun i => key d L i = v) fa2 := IsFar_of hBJ2.1 hPd2 (fun k hk hv => by have := hS1 k hk hv; rw [hEx2.2.2 k hk this.1]; exact this)
          refine lv_pop hx hb dX4_way_26 rfl ?_
          refine lv_iconst (v := nI 0) hx hb dX4_way_27 rfl ?_
          refine lv_istore (lv' := [(5, .int (nI 0)), (0, .ref (b 0)), (1, .int (nI d)), (2, .int (v)), (3, .int (nI o)), (4, .int (w))]) hx hb dX4_way_28 hl (by decide) rfl (fun ls hl => ?_)
          refine lv_iconst (v := nI 0) hx hb dX4_way_30 rfl ?_
          refine lv_istore (lv' := [(6, .int (nI 0)), (5, .int (nI 0)), (0, .ref (b 0)), (1, .int (nI d)), (2, .int (v)), (3, .int (nI o)), (4, .int (w))]) hx hb dX4_way_31 hl (by decide) rfl (fun ls hl => ?_)
          have loop : ∀ (k9 : Nat) (k : Nat) (z : Nat) (H : Heap) (locs : List Loc) (ls : Array Slot), (L.length < k + k9) → (k ≤ L.length) → (z ≤ 300) → ((z = 0 ∧ ∀ j, j < L.length → (j < k ∧ key o L j = w) → fa2 j = 0) ∨ (∃ i, i < L.length ∧ key o L i = w ∧ fa2 i ≠ 0 ∧ z = fa2 i ∧ ∀ j, j < L.length → (j < k ∧ key o L j = w) → fa2 j ≠ 0 → fa2 i ≤ fa2 j)) → va_P G.1 vwCl (cR G b L.length lf rt lo ro fo no lm rm pa mt q2 cf fa2 kp) H → va_S (fun q => q ∈ aR b) s.heap H locs → lv_has ls 7 [(6, .int (nI k)), (5, .int (nI z)), (0, .ref (b 0)), (1, .int (nI d)), (2, .int (v)), (3, .int (nI o)), (4, .int (w))] → Wz p9 l e 2 46 s m [.ref (b 0), .int (nI d), .int (v), .int (nI o), .int (w)] below meth c (fun q => q ∈ aR b) (fun r h => ∃ z : Nat, r = some (.int (nI z)) ∧ wayR L (nI d) v (nI o) w z ∧ ∃ q' fa' : Nat → Nat, va_P G.1 vwCl (cR G b L.length lf rt lo ro fo no lm rm pa mt q' cf fa' kp) h) H locs (F0 m 33 ls []) := by
            intro k9
            induction k9 with
            | zero =>
              intro k z H locs ls hfuel hk hz3 hinv hP hS hl
              exact absurd hfuel (by omega)
            | succ k9 ih =>
              intro k z H locs ls hfuel hk hz3 hinv hP hS hl
              refine lv_iload hx hb dX4_way_33 (lv_at hl 0 rfl) ?_
              refine lv_aload_n hx hb dX4_way_35 rfl (lv_at hl 2 rfl) ?_
              refine va_get (D := G.1) (ci := 4) (v := .int (nI L.length)) (C := RX4) (T := TX4) (N := 15) hx hb hts hinX4 hown hK.1 hP 0 rfl rfl 0 (by decide) (hts (.fieldLink RX4 47 "PairThreadsModel" "many" "I") (by decide +kernel)) (fun _ h9 => h9) rfl dX4_way_36 ?_
              refine z_icmp_ge (tgt := 96) hx hb (by omega) (by omega) dX4_way_39 (by decide) (fun hc5 => ?_) (fun hc5 => ?_)
              · refine lv_iload hx hb dX4_way_96 (lv_at hl 1 rfl) ?_
                exact z_iret hx hb hr hlocks ⟨z, rfl, by unfold wayR; rw [hsd, hso]; exact ⟨fa2, hFar, by rcases hinv with ⟨h1, h2⟩ | ⟨i, h1, h2, h3, h4, h5⟩; exact Or.inl ⟨h1, fun j hj hw => h2 j hj ⟨by omega, hw⟩⟩; exact Or.inr ⟨i, h1, h2, h3, h4, fun j hj hw h0 => h5 j hj ⟨by omega, hw⟩ h0⟩⟩, q2, fa2, hP⟩ hS dX4_way_98
              · have hfk := hBJ2.2.2.1 k (by omega)
                refine lv_aload_n hx hb dX4_way_42 rfl (lv_at hl 2 rfl) ?_
                refine lv_iload_n hx hb dX4_way_43 rfl (lv_at hl 5 rfl) ?_
                refine lv_iload hx hb dX4_way_44 (lv_at hl 0 rfl) ?_
                refine z_callV (rest := []) 2 ⟨hx, hb, hml, hown, hts⟩ hK (c_own l G b L.length lf rt lo ro fo no lm rm pa mt q2 cf fa2 kp o k (by omega) (by omega)) gX4_way_X4_own rfl (by decide +kernel) ⟨Nat.le_of_ble_eq_true rfl, Nat.le_of_ble_eq_true rfl⟩ hP 0 rfl rfl rfl rfl hl.1 rfl (Nat.le_of_ble_eq_true rfl) dX4_way_46 ⟨Nat.le_refl _, Nat.le_refl _⟩ hS (fun _ h => h.elim) (fun v9 H9 locs hR9 hk9 hS => ?_)
                obtain rfl := hR9
                have hP := P_keep0 hP hk9
                clear hk9
                generalize H9 = H at hP hS ⊢
                refine W.eq (g2 := F0 m 49 ls [.int (ow o lf rt k)]) rfl ?_
                refine z_top (y := key o L k) (ow_key hMI ho (by omega)) ?_
                refine lv_iload hx hb dX4_way_49 (lv_at hl 6 rfl) ?_
                refine lv_icmp_ne (tgt := 90) hx hb dX4_way_51 (by decide) (fun hc6 => ?_) (fun hc6 => ?_)
                · refine z_iinc (lv' := [(6, .int (nI (k + 1))), (5, .int (nI z)), (0, .ref (b 0)), (1, .int (nI d)), (2, .int (v)), (3, .int (nI o)), (4, .int (w))]) hx hb dX4_way_90 hl (k := 0) rfl (by decide) rfl (fun ls hl => ?_)
                  refine lv_goto (tgt := 33) hx hb dX4_way_93 (by decide) ?_
                  exact ih (k + 1) z H locs ls (by omega) (by omega) hz3 (by rcases hinv with ⟨h1, h2⟩ | ⟨i, h1, h2, h3, h4, h5⟩; exact Or.inl ⟨h1, fun j hj hv => by rcases Nat.lt_succ_iff_lt_or_eq.mp hv.1 with y | y; exact h2 j hj ⟨y, hv.2⟩; subst y; exact absurd hv.2 hc6⟩; exact Or.inr ⟨i, h1, h2, h3, h4, fun j hj hv h0 => by rcases Nat.lt_succ_iff_lt_or_eq.mp hv.1 with y | y; exact h5 j hj ⟨y, hv.2⟩ h0; subst y; exact absurd hv.2 hc6⟩) hP hS (lv_sub hl [0, 1, 2, 3, 4, 5, 6] rfl)
                · refine lv_aload_n hx hb dX4_way_54 rfl (lv_at hl 2 rfl) ?_
                  refine va_get (D := G.1) (ci := 4) (v := .ref (b 11)) (C := RX4) (T := TX4) (N := 15) hx hb hts hinX4 hown hK.1 hP 0 rfl rfl 13 (by decide) (hts (.fieldLink RX4 41 "PairThreadsModel" "far" "[I") (by decide +kernel)) (fun _ h9 => h9) rfl dX4_way_55 ?_
                  refine lv_iload hx hb dX4_way_58 (lv_at hl 0 rfl) ?_
                  refine z_ialdN hx hb hK hP 11 rfl (j := k) (by omega) (by decide) dX4_way_60 ?_
                  refine z_if_le (tgt := 90) hx hb (by omega) dX4_way_61 (by decide) (fun hc7 => ?_) (fun hc7 => ?_)
                  · refine z_iinc (lv' := [(6, .int (nI (k + 1))), (5, .int (nI z)), (0, .ref (b 0)), (1, .int (nI d)), (2, .int (v)), (3, .int (nI o)), (4, .int (w))]) hx hb dX4_way_90 hl (k := 0) rfl (by decide) rfl (fun ls hl => ?_)
                    refine lv_goto (tgt := 33) hx hb dX4_way_93 (by decide) ?_
                    exact ih (k + 1) z H locs ls (by omega) (by omega) hz3 (by rcases hinv with ⟨h1, h2⟩ | ⟨i, h1, h2, h3, h4, h5⟩; exact Or.inl ⟨h1, fun j hj hv => by rcases Nat.lt_succ_iff_lt_or_eq.mp hv.1 with y | y; exact h2 j hj ⟨y, hv.2⟩; subst y; exact hc7⟩; exact Or.inr ⟨i, h1, h2, h3, h4, fun j hj hv h0 => by rcases Nat.lt_succ_iff_lt_or_eq.mp hv.1 with y | y; exact h5 j hj ⟨y, hv.2⟩ h0; subst y; exact absurd hc7 h0⟩) hP hS (lv_sub hl [0, 1, 2, 3, 4, 5, 6] rfl)
                  · refine lv_iload hx hb dX4_way_64 (lv_at hl 1 rfl) ?_
                    refine z_if_eq (tgt := 81) hx hb (by omega) dX4_way_66 (by decide) (fun hc8 => ?_) (fun hc8 => ?_)
                    · refine lv_aload_n hx hb dX4_way_81 rfl (lv_at hl 2 rfl) ?_
                      refine va_get (D := G.1) (ci := 4) (v := .ref (b 11)) (C := RX4) (T := TX4) (N := 15) hx hb hts hinX4 hown hK.1 hP 0 rfl rfl 13 (by decide) (hts (.fieldLink RX4 41 "PairThreadsModel" "far" "[I") (by decide +kernel)) (fun _ h9 => h9) rfl dX4_way_82 ?_
                      refine lv_iload hx hb dX4_way_85 (lv_at hl 0 rfl) ?_
                      refine z_ialdN hx hb hK hP 11 rfl (j := k) (by omega) (by decide) dX4_way_87 ?_
                      refine lv_istore (lv' := [(5, .int (nI (fa2 k))), (6, .int (nI k)), (0, .ref (b 0)), (1, .int (nI d)), (2, .int (v)), (3, .int (nI o)), (4, .int (w))]) hx hb dX4_way_88 hl (by decide) rfl (fun ls hl => ?_)
                      refine z_iinc (lv' := [(6, .int (nI (k + 1))), (5, .int (nI (fa2 k))), (0, .ref (b 0)), (1, .int (nI d)), (2, .int (v)), (3, .int (nI o)), (4, .int (w))]) hx hb dX4_way_90 hl (k := 1) rfl (by decide) rfl (fun ls hl => ?_)
                      refine lv_goto (tgt := 33) hx hb dX4_way_93 (by decide) ?_
                      exact ih (k + 1) (fa2 k) H locs ls (by omega) (by omega) hfk (Or.inr ⟨k, by omega, hc6, hc7, rfl, fun j hj hv h0 => by rcases Nat.lt_succ_iff_lt_or_eq.mp hv.1 with y | y; rcases hinv with ⟨h1, h2⟩ | ⟨i, h1, h2, h3, h4, h5⟩; exact absurd (h2 j hj ⟨y, hv.2⟩) h0; exact absurd (hc8.symm.trans h4).symm h3; subst y; exact Nat.le_refl _⟩) hP hS (lv_sub hl [0, 1, 2, 3, 4, 5, 6] rfl)
                    · refine lv_aload_n hx hb dX4_way_69 rfl (lv_at hl 2 rfl) ?_
                      refine va_get (D := G.1) (ci := 4) (v := .ref (b 11)) (C := RX4) (T := TX4) (N := 15) hx hb hts hinX4 hown hK.1 hP 0 rfl rfl 13 (by decide) (hts (.fieldLink RX4 41 "PairThreadsModel" "far" "[I") (by decide +kernel)) (fun _ h9 => h9) rfl dX4_way_70 ?_
                      refine lv_iload hx hb dX4_way_73 (lv_at hl 0 rfl) ?_
                      refine z_ialdN hx hb hK hP 11 rfl (j := k) (by omega) (by decide) dX4_way_75 ?_
                      refine lv_iload hx hb dX4_way_76 (lv_at hl 1 rfl) ?_
                      refine z_icmp_ge (tgt := 90) hx hb (by omega) (by omega) dX4_way_78 (by decide) (fun hc9 => ?_) (fun hc9 => ?_)
                      · refine z_iinc (lv' := [(6, .int (nI (k + 1))), (5, .int (nI z)), (0, .ref (b 0)), (1, .int (nI d)), (2, .int (v)), (3, .int (nI o)), (4, .int (w))]) hx hb dX4_way_90 hl (k := 0) rfl (by decide) rfl (fun ls hl => ?_)
                        refine lv_goto (tgt := 33) hx hb dX4_way_93 (by decide) ?_
                        exact ih (k + 1) z H locs ls (by omega) (by omega) hz3 (by rcases hinv with ⟨h1, h2⟩ | ⟨i, h1, h2, h3, h4, h5⟩; exact Or.inl ⟨h1, fun j hj hv => by rcases Nat.lt_succ_iff_lt_or_eq.mp hv.1 with y | y; exact h2 j hj ⟨y, hv.2⟩; subst y; exact absurd h1 hc8⟩; exact Or.inr ⟨i, h1, h2, h3, h4, fun j hj hv h0 => by rcases Nat.lt_succ_iff_lt_or_eq.mp hv.1 with y | y; exact h5 j hj ⟨y, hv.2⟩ h0; subst y; omega⟩) hP hS (lv_sub hl [0, 1, 2, 3, 4, 5, 6] rfl)
                      · refine lv_aload_n hx hb dX4_way_81 rfl (lv_at hl 2 rfl) ?_
                        refine va_get (D := G.1) (ci := 4) (v := .ref (b 11)) (C := RX4) (T := TX4) (N := 15) hx hb hts hinX4 hown hK.1 hP 0 rfl rfl 13 (by decide) (hts (.fieldLink RX4 41 "PairThreadsModel" "far" "[I") (by decide +kernel)) (fun _ h9 => h9) rfl dX4_way_82 ?_
                        refine lv_iload hx hb dX4_way_85 (lv_at hl 0 rfl) ?_
                        refine z_ialdN hx hb hK hP 11 rfl (j := k) (by omega) (by decide) dX4_way_87 ?_
                        refine lv_istore (lv' := [(5, .int (nI (fa2 k))), (6, .int (nI k)), (0, .ref (b 0)), (1, .int (nI d)), (2, .int (v)), (3, .int (nI o)), (4, .int (w))]) hx hb dX4_way_88 hl (by decide) rfl (fun ls hl => ?_)
                        refine z_iinc (lv' := [(6, .int (nI (k + 1))), (5, .int (nI (fa2 k))), (0, .ref (b 0)), (1, .int (nI d)), (2, .int (v)), (3, .int (nI o)), (4, .int (w))]) hx hb dX4_way_90 hl (k := 1) rfl (by decide) rfl (fun ls hl => ?_)
                        refine lv_goto (tgt := 33) hx hb dX4_way_93 (by decide) ?_
                        exact ih (k + 1) (fa2 k) H locs ls (by omega) (by omega) hfk (Or.inr ⟨k, by omega, hc6, hc7, rfl, fun j hj hv h0 => by rcases Nat.lt_succ_iff_lt_or_eq.mp hv.1 with y | y; rcases hinv with ⟨h1, h2⟩ | ⟨i, h1, h2, h3, h4, h5⟩; exact absurd h1 hc8; have := h5 j hj ⟨y, hv.2⟩ h0; omega; subst y; exact Nat.le_refl _⟩) hP hS (lv_sub hl [0, 1, 2, 3, 4, 5, 6] rfl)
          exact loop (L.length + 1) 0 0 _ _ ls (by omega) (by omega) (by omega) (Or.inl ⟨rfl, fun j _ hv => absurd hv.1 (Nat.not_lt_zero j)⟩) hP hS (lv_sub hl [0, 1, 2, 3, 4, 5, 6] rfl)
        · exact absurd hc4 (by decide)
end
section
/-! filling an array; the state of a Spread -/
def c1 (G : Gd) (x : Nat) (f : Nat → Int32) : va_W := [(x, .inl (G.2.1, 300, .inl f))]
def fl (i : Nat) (v : Int32) (f : Nat → Int32) : Nat → Int32 := fun j => if j < i then v else f j
theorem fl_0 (v : Int32) (f : Nat → Int32) : fl 0 v f = f := by
  funext j
  unfold fl
  rw [if_neg (by omega)]
theorem fl_s (i : Nat) (v : Int32) (f : Nat → Int32) : upd (fl i v f) i v = fl (i + 1) v f := by
  funext j
  unfold upd fl
  by_cases h : j = i
  · rw [if_pos h, if_pos (by omega)]
  · rw [if_neg h]
    by_cases h2 : j < i
    · rw [if_pos h2, if_pos (by omega)]
    · rw [if_neg h2, if_neg (by omega)]
theorem arrV_congr {cA : ClassId} {n : Nat} {f g : Nat → Value} (h : ∀ i, i < n → f i = g i) : arrV cA n f = arrV cA n g := by
  unfold arrV
  congr 2
  funext j
  exact h j.val j.isLt
theorem c1_congr {G : Gd} {x : Nat} {f g : Nat → Int32} {H : Heap} (h : ∀ i, i < 300 → f i = g i) (hP : va_P G.1 vwCl (c1 G x f) H) : va_P G.1 vwCl (c1 G x g) H := by
  intro k q hq
  cases k with
  | zero =>
    cases hq
    have h0 := hP 0 _ rfl
    show H[x]? = some (arrV _ 300 (fun j => .int (g j)))
    rw [← arrV_congr (f := fun j => Value.int (f j)) (fun i hi => by rw [h i hi])]
    exact h0
  | succ k => simp [c1] at hq
/-- one cell of a world has been changed -/
theorem P_one {D : va_G} {cl : List vw_C} {ws : va_W} {H H1 : Heap} {k x : Nat} {e0 e1 : va_E} {AL : List Nat} (hP : va_P D cl ws H) (hnd : AL.Nodup) (ha : ws.map Prod.fst = AL) (hk : ws[k]? = some (x, e0)) (hq : ∀ q : Nat, q < H.size → ¬ q = x → H1[q]? = H[q]?) (h1 : va_P D cl [(x, e1)] H1) : va_P D cl (ws.set k (x, e1)) H1 := by
  have hD := D_of (A := fun _ => True) hnd (fun _ _ => trivial) ws ha
  have hl := (List.getElem?_eq_some_iff.mp hk).1
  intro i q hi
  by_cases hik : i = k
  · subst hik
    rw [List.getElem?_set_self hl] at hi
    cases hi
    exact h1 0 _ rfl
  · rw [List.getElem?_set_ne (Ne.symm hik)] at hi
    exact (hP i q hi).kept (hq q.1 (hP i q hi).lt (fun z => hik (hD.1 i k q (x, e0) hi hk z)))
def aS (a : Nat → Nat) : List Nat := [a 11, a 12, a 13, a 14, a 15, a 16]
def aTS (a : Nat → Nat) : List Nat := aT a ++ aS a
theorem aTS_T {a : Nat → Nat} (h : (aTS a).Nodup) : (aT a).Nodup := (List.nodup_append.mp h).1
theorem aTS_S {a : Nat → Nat} (h : (aTS a).Nodup) : (aS a).Nodup := (List.nodup_append.mp h).2.1
/-- a thread that has been walked has been reached whole -/
def WK (p : Nat → Nat) (L : List Pr) (r : Nat → Nat) (V : Nat → Nat → Nat) : Prop := ∀ d i, d < 2 → i < L.length → V d (p i) ≠ 0 → V d (p i) = 1 ∧ ∀ j, j < L.length → key d L j = key d L i → r (p j) ≠ 0
theorem IsFar_of' {T : Nat → Nat → Prop} {n c0 : Nat} {S O : Nat → Prop} {s0 e : Nat} {q far : Nat → Nat} {b : Nat} (h : BI T n c0 S O s0 e q far b) (hO : ∀ x, x < n → ¬ O x) (hp : Pd T n s0 e q far) (hs : ∀ k, k < n → S k → far k ≠ 0 ∧ far k ≤ 1) : IsFar T n S far := by
  obtain ⟨h1, h2, h3, h4, h5, h6, h7⟩ := h
  refine ⟨fun k a1 a2 => h7 k a1 a2 (hO k a1), hs, fun j k a1 a2 a3 a4 => ?_⟩
  obtain ⟨i, c1, c2, c3⟩ := h4 j a1 a3 (hO j a1)
  subst c3
  exact hp i c1 c2 k a2 a4
/-- far, after a slot has got its row -/
theorem far_up {p r : Nat → Nat} {n j b : Nat} (hinj : ∀ i j, i < 300 → j < 300 → p i = p j → i = j) (hn : n ≤ 300) (hj : j < n) : ∀ i, i < n → va_up r (p j) b (p i) = va_up (fun i => r (p i)) j b i := by
  intro i hi
  by_cases h : i = j
  · rw [h, up_s, up_s]
  · rw [up_n h, up_n (fun e => h (hinj i j (by omega) (by omega) e))]
theorem lnkF_key {p : Nat → Nat} {N : Nat → Nat → Int32} {B F : Nat → Nat → Option Nat} {L : List Pr} {d : Nat} (h : TI p N B F L) (hd : d < 2) : lnkF p (key d L) (F d) L.length := lnkF_to (fun i hi => (h.2.2.2.1 d i hd hi).symm) (h.2.2.2.2 d hd).2
theorem lnkB_key {p : Nat → Nat} {N : Nat → Nat → Int32} {B F : Nat → Nat → Option Nat} {L : List Pr} {d : Nat} (h : TI p N B F L) (hd : d < 2) : lnkB p (key d L) (B d) L.length := lnkB_to (fun i hi => (h.2.2.2.1 d i hd hi).symm) (h.2.2.2.2 d hd).1
theorem aTS_sep {a : Nat → Nat} (h : (aTS a).Nodup) {G : Gd} {p : Nat → Nat} {N : Nat → Nat → Int32} {B F : Nat → Nat → Option Nat} {n : Nat} : ∀ q ∈ (cT G a p N B F n).map Prod.fst, ¬ (fun q => q ∈ aS a) q := by
  intro q hq hm
  have h1 : q ∈ aT a := hq
  exact (List.nodup_append.mp h).2.2 q h1 q hm rfl
end
section
set_option maxHeartbeats 4000000 in
set_option maxRecDepth 100000 in
/-- Arrays.fill -/
theorem c_fill (l : Launch) (G : Gd) (x : Nat) (f : Nat → Int32) (v : Int32) : Mt l yJ7_fill_53178 wsJ7_fill_53178 0 0 [.ref (x), .int (v)] G (c1 G x f) (fun q => q = x) (fun r h => r = none ∧ va_P G.1 vwCl (c1 G x (fun _ => v)) h) := by
  refine Mt.mk cJ7_fill_53178 4 none (by decide) rfl (Nat.le_of_ble_eq_true rfl) ?_
  intro p9 e s m below meth c ls hx hb hr hml hts hown hlocks hP hK hl
  have hS : va_S (fun q => q = x) s.heap s.heap [] := va_S.rf
  have hl : lv_has ls 4 [(0, .ref (x)), (1, .int (v))] := hl
  have hown : s.vm.findClass RJ7 = some m.cls := hown
  have hDD : ∀ ws : va_W, ws.map Prod.fst = [x] → va_D (fun q => q = x) ws := D_of (by simp) (fun q h => List.mem_singleton.mp h)
  refine lv_iconst (v := nI 0) hx hb dJ7_fill_53178_0 rfl ?_
  refine lv_istore_n (lv' := [(2, .int (nI 0)), (0, .ref (x)), (1, .int (v))]) hx hb dJ7_fill_53178_1 rfl hl (by decide) rfl (fun ls hl => ?_)
  refine lv_aload_n hx hb dJ7_fill_53178_2 rfl (lv_at hl 1 rfl) ?_
  refine va_alen hx hb hK.1 hP 0 0 rfl rfl (v := nI 300) rfl dJ7_fill_53178_3 ?_
  refine lv_istore_n (lv' := [(3, .int (nI 300)), (2, .int (nI 0)), (0, .ref (x)), (1, .int (v))]) hx hb dJ7_fill_53178_4 rfl hl (by decide) rfl (fun ls hl => ?_)
  have loop : ∀ (k9 : Nat) (i : Nat) (H : Heap) (locs : List Loc) (ls : Array Slot), (300 < i + k9) → (i ≤ 300) → va_P G.1 vwCl (c1 G x (fl i v f)) H → va_S (fun q => q = x) s.heap H locs → lv_has ls 4 [(3, .int (nI 300)), (2, .int (nI i)), (0, .ref (x)), (1, .int (v))] → Wz p9 l e 0 0 s m [.ref (x), .int (v)] below meth c (fun q => q = x) (fun r h => r = none ∧ va_P G.1 vwCl (c1 G x (fun _ => v)) h) H locs (F0 m 5 ls []) := by
    intro k9
    induction k9 with
    | zero =>
      intro i H locs ls hfuel hi hP hS hl
      exact absurd hfuel (by omega)
    | succ k9 ih =>
      intro i H locs ls hfuel hi hP hS hl
      refine lv_iload_n hx hb dJ7_fill_53178_5 rfl (lv_at hl 1 rfl) ?_
      refine lv_iload_n hx hb dJ7_fill_53178_6 rfl (lv_at hl 0 rfl) ?_
      refine z_icmp_ge (tgt := 20) hx hb (by omega) (by omega) dJ7_fill_53178_7 (by decide) (fun hc1 => ?_) (fun hc1 => ?_)
      · exact z_vret hx hb hr hlocks ⟨rfl, c1_congr (fun j hj => if_pos (by omega)) hP⟩ hS dJ7_fill_53178_20
      · refine lv_aload_n hx hb dJ7_fill_53178_10 rfl (lv_at hl 2 rfl) ?_
        refine lv_iload_n hx hb dJ7_fill_53178_11 rfl (lv_at hl 1 rfl) ?_
        refine lv_iload_n hx hb dJ7_fill_53178_12 rfl (lv_at hl 3 rfl) ?_
        refine z_iast hx hb hK hP (hDD _ rfl) hS 0 rfl (j := i) (by omega) (by decide) dJ7_fill_53178_13 (fun H locs hP hS => ?_)
        have hP : va_P G.1 vwCl (c1 G x (upd (fl i v f) i (v))) H := hP
        refine z_iinc (lv' := [(2, .int (nI (i + 1))), (3, .int (nI 300)), (0, .ref (x)), (1, .int (v))]) hx hb dJ7_fill_53178_14 hl (k := 1) rfl (by decide) rfl (fun ls hl => ?_)
        refine lv_goto (tgt := 5) hx hb dJ7_fill_53178_17 (by decide) ?_
        rw [fl_s] at hP
        exact ih (i + 1) H locs ls (by omega) (by omega) hP hS (lv_sub hl [1, 0, 2, 3] rfl)
  rw [← fl_0 v f] at hP
  exact loop 301 0 _ _ ls (by omega) (by omega) hP hS (lv_sub hl [0, 1, 2, 3] rfl)

set_option maxHeartbeats 4000000 in
set_option maxRecDepth 100000 in
/-- Spread.forget -/
theorem c_forget (l : Launch) (G : Gd) (a q r : Nat → Nat) (V : Nat → Nat → Nat) (n0 : Nat) (hnd : (aS a).Nodup) : Mt l yX1_forget wsX1_forget 1 23 [.ref (a 11)] G (cS G a q r V n0) (fun q => q ∈ aS a) (fun x h => x = none ∧ va_P G.1 vwCl (cS G a q (fun _ => 0) (fun _ _ => 0) 0) h) := by
  refine Mt.mk cX1_forget 1 none (by decide) rfl (Nat.le_of_ble_eq_true rfl) ?_
  intro p9 e s m below meth c ls hx hb hr hml hts hown hlocks hP hK hl
  have hinX1 : ∀ w ∈ wsX10, w ∈ wsX1_forget := by decide +kernel
  have hS : va_S (fun q => q ∈ aS a) s.heap s.heap [] := va_S.rf
  have hl : lv_has ls 1 [(0, .ref (a 11))] := hl
  have hown : s.vm.findClass RX1 = some m.cls := hown
  have hDD : ∀ ws : va_W, ws.map Prod.fst = aS a → va_D (fun q => q ∈ aS a) ws := D_of hnd (fun q h => h)
  refine lv_aload_n hx hb dX1_forget_0 rfl (lv_at hl 0 rfl) ?_
  refine lv_iconst (v := nI 0) hx hb dX1_forget_1 rfl ?_
  refine va_put (D := G.1) (ci := 1) (v := .int (nI 0)) (ty := .int) (C := RX1) (T := TX1) (N := 4) hx hb hts hinX1 tyX1 tyX1_ok nmX1 hown hK.1 hP (hDD _ rfl) hS 0 rfl rfl 1 (by decide) (hts (.fieldLink RX1 27 "PairThreads$Spread" "found" "I") (by decide +kernel)) (fun _ h9 => h9) rfl (by decide +kernel) rfl rfl (Nat.le_of_ble_eq_true rfl) dX1_forget_2 (fun H locs hP _ hS => ?_)
  have hP : va_P G.1 vwCl (cS G a q r V 0) H := hP
  refine lv_aload_n hx hb dX1_forget_5 rfl (lv_at hl 0 rfl) ?_
  refine va_get (D := G.1) (ci := 1) (v := .ref (a 13)) (C := RX1) (T := TX1) (N := 4) hx hb hts hinX1 hown hK.1 hP 0 rfl rfl 2 (by decide) (hts (.fieldLink RX1 15 "PairThreads$Spread" "rowTo" "[I") (by decide +kernel)) (fun _ h9 => h9) rfl dX1_forget_6 ?_
  refine lv_iconst (v := nI 0) hx hb dX1_forget_9 rfl ?_
  refine z_callS (rest := []) 2 ⟨hx, hb, hml, hown, hts⟩ hK (c_fill l G (a 13) (fN r) (nI 0)) gX1_forget_J7_fill_53178 rfl (by decide +kernel) ⟨Nat.le_of_ble_eq_true rfl, Nat.le_of_ble_eq_true rfl⟩ (hP.sub (ws' := c1 G (a 13) (fN r)) [2] rfl) rfl hl.1 rfl (Nat.le_of_ble_eq_true rfl) dX1_forget_10 ⟨Nat.le_refl _, Nat.le_refl _⟩ hS (fun q h => by rw [h]; simp [aS]) (fun v9 H9 locs hR9 hk9 hS => ?_)
  obtain ⟨rfl, hP1⟩ := hR9
  have hP := P_one (k := 2) hP hnd (AL := aS a) rfl rfl hk9 hP1
  clear hk9
  generalize H9 = H at hP hS ⊢
  refine W.eq (g2 := F0 m 13 ls []) rfl ?_
  have hP : va_P G.1 vwCl (cS G a q (fun _ => 0) V 0) H := hP
  refine lv_aload_n hx hb dX1_forget_13 rfl (lv_at hl 0 rfl) ?_
  refine va_get (D := G.1) (ci := 1) (v := .ref (a 14)) (C := RX1) (T := TX1) (N := 4) hx hb hts hinX1 hown hK.1 hP 0 rfl rfl 3 (by decide) (hts (.fieldLink RX1 20 "PairThreads$Spread" "walked" "[[I") (by decide +kernel)) (fun _ h9 => h9) rfl dX1_forget_14 ?_
  refine lv_iconst (v := nI 0) hx hb dX1_forget_17 rfl ?_
  refine z_ald hx hb hK hP 3 rfl (j := 0) (by omega) (by decide) dX1_forget_18 ?_
  refine lv_iconst (v := nI 0) hx hb dX1_forget_19 rfl ?_
  refine z_callS (rest := []) 2 ⟨hx, hb, hml, hown, hts⟩ hK (c_fill l G (a 15) (fN (V 0)) (nI 0)) gX1_forget_J7_fill_53178 rfl (by decide +kernel) ⟨Nat.le_of_ble_eq_true rfl, Nat.le_of_ble_eq_true rfl⟩ (hP.sub (ws' := c1 G (a 15) (fN (V 0))) [4] rfl) rfl hl.1 rfl (Nat.le_of_ble_eq_true rfl) dX1_forget_20 ⟨Nat.le_refl _, Nat.le_refl _⟩ hS (fun q h => by rw [h]; simp [aS]) (fun v9 H9 locs hR9 hk9 hS => ?_)
  obtain ⟨rfl, hP1⟩ := hR9
  have hP := P_one (k := 4) hP hnd (AL := aS a) rfl rfl hk9 hP1
  clear hk9
  generalize H9 = H at hP hS ⊢
  refine W.eq (g2 := F0 m 23 ls []) rfl ?_
  have hP : va_P G.1 vwCl (cS G a q (fun _ => 0) (va_up V 0 (fun _ => 0)) 0) H := hP
  refine lv_aload_n hx hb dX1_forget_23 rfl (lv_at hl 0 rfl) ?_
  refine va_get (D := G.1) (ci := 1) (v := .ref (a 14)) (C := RX1) (T := TX1) (N := 4) hx hb hts hinX1 hown hK.1 hP 0 rfl rfl 3 (by decide) (hts (.fieldLink RX1 20 "PairThreads$Spread" "walked" "[[I") (by decide +kernel)) (fun _ h9 => h9) rfl dX1_forget_24 ?_
  refine lv_iconst (v := nI 1) hx hb dX1_forget_27 rfl ?_
  refine z_ald hx hb hK hP 3 rfl (j := 1) (by omega) (by decide) dX1_forget_28 ?_
  refine lv_iconst (v := nI 0) hx hb dX1_forget_29 rfl ?_
  refine z_callS (rest := []) 2 ⟨hx, hb, hml, hown, hts⟩ hK (c_fill l G (a 16) (fN (V 1)) (nI 0)) gX1_forget_J7_fill_53178 rfl (by decide +kernel) ⟨Nat.le_of_ble_eq_true rfl, Nat.le_of_ble_eq_true rfl⟩ (hP.sub (ws' := c1 G (a 16) (fN (V 1))) [5] rfl) rfl hl.1 rfl (Nat.le_of_ble_eq_true rfl) dX1_forget_30 ⟨Nat.le_refl _, Nat.le_refl _⟩ hS (fun q h => by rw [h]; simp [aS]) (fun v9 H9 locs hR9 hk9 hS => ?_)
  obtain ⟨rfl, hP1⟩ := hR9
  have hP := P_one (k := 5) hP hnd (AL := aS a) rfl rfl hk9 hP1
  clear hk9
  generalize H9 = H at hP hS ⊢
  refine W.eq (g2 := F0 m 33 ls []) rfl ?_
  have hP : va_P G.1 vwCl (cS G a q (fun _ => 0) (fun _ _ => 0) 0) H := hP
  exact z_vret hx hb hr hlocks ⟨rfl, hP⟩ hS dX1_forget_33

set_option maxHeartbeats 4000000 in
set_option maxRecDepth 100000 in
/-- Spread.reach -/
theorem c_reach (l : Launch) (G : Gd) (a p : Nat → Nat) (N : Nat → Nat → Int32) (B F : Nat → Nat → Option Nat) (L : List Pr) (hTI : TI p N B F L) (q r : Nat → Nat) (V : Nat → Nat → Nat) (n0 : Nat) (sl b : Nat) (hsl : sl < 300) (hrs : r sl < 2 ^ 31) (hlt : r sl = 0 → n0 < 300) (hnd : (aTS a).Nodup) : Mt l yX1_reach wsX1_reach 0 0 [.ref (a 11), .int (nI sl), .int (nI b)] G (cT G a p N B F L.length ++ cS G a q r V n0) (fun q => q ∈ aTS a) (fun x h => x = none ∧ ((r sl ≠ 0 ∧ va_P G.1 vwCl (cT G a p N B F L.length ++ cS G a q r V n0) h) ∨ (r sl = 0 ∧ va_P G.1 vwCl (cT G a p N B F L.length ++ cS G a (va_up q n0 sl) (va_up r sl b) V (n0 + 1)) h))) := by
  refine Mt.mk cX1_reach 3 none (by decide) rfl (Nat.le_of_ble_eq_true rfl) ?_
  intro p9 e s m below meth c ls hx hb hr hml hts hown hlocks hP hK hl
  have hinX1 : ∀ w ∈ wsX10, w ∈ wsX1_reach := by decide +kernel
  have hS : va_S (fun q => q ∈ aTS a) s.heap s.heap [] := va_S.rf
  have hl : lv_has ls 3 [(0, .ref (a 11)), (1, .int (nI sl)), (2, .int (nI b))] := hl
  have hown : s.vm.findClass RX1 = some m.cls := hown
  have hDD : ∀ ws : va_W, ws.map Prod.fst = aTS a → va_D (fun q => q ∈ aTS a) ws := D_of hnd (fun q h => h)
  refine lv_aload_n hx hb dX1_reach_0 rfl (lv_at hl 0 rfl) ?_
  refine va_get (D := G.1) (ci := 1) (v := .ref (a 13)) (C := RX1) (T := TX1) (N := 4) hx hb hts hinX1 hown hK.1 hP 11 rfl rfl 2 (by decide) (hts (.fieldLink RX1 15 "PairThreads$Spread" "rowTo" "[I") (by decide +kernel)) (fun _ h9 => h9) rfl dX1_reach_1 ?_
  refine lv_iload_n hx hb dX1_reach_4 rfl (lv_at hl 1 rfl) ?_
  refine z_ialdN hx hb hK hP 13 rfl (j := sl) (by omega) (by decide) dX1_reach_5 ?_
  refine z_if_ne (tgt := 36) hx hb (by omega) dX1_reach_6 (by decide) (fun hc1 => ?_) (fun hc1 => ?_)
  · exact z_vret hx hb hr hlocks ⟨rfl, Or.inl ⟨hc1, hP⟩⟩ hS dX1_reach_36
  · have hn0 := hlt hc1
    refine lv_aload_n hx hb dX1_reach_9 rfl (lv_at hl 0 rfl) ?_
    refine va_get (D := G.1) (ci := 1) (v := .ref (a 13)) (C := RX1) (T := TX1) (N := 4) hx hb hts hinX1 hown hK.1 hP 11 rfl rfl 2 (by decide) (hts (.fieldLink RX1 15 "PairThreads$Spread" "rowTo" "[I") (by decide +kernel)) (fun _ h9 => h9) rfl dX1_reach_10 ?_
    refine lv_iload_n hx hb dX1_reach_13 rfl (lv_at hl 1 rfl) ?_
    refine lv_iload_n hx hb dX1_reach_14 rfl (lv_at hl 2 rfl) ?_
    refine z_iastN hx hb hK hP (hDD _ rfl) hS 13 rfl (j := sl) (by omega) (by decide) dX1_reach_15 (fun H locs hP hS => ?_)
    have hP : va_P G.1 vwCl (cT G a p N B F L.length ++ cS G a q (va_up r sl b) V n0) H := hP
    refine lv_aload_n hx hb dX1_reach_16 rfl (lv_at hl 0 rfl) ?_
    refine va_get (D := G.1) (ci := 1) (v := .ref (a 12)) (C := RX1) (T := TX1) (N := 4) hx hb hts hinX1 hown hK.1 hP 11 rfl rfl 0 (by decide) (hts (.fieldLink RX1 9 "PairThreads$Spread" "reached" "[I") (by decide +kernel)) (fun _ h9 => h9) rfl dX1_reach_17 ?_
    refine lv_aload_n hx hb dX1_reach_20 rfl (lv_at hl 0 rfl) ?_
    refine va_get (D := G.1) (ci := 1) (v := .int (nI n0)) (C := RX1) (T := TX1) (N := 4) hx hb hts hinX1 hown hK.1 hP 11 rfl rfl 1 (by decide) (hts (.fieldLink RX1 27 "PairThreads$Spread" "found" "I") (by decide +kernel)) (fun _ h9 => h9) rfl dX1_reach_21 ?_
    refine lv_iload_n hx hb dX1_reach_24 rfl (lv_at hl 1 rfl) ?_
    refine z_iastN hx hb hK hP (hDD _ rfl) hS 12 rfl (j := n0) (by omega) (by decide) dX1_reach_25 (fun H locs hP hS => ?_)
    have hP : va_P G.1 vwCl (cT G a p N B F L.length ++ cS G a (va_up q n0 sl) (va_up r sl b) V n0) H := hP
    refine lv_aload_n hx hb dX1_reach_26 rfl (lv_at hl 0 rfl) ?_
    refine lv_dup hx hb dX1_reach_27 rfl ?_
    refine va_get (D := G.1) (ci := 1) (v := .int (nI n0)) (C := RX1) (T := TX1) (N := 4) hx hb hts hinX1 hown hK.1 hP 11 rfl rfl 1 (by decide) (hts (.fieldLink RX1 27 "PairThreads$Spread" "found" "I") (by decide +kernel)) (fun _ h9 => h9) rfl dX1_reach_28 ?_
    refine lv_iconst (v := nI 1) hx hb dX1_reach_31 rfl ?_
    refine lv_iadd hx hb dX1_reach_32 ?_
    refine z_top (y := nI (n0 + 1)) (nI_add _ _) ?_
    refine va_put (D := G.1) (ci := 1) (v := .int (nI (n0 + 1))) (ty := .int) (C := RX1) (T := TX1) (N := 4) hx hb hts hinX1 tyX1 tyX1_ok nmX1 hown hK.1 hP (hDD _ rfl) hS 11 rfl rfl 1 (by decide) (hts (.fieldLink RX1 27 "PairThreads$Spread" "found" "I") (by decide +kernel)) (fun _ h9 => h9) rfl (by decide +kernel) rfl rfl (Nat.le_of_ble_eq_true rfl) dX1_reach_33 (fun H locs hP _ hS => ?_)
    have hP : va_P G.1 vwCl (cT G a p N B F L.length ++ cS G a (va_up q n0 sl) (va_up r sl b) V (n0 + 1)) H := hP
    exact z_vret hx hb hr hlocks ⟨rfl, Or.inr ⟨hc1, hP⟩⟩ hS dX1_reach_36

set_option maxHeartbeats 4000000 in
set_option maxRecDepth 100000 in
/-- Spread.walk -/
theorem c_walk (l : Launch) (G : Gd) (a p : Nat → Nat) (N : Nat → Nat → Int32) (B F : Nat → Nat → Option Nat) (L : List Pr) (hTI : TI p N B F L) (q r : Nat → Nat) (V : Nat → Nat → Nat) (n0 : Nat) (g0 : Nat → Nat) (hg0 : ∀ i, i < n0 → q i = p (g0 i)) (S O : Nat → Prop) (s0 d i0 b : Nat) (hd : d < 2) (hi0 : i0 < L.length) (hb0 : 0 < b) (hbe : b ≤ n0 + 1) (hBJ : BJ (tch L) L.length 0 S O s0 n0 g0 (fun i => r (p i)) b) (hWK : WK p L r V) (hrc : ∀ x, x < L.length → key d L x = key d L i0 → rch (tch L) L.length S (b - 1) x) (hnd : (aTS a).Nodup) : Mt l yX1_walk wsX1_walk 1 24 [.ref (a 11), .ref (a 0), .int (nI d), .int (nI (p i0)), .int (nI b)] G (cT G a p N B F L.length ++ cS G a q r V n0) (fun q => q ∈ aTS a) (fun x h => x = none ∧ ∃ (q' r' : Nat → Nat) (V' : Nat → Nat → Nat) (n' : Nat) (g' : Nat → Nat), (∀ i, i < n' → q' i = p (g' i)) ∧ BJ (tch L) L.length 0 S O s0 n' g' (fun i => r' (p i)) b ∧ WK p L r' V' ∧ Ext L.length n0 g0 (fun i => r (p i)) n' g' (fun i => r' (p i)) ∧ (∀ j, j < L.length → key d L j = key d L i0 → r' (p j) ≠ 0) ∧ va_P G.1 vwCl (cT G a p N B F L.length ++ cS G a q' r' V' n') h) := by
  refine Mt.mk cX1_walk 7 none (by decide) rfl (Nat.le_of_ble_eq_true rfl) ?_
  intro p9 e s m below meth c ls hx hb hr hml hts hown hlocks hP hK hl
  have hinX1 : ∀ w ∈ wsX10, w ∈ wsX1_walk := by decide +kernel
  have hinX2 : ∀ w ∈ wsX20, w ∈ wsX1_walk := by decide +kernel
  have hS : va_S (fun q => q ∈ aTS a) s.heap s.heap [] := va_S.rf
  have hl : lv_has ls 7 [(0, .ref (a 11)), (1, .ref (a 0)), (2, .int (nI d)), (3, .int (nI (p i0))), (4, .int (nI b))] := hl
  have hown : s.vm.findClass RX1 = some m.cls := hown
  have hDD : ∀ ws : va_W, ws.map Prod.fst = aTS a → va_D (fun q => q ∈ aTS a) ws := D_of hnd (fun q h => h)
  obtain ⟨hp, hinj, hn, hk, hlk⟩ := id hTI
  have hF9 := lnkF_key hTI hd
  have hB9 := (hlk d hd).1
  have hpi := hp i0 (by omega)
  have hle := BJ_le hBJ
  have hV1 : V d (p i0) ≤ 1 := by rcases Nat.eq_zero_or_pos (V d (p i0)) with z | z; omega; have := (hWK d i0 hd hi0 (by omega)).1; omega
  refine lv_aload_n hx hb dX1_walk_0 rfl (lv_at hl 0 rfl) ?_
  refine va_get (D := G.1) (ci := 1) (v := .ref (a 14)) (C := RX1) (T := TX1) (N := 4) hx hb hts hinX1 hown hK.1 hP 11 rfl rfl 3 (by decide) (hts (.fieldLink RX1 20 "PairThreads$Spread" "walked" "[[I") (by decide +kernel)) (fun _ h9 => h9) rfl dX1_walk_1 ?_
  refine lv_iload_n hx hb dX1_walk_4 rfl (lv_at hl 2 rfl) ?_
  refine z_ald hx hb hK hP 14 rfl (j := d) (by omega) (by decide) dX1_walk_5 ?_
  refine lv_iload_n hx hb dX1_walk_6 rfl (lv_at hl 3 rfl) ?_
  refine z_ialdN hx hb hK hP (15 + d) (cS_V hd) (j := p i0) (by omega) (by decide) dX1_walk_7 ?_
  refine lv_iconst (v := nI 1) hx hb dX1_walk_8 rfl ?_
  refine z_icmp_ne (tgt := 13) hx hb (by omega) (by omega) dX1_walk_9 (by decide) (fun hc1 => ?_) (fun hc1 => ?_)
  · refine lv_aload_n hx hb dX1_walk_13 rfl (lv_at hl 1 rfl) ?_
    refine lv_iload_n hx hb dX1_walk_14 rfl (lv_at hl 2 rfl) ?_
    refine lv_iload_n hx hb dX1_walk_15 rfl (lv_at hl 3 rfl) ?_
    refine z_callV (rest := []) 2 ⟨hx, hb, hml, hown, hts⟩ hK (c_headOf l G a p N B F L.length d i0 hd hi0 hn hp hB9) gX1_walk_X2_headOf rfl (by decide +kernel) ⟨Nat.le_of_ble_eq_true rfl, Nat.le_of_ble_eq_true rfl⟩ (hP.sub (ws' := cT G a p N B F L.length ++ []) [0, 1, 2, 3, 4, 5, 6, 7, 8, 9, 10] rfl) 0 rfl rfl rfl rfl hl.1 rfl (Nat.le_of_ble_eq_true rfl) dX1_walk_16 ⟨Nat.le_refl _, Nat.le_refl _⟩ hS (fun _ h => h.elim) (fun v9 H9 locs hR9 hk9 hS => ?_)
    obtain ⟨h1, rfl, hh1, hh2, hh3⟩ := hR9
    have hP := P_keep0 hP hk9
    clear hk9
    generalize H9 = H at hP hS ⊢
    refine W.eq (g2 := F0 m 19 ls [.int (nI (p h1))]) rfl ?_
    rw [hk d h1 hd (by omega), hk d i0 hd hi0] at hh2
    have hh4 : ∀ j, j < h1 → ¬ key d L j = key d L i0 := fun j hj => by rw [← hk d j hd (by omega), ← hk d i0 hd hi0]; exact hh3 j hj
    have hst0 : stR (key d L) L.length (key d L i0) 0 (some h1) := Or.inr ⟨h1, rfl, by omega, hh2, (cnt_skip (Nat.zero_le h1) (fun j _ hj => hh4 j hj)).symm⟩
    refine z_top (y := lk (Option.map p (some h1))) (rfl) ?_
    refine lv_istore (lv' := [(5, .int (lk (Option.map p (some h1)))), (0, .ref (a 11)), (1, .ref (a 0)), (2, .int (nI d)), (3, .int (nI (p i0))), (4, .int (nI b))]) hx hb dX1_walk_19 hl (by decide) rfl (fun ls hl => ?_)
    refine lv_iconst (v := nI 0) hx hb dX1_walk_21 rfl ?_
    refine lv_istore (lv' := [(6, .int (nI 0)), (5, .int (lk (Option.map p (some h1)))), (0, .ref (a 11)), (1, .ref (a 0)), (2, .int (nI d)), (3, .int (nI (p i0))), (4, .int (nI b))]) hx hb dX1_walk_22 hl (by decide) rfl (fun ls hl => ?_)
    obtain ⟨q0, hq0⟩ : ∃ z, z = q := ⟨_, rfl⟩
    obtain ⟨r0, hr0⟩ : ∃ z, z = r := ⟨_, rfl⟩
    obtain ⟨m0, hm0⟩ : ∃ z, z = n0 := ⟨_, rfl⟩
    obtain ⟨G0, hG0⟩ : ∃ z, z = g0 := ⟨_, rfl⟩
    have loop : ∀ (k9 : Nat) (c1 : Nat) (o : Option Nat) (q : Nat → Nat) (r : Nat → Nat) (V : Nat → Nat → Nat) (n0 : Nat) (g0 : Nat → Nat) (H : Heap) (locs : List Loc) (ls : Array Slot), (L.length < c1 + k9) → (c1 ≤ L.length) → (stR (key d L) L.length (key d L i0) c1 o) → (∀ i, i < n0 → q i = p (g0 i)) → (b ≤ n0 + 1) → (BJ (tch L) L.length 0 S O s0 n0 g0 (fun i => r (p i)) b) → (Ext L.length m0 G0 (fun i => r0 (p i)) n0 g0 (fun i => r (p i))) → (∀ x, x < L.length → key d L x = key d L i0 → (∀ j, o = some j → x < j) → r (p x) ≠ 0) → (∀ d' i, d' < 2 → i < L.length → V d' (p i) ≠ 0 → V d' (p i) = 1 ∧ ((d' = d ∧ key d L i = key d L i0) ∨ ∀ j, j < L.length → key d' L j = key d' L i → r (p j) ≠ 0)) → va_P G.1 vwCl (cT G a p N B F L.length ++ cS G a q r V n0) H → va_S (fun q => q ∈ aTS a) s.heap H locs → lv_has ls 7 [(6, .int (nI c1)), (5, .int (lk (Option.map p o))), (0, .ref (a 11)), (1, .ref (a 0)), (2, .int (nI d)), (3, .int (nI (p i0))), (4, .int (nI b))] → Wz p9 l e 1 24 s m [.ref (a 11), .ref (a 0), .int (nI d), .int (nI (p i0)), .int (nI b)] below meth c (fun q => q ∈ aTS a) (fun x h => x = none ∧ ∃ (q' r' : Nat → Nat) (V' : Nat → Nat → Nat) (n' : Nat) (g' : Nat → Nat), (∀ i, i < n' → q' i = p (g' i)) ∧ BJ (tch L) L.length 0 S O s0 n' g' (fun i => r' (p i)) b ∧ WK p L r' V' ∧ Ext L.length m0 G0 (fun i => r0 (p i)) n' g' (fun i => r' (p i)) ∧ (∀ j, j < L.length → key d L j = key d L i0 → r' (p j) ≠ 0) ∧ va_P G.1 vwCl (cT G a p N B F L.length ++ cS G a q' r' V' n') h) H locs (F0 m 24 ls []) := by
      intro k9
      induction k9 with
      | zero =>
        intro c1 o q r V n0 g0 H locs ls hfuel hcn hst hg0 hbe hBJ hEx hbf hWK hP hS hl
        exact absurd hfuel (by omega)
      | succ k9 ih =>
        intro c1 o q r V n0 g0 H locs ls hfuel hcn hst hg0 hbe hBJ hEx hbf hWK hP hS hl
        refine lv_iload hx hb dX1_walk_24 (lv_at hl 0 rfl) ?_
        refine lv_aload_n hx hb dX1_walk_26 rfl (lv_at hl 3 rfl) ?_
        refine va_getN (D := G.1) (host := "PairThreads") (ci := 2) (v := .int (nI L.length)) (C := RX2) (T := TX2) (N := 5) hx hb hts hinX2 hown hK.1 hP 0 rfl rfl 4 (by decide) hK.2.nlX1_size (fun _ h9 => h9) rfl dX1_walk_27 ?_
        refine z_icmp_ge (tgt := 74) hx hb (by omega) (by omega) dX1_walk_30 (by decide) (fun hc2 => ?_) (fun hc2 => ?_)
        · have hon : o = none := by rcases hst with ⟨h, -⟩ | ⟨j, -, h2, -, h⟩; exact h; have := cnt_le (key d L) (key d L i0) j; omega
          have hall : ∀ x, x < L.length → key d L x = key d L i0 → r (p x) ≠ 0 := fun x hx9 hv => hbf x hx9 hv (fun j hj => by rw [hon] at hj; cases hj)
          exact z_vret hx hb hr hlocks ⟨rfl, q, r, V, n0, g0, hg0, hBJ, fun d' i h1 h2 h3 => ⟨(hWK d' i h1 h2 h3).1, by rcases (hWK d' i h1 h2 h3).2 with ⟨e1, e2⟩ | e1; subst e1; exact fun j hj he => hall j hj (he.trans e2); exact e1⟩, hEx, hall, hP⟩ hS dX1_walk_74
        · refine lv_iload hx hb dX1_walk_33 (lv_at hl 1 rfl) ?_
          refine lv_iconst (v := (-1)) hx hb dX1_walk_35 rfl ?_
          refine z_none_eq (tgt := 74) hx hb (fun k hk9 => by have := mp_lt hp hn (stR_lt hst) hk9; omega) dX1_walk_36 (by decide) (fun hc3 => ?_) (fun k hc3 => ?_)
          · have hon : o = none := by rcases hst with ⟨h, -⟩ | ⟨j, h1, -⟩; exact h; rw [h1] at hc3; cases hc3
            have hall : ∀ x, x < L.length → key d L x = key d L i0 → r (p x) ≠ 0 := fun x hx9 hv => hbf x hx9 hv (fun j hj => by rw [hon] at hj; cases hj)
            exact z_vret hx hb hr hlocks ⟨rfl, q, r, V, n0, g0, hg0, hBJ, fun d' i h1 h2 h3 => ⟨(hWK d' i h1 h2 h3).1, by rcases (hWK d' i h1 h2 h3).2 with ⟨e1, e2⟩ | e1; subst e1; exact fun j hj he => hall j hj (he.trans e2); exact e1⟩, hEx, hall, hP⟩ hS dX1_walk_74
          · rcases hst with ⟨h1, -⟩ | ⟨j, h1, h2, h3, h4⟩
            · rw [h1] at hc3; cases hc3
            · subst h1
              have hl : lv_has ls 7 [(6, .int (nI c1)), (5, .int (nI (p j))), (0, .ref (a 11)), (1, .ref (a 0)), (2, .int (nI d)), (3, .int (nI (p i0))), (4, .int (nI b))] := hl
              have hpj := hp j (by omega)
              have hrj := hBJ.2.2.1 j h2
              have hrj : r (p j) ≤ 300 := hrj
              obtain ⟨o2, ho2, hnx⟩ := hF9 j h2
              refine lv_aload_n hx hb dX1_walk_39 rfl (lv_at hl 2 rfl) ?_
              refine va_get (D := G.1) (ci := 1) (v := .ref (a 14)) (C := RX1) (T := TX1) (N := 4) hx hb hts hinX1 hown hK.1 hP 11 rfl rfl 3 (by decide) (hts (.fieldLink RX1 20 "PairThreads$Spread" "walked" "[[I") (by decide +kernel)) (fun _ h9 => h9) rfl dX1_walk_40 ?_
              refine lv_iload_n hx hb dX1_walk_43 rfl (lv_at hl 4 rfl) ?_
              refine z_ald hx hb hK hP 14 rfl (j := d) (by omega) (by decide) dX1_walk_44 ?_
              refine lv_iload hx hb dX1_walk_45 (lv_at hl 1 rfl) ?_
              refine lv_iconst (v := nI 1) hx hb dX1_walk_47 rfl ?_
              refine z_iastN hx hb hK hP (hDD _ rfl) hS (15 + d) (cS_V hd) (j := p j) (by omega) (by decide) dX1_walk_48 (fun H locs hP hS => ?_)
              rw [cS_sV hd] at hP
              refine lv_aload_n hx hb dX1_walk_49 rfl (lv_at hl 2 rfl) ?_
              refine lv_iload hx hb dX1_walk_50 (lv_at hl 1 rfl) ?_
              refine lv_iload hx hb dX1_walk_52 (lv_at hl 6 rfl) ?_
              obtain ⟨V1, eV1⟩ : ∃ z, z = va_up V d (va_up (V d) (p j) 1) := ⟨_, rfl⟩
              rw [← eV1] at hP
              refine z_callV (rest := []) 2 ⟨hx, hb, hml, hown, hts⟩ hK (c_reach l G a p N B F L hTI q r V1 n0 (p j) b hpj (by omega) (fun z => by have h9 := BJ_lt hBJ h2 z; omega) hnd) gX1_walk_X1_reach rfl (by decide +kernel) ⟨Nat.le_of_ble_eq_true rfl, Nat.le_of_ble_eq_true rfl⟩ hP 11 rfl rfl rfl rfl hl.1 rfl (Nat.le_of_ble_eq_true rfl) dX1_walk_54 ⟨Nat.le_refl _, Nat.le_refl _⟩ hS (fun _ h => h) (fun v9 H9 locs hR9 hk9 hS => ?_)
              obtain ⟨rfl, hP1⟩ := hR9
              have hP := hP1
              clear hk9
              generalize H9 = H at hP hS ⊢
              refine W.eq (g2 := F0 m 57 ls []) rfl ?_
              have hVj : ∀ d' i, d' < 2 → i < L.length → V1 d' (p i) ≠ 0 → V1 d' (p i) = 1 ∧ ((d' = d ∧ key d L i = key d L i0) ∨ V d' (p i) ≠ 0) := fun d' i a1 a2 a3 => by
                by_cases e1 : d' = d
                · subst e1; rw [eV1, up_s] at a3 ⊢
                  by_cases e2 : i = j
                  · subst e2; rw [up_s]; exact ⟨rfl, Or.inl ⟨rfl, h3⟩⟩
                  · have e3 : p i ≠ p j := fun z => e2 (hinj i j (by omega) (by omega) z)
                    rw [up_n e3] at a3 ⊢; exact ⟨(hWK d' i a1 a2 a3).1, Or.inr a3⟩
                · rw [eV1, up_n e1] at a3 ⊢; exact ⟨(hWK d' i a1 a2 a3).1, Or.inr a3⟩
              rcases hP with ⟨hr9, hP⟩ | ⟨hr9, hP⟩
              · have hmono : ∀ x, x < L.length → r (p x) ≠ 0 → r (p x) ≠ 0 := fun x _ h9 => h9
                have hvj : r (p j) ≠ 0 := hr9
                refine lv_aload_n hx hb dX1_walk_57 rfl (lv_at hl 3 rfl) ?_
                refine va_getN (D := G.1) (host := "PairThreads") (ci := 2) (v := .ref (a 4)) (C := RX2) (T := TX2) (N := 5) hx hb hts hinX2 hown hK.1 hP 0 rfl rfl 3 (by decide) hK.2.nlX1_after (fun _ h9 => h9) rfl dX1_walk_58 ?_
                refine lv_iload_n hx hb dX1_walk_61 rfl (lv_at hl 4 rfl) ?_
                refine z_ald hx hb hK hP 4 rfl (j := d) (by omega) (by decide) dX1_walk_62 ?_
                refine lv_iload hx hb dX1_walk_63 (lv_at hl 1 rfl) ?_
                refine z_ialdO hx hb hK hP (9 + d) (cT_F hd) (j := p j) (by omega) (by decide) dX1_walk_65 ?_
                refine z_top (y := lk (Option.map p o2)) (congrArg lk ho2) ?_
                refine lv_istore (lv' := [(5, .int (lk (Option.map p o2))), (6, .int (nI c1)), (0, .ref (a 11)), (1, .ref (a 0)), (2, .int (nI d)), (3, .int (nI (p i0))), (4, .int (nI b))]) hx hb dX1_walk_66 hl (by decide) rfl (fun ls hl => ?_)
                refine z_iinc (lv' := [(6, .int (nI (c1 + 1))), (5, .int (lk (Option.map p o2))), (0, .ref (a 11)), (1, .ref (a 0)), (2, .int (nI d)), (3, .int (nI (p i0))), (4, .int (nI b))]) hx hb dX1_walk_68 hl (k := 1) rfl (by decide) rfl (fun ls hl => ?_)
                refine lv_goto (tgt := 24) hx hb dX1_walk_71 (by decide) ?_
                exact ih (c1 + 1) o2 q r V1 n0 g0 H locs ls (by omega) (by have := cnt_le (key d L) (key d L i0) j; omega) (by rw [h4]; exact stR_next h2 h3 hnx) hg0 (by omega) hBJ hEx (fun x hx9 hv hbx => by by_cases e1 : x < j; exact hmono x hx9 (hbf x hx9 hv (fun j2 hj2 => by cases hj2; exact e1)); by_cases e2 : x = j; rw [e2]; exact hvj; rcases hnx with ⟨-, e3⟩ | ⟨j2, e4, e5, e6, e7, e8⟩; exact absurd (hv.trans h3.symm) (e3 x (by omega) hx9); exact absurd (hv.trans h3.symm) (e8 x (by omega) (hbx j2 e4))) (fun d' i a1 a2 a3 => ⟨(hVj d' i a1 a2 a3).1, by rcases (hVj d' i a1 a2 a3).2 with e1 | e1; exact Or.inl e1; rcases (hWK d' i a1 a2 e1).2 with e2 | e2; exact Or.inl e2; exact Or.inr (fun j9 h9 h8 => hmono j9 h9 (e2 j9 h9 h8))⟩) hP hS (lv_sub hl [0, 1, 2, 3, 4, 5, 6] rfl)
              · have hfu := far_up (r := r) (b := b) hinj hn h2
                have hBJ2 := BJ_to hfu (BJ_add hBJ h2 hr9 hb0 hbe (hrc j h2 h3))
                have hE2 : Ext L.length n0 g0 (fun i => r (p i)) (n0 + 1) (va_up g0 n0 j) (fun i => va_up r (p j) b (p i)) := Ext_to hfu (Ext_add hr9)
                have hmono : ∀ x, x < L.length → r (p x) ≠ 0 → (va_up r (p j) b) (p x) ≠ 0 := fun x _ h9 => by by_cases e1 : p x = p j; rw [e1, up_s]; omega; rw [up_n e1]; exact h9
                have hvj : (va_up r (p j) b) (p j) ≠ 0 := by rw [up_s]; omega
                refine lv_aload_n hx hb dX1_walk_57 rfl (lv_at hl 3 rfl) ?_
                refine va_getN (D := G.1) (host := "PairThreads") (ci := 2) (v := .ref (a 4)) (C := RX2) (T := TX2) (N := 5) hx hb hts hinX2 hown hK.1 hP 0 rfl rfl 3 (by decide) hK.2.nlX1_after (fun _ h9 => h9) rfl dX1_walk_58 ?_
                refine lv_iload_n hx hb dX1_walk_61 rfl (lv_at hl 4 rfl) ?_
                refine z_ald hx hb hK hP 4 rfl (j := d) (by omega) (by decide) dX1_walk_62 ?_
                refine lv_iload hx hb dX1_walk_63 (lv_at hl 1 rfl) ?_
                refine z_ialdO hx hb hK hP (9 + d) (cT_F hd) (j := p j) (by omega) (by decide) dX1_walk_65 ?_
                refine z_top (y := lk (Option.map p o2)) (congrArg lk ho2) ?_
                refine lv_istore (lv' := [(5, .int (lk (Option.map p o2))), (6, .int (nI c1)), (0, .ref (a 11)), (1, .ref (a 0)), (2, .int (nI d)), (3, .int (nI (p i0))), (4, .int (nI b))]) hx hb dX1_walk_66 hl (by decide) rfl (fun ls hl => ?_)
                refine z_iinc (lv' := [(6, .int (nI (c1 + 1))), (5, .int (lk (Option.map p o2))), (0, .ref (a 11)), (1, .ref (a 0)), (2, .int (nI d)), (3, .int (nI (p i0))), (4, .int (nI b))]) hx hb dX1_walk_68 hl (k := 1) rfl (by decide) rfl (fun ls hl => ?_)
                refine lv_goto (tgt := 24) hx hb dX1_walk_71 (by decide) ?_
                exact ih (c1 + 1) o2 (va_up q n0 (p j)) (va_up r (p j) b) V1 (n0 + 1) (va_up g0 n0 j) H locs ls (by omega) (by have := cnt_le (key d L) (key d L i0) j; omega) (by rw [h4]; exact stR_next h2 h3 hnx) (fun i hi => by rcases Nat.lt_succ_iff_lt_or_eq.mp hi with z | z; rw [up_n (by omega), up_n (by omega)]; exact hg0 i z; rw [z, up_s, up_s]) (by omega) hBJ2 (Ext_tr hEx hE2) (fun x hx9 hv hbx => by by_cases e1 : x < j; exact hmono x hx9 (hbf x hx9 hv (fun j2 hj2 => by cases hj2; exact e1)); by_cases e2 : x = j; rw [e2]; exact hvj; rcases hnx with ⟨-, e3⟩ | ⟨j2, e4, e5, e6, e7, e8⟩; exact absurd (hv.trans h3.symm) (e3 x (by omega) hx9); exact absurd (hv.trans h3.symm) (e8 x (by omega) (hbx j2 e4))) (fun d' i a1 a2 a3 => ⟨(hVj d' i a1 a2 a3).1, by rcases (hVj d' i a1 a2 a3).2 with e1 | e1; exact Or.inl e1; rcases (hWK d' i a1 a2 e1).2 with e2 | e2; exact Or.inl e2; exact Or.inr (fun j9 h9 h8 => hmono j9 h9 (e2 j9 h9 h8))⟩) hP hS (lv_sub hl [0, 1, 2, 3, 4, 5, 6] rfl)
    rw [hr0, hm0, hG0] at loop
    exact loop (L.length + 1) 0 (some h1) q r V n0 g0 _ _ ls (by omega) (by omega) hst0 hg0 hbe hBJ Ext_rf (fun x hx9 hv hbx => absurd hv (hh4 x (hbx h1 rfl))) (fun d' i a1 a2 a3 => ⟨(hWK d' i a1 a2 a3).1, Or.inr (hWK d' i a1 a2 a3).2⟩) hP hS (lv_sub hl [0, 1, 2, 3, 4, 5, 6] rfl)
  · exact z_vret hx hb hr hlocks ⟨rfl, q, r, V, n0, g0, hg0, hBJ, hWK, Ext_rf, (hWK d i0 hd hi0 (by omega)).2, hP⟩ hS dX1_walk_12

set_option maxHeartbeats 4000000 in
set_option maxRecDepth 100000 in
/-- Spread.spreadFrom -/
theorem c_spreadFrom (l : Launch) (G : Gd) (a p : Nat → Nat) (N : Nat → Nat → Int32) (B F : Nat → Nat → Option Nat) (L : List Pr) (hTI : TI p N B F L) (q r : Nat → Nat) (V : Nat → Nat → Nat) (n0 : Nat) (g0 : Nat → Nat) (hg0 : ∀ i, i < n0 → q i = p (g0 i)) (d i0 : Nat) (hd : d < 2) (hi0 : i0 < L.length) (hr0 : r (p i0) = 0) (hcz : n0 + 0 = cz (fun i => r (p i)) L.length) (hFB : ∀ x, x < L.length → r (p x) ≤ 300) (hcl : ∀ x y, x < L.length → y < L.length → r (p x) ≠ 0 → tch L x y → r (p y) ≠ 0) (hWK : WK p L r V) (hnd : (aTS a).Nodup) : Mt l yX1_spreadFrom wsX1_spreadFrom 2 50 [.ref (a 11), .ref (a 0), .int (nI d), .int (nI (p i0))] G (cT G a p N B F L.length ++ cS G a q r V n0) (fun q => q ∈ aTS a) (fun x h => x = none ∧ ∃ (q' r' : Nat → Nat) (V' : Nat → Nat → Nat) (n' : Nat) (g' : Nat → Nat), (∀ i, i < n' → q' i = p (g' i)) ∧ (∃ b', BJ (tch L) L.length 0 (fun x => key d L x = key d L i0) (fun x => r (p x) ≠ 0) n0 n' g' (fun i => r' (p i)) b') ∧ Pd (tch L) L.length n0 n' g' (fun i => r' (p i)) ∧ Ext L.length n0 g0 (fun i => r (p i)) n' g' (fun i => r' (p i)) ∧ WK p L r' V' ∧ (∀ x, x < L.length → key d L x = key d L i0 → r' (p x) ≠ 0 ∧ r' (p x) ≤ 1) ∧ va_P G.1 vwCl (cT G a p N B F L.length ++ cS G a q' r' V' n') h) := by
  refine Mt.mk cX1_spreadFrom 7 none (by decide) rfl (Nat.le_of_ble_eq_true rfl) ?_
  intro p9 e s m below meth c ls hx hb hr hml hts hown hlocks hP hK hl
  have hinX1 : ∀ w ∈ wsX10, w ∈ wsX1_spreadFrom := by decide +kernel
  have hS : va_S (fun q => q ∈ aTS a) s.heap s.heap [] := va_S.rf
  have hl : lv_has ls 7 [(0, .ref (a 11)), (1, .ref (a 0)), (2, .int (nI d)), (3, .int (nI (p i0)))] := hl
  have hown : s.vm.findClass RX1 = some m.cls := hown
  have hDD : ∀ ws : va_W, ws.map Prod.fst = aTS a → va_D (fun q => q ∈ aTS a) ws := D_of hnd (fun q h => h)
  obtain ⟨hp, hinj, hn, hk, hlk⟩ := id hTI
  have hpi := hp i0 (by omega)
  have hO0 : ∀ x, x < L.length → key d L x = key d L i0 → ¬ r (p x) ≠ 0 := fun x hx9 hv ho => hcl x i0 hx9 hi0 ho (tch_d hd hv) hr0
  have hB0 : BJ (tch L) L.length 0 (fun x => key d L x = key d L i0) (fun x => r (p x) ≠ 0) n0 n0 g0 (fun i => r (p i)) 1 := BJ_0 hn hFB hcz
  have hle0 := BJ_le hB0
  refine lv_aload_n hx hb dX1_spreadFrom_0 rfl (lv_at hl 0 rfl) ?_
  refine va_get (D := G.1) (ci := 1) (v := .int (nI n0)) (C := RX1) (T := TX1) (N := 4) hx hb hts hinX1 hown hK.1 hP 11 rfl rfl 1 (by decide) (hts (.fieldLink RX1 27 "PairThreads$Spread" "found" "I") (by decide +kernel)) (fun _ h9 => h9) rfl dX1_spreadFrom_1 ?_
  refine lv_istore (lv' := [(4, .int (nI n0)), (0, .ref (a 11)), (1, .ref (a 0)), (2, .int (nI d)), (3, .int (nI (p i0)))]) hx hb dX1_spreadFrom_4 hl (by decide) rfl (fun ls hl => ?_)
  refine lv_aload_n hx hb dX1_spreadFrom_6 rfl (lv_at hl 1 rfl) ?_
  refine lv_aload_n hx hb dX1_spreadFrom_7 rfl (lv_at hl 2 rfl) ?_
  refine lv_iload_n hx hb dX1_spreadFrom_8 rfl (lv_at hl 3 rfl) ?_
  refine lv_iload_n hx hb dX1_spreadFrom_9 rfl (lv_at hl 4 rfl) ?_
  refine lv_iconst (v := nI 1) hx hb dX1_spreadFrom_10 rfl ?_
  refine z_callV (rest := []) 4 ⟨hx, hb, hml, hown, hts⟩ hK (c_walk l G a p N B F L hTI q r V n0 g0 hg0 (fun x => key d L x = key d L i0) (fun x => r (p x) ≠ 0) n0 d i0 1 hd hi0 (by omega) (by omega) hB0 hWK (fun x hx9 hv => ⟨hx9, hv⟩) hnd) gX1_spreadFrom_X1_walk rfl (by decide +kernel) ⟨Nat.le_of_ble_eq_true rfl, Nat.le_of_ble_eq_true rfl⟩ hP 11 rfl rfl rfl rfl hl.1 rfl (Nat.le_of_ble_eq_true rfl) dX1_spreadFrom_11 ⟨Nat.le_refl _, Nat.le_refl _⟩ hS (fun _ h => h) (fun v9 H9 locs hR9 hk9 hS => ?_)
  obtain ⟨rfl, q1, r1, V1, n1, g1, hg1, hBJ1, hWK1, hEx1, hv1, hP⟩ := hR9
  clear hk9
  generalize H9 = H at hP hS ⊢
  refine W.eq (g2 := F0 m 14 ls []) rfl ?_
  have hF2 : ∀ x, x < L.length → key d L x = key d L i0 → r1 (p x) ≠ 0 ∧ r1 (p x) ≤ 1 := fun x hx9 hv => ⟨hv1 x hx9 hv, BJ_far (k := x) (far := fun i => r1 (p i)) hBJ1 hx9 (hv1 x hx9 hv) (hO0 x hx9 hv)⟩
  refine lv_iload hx hb dX1_spreadFrom_14 (lv_at hl 0 rfl) ?_
  refine lv_istore (lv' := [(5, .int (nI n0)), (4, .int (nI n0)), (0, .ref (a 11)), (1, .ref (a 0)), (2, .int (nI d)), (3, .int (nI (p i0)))]) hx hb dX1_spreadFrom_16 hl (by decide) rfl (fun ls hl => ?_)
  have loop : ∀ (k9 : Nat) (t : Nat) (q1 : Nat → Nat) (r1 : Nat → Nat) (V1 : Nat → Nat → Nat) (n1 : Nat) (g1 : Nat → Nat) (b1 : Nat) (H : Heap) (locs : List Loc) (ls : Array Slot), (L.length < t + k9 ∧ n1 ≤ L.length) → (n0 ≤ t ∧ t ≤ n1) → (∀ i, i < n1 → q1 i = p (g1 i)) → (BJ (tch L) L.length 0 (fun x => key d L x = key d L i0) (fun x => r (p x) ≠ 0) n0 n1 g1 (fun i => r1 (p i)) b1) → (t < n1 → b1 ≤ r1 (p (g1 t)) + 1) → (Pd (tch L) L.length n0 t g1 (fun i => r1 (p i))) → (Ext L.length n0 g0 (fun i => r (p i)) n1 g1 (fun i => r1 (p i))) → (WK p L r1 V1) → (∀ x, x < L.length → key d L x = key d L i0 → r1 (p x) ≠ 0 ∧ r1 (p x) ≤ 1) → va_P G.1 vwCl (cT G a p N B F L.length ++ cS G a q1 r1 V1 n1) H → va_S (fun q => q ∈ aTS a) s.heap H locs → lv_has ls 7 [(5, .int (nI t)), (4, .int (nI n0)), (0, .ref (a 11)), (1, .ref (a 0)), (2, .int (nI d)), (3, .int (nI (p i0)))] → Wz p9 l e 2 50 s m [.ref (a 11), .ref (a 0), .int (nI d), .int (nI (p i0))] below meth c (fun q => q ∈ aTS a) (fun x h => x = none ∧ ∃ (q' r' : Nat → Nat) (V' : Nat → Nat → Nat) (n' : Nat) (g' : Nat → Nat), (∀ i, i < n' → q' i = p (g' i)) ∧ (∃ b', BJ (tch L) L.length 0 (fun x => key d L x = key d L i0) (fun x => r (p x) ≠ 0) n0 n' g' (fun i => r' (p i)) b') ∧ Pd (tch L) L.length n0 n' g' (fun i => r' (p i)) ∧ Ext L.length n0 g0 (fun i => r (p i)) n' g' (fun i => r' (p i)) ∧ WK p L r' V' ∧ (∀ x, x < L.length → key d L x = key d L i0 → r' (p x) ≠ 0 ∧ r' (p x) ≤ 1) ∧ va_P G.1 vwCl (cT G a p N B F L.length ++ cS G a q' r' V' n') h) H locs (F0 m 18 ls []) := by
    intro k9
    induction k9 with
    | zero =>
      intro t q1 r1 V1 n1 g1 b1 H locs ls hfuel ht hg1 hBJ hb1 hPd hEx hWK1 hF2 hP hS hl
      exact absurd hfuel (by omega)
    | succ k9 ih =>
      intro t q1 r1 V1 n1 g1 b1 H locs ls hfuel ht hg1 hBJ hb1 hPd hEx hWK1 hF2 hP hS hl
      have hle := BJ_le hBJ
      refine lv_iload hx hb dX1_spreadFrom_18 (lv_at hl 0 rfl) ?_
      refine lv_aload_n hx hb dX1_spreadFrom_20 rfl (lv_at hl 2 rfl) ?_
      refine va_get (D := G.1) (ci := 1) (v := .int (nI n1)) (C := RX1) (T := TX1) (N := 4) hx hb hts hinX1 hown hK.1 hP 11 rfl rfl 1 (by decide) (hts (.fieldLink RX1 27 "PairThreads$Spread" "found" "I") (by decide +kernel)) (fun _ h9 => h9) rfl dX1_spreadFrom_21 ?_
      refine z_icmp_ge (tgt := 84) hx hb (by omega) (by omega) dX1_spreadFrom_24 (by decide) (fun hc1 => ?_) (fun hc1 => ?_)
      · have he : t = n1 := by omega
        subst he
        exact z_vret hx hb hr hlocks ⟨rfl, q1, r1, V1, t, g1, hg1, ⟨b1, hBJ⟩, hPd, hEx, hWK1, hF2, hP⟩ hS dX1_spreadFrom_84
      · refine lv_iload hx hb dX1_spreadFrom_27 (lv_at hl 0 rfl) ?_
        refine lv_sipush (v := nI 300) hx hb dX1_spreadFrom_29 (by decide) ?_
        refine z_icmp_ge (tgt := 84) hx hb (by omega) (by omega) dX1_spreadFrom_32 (by decide) (fun hc2 => ?_) (fun hc2 => ?_)
        · exact absurd hc2 (by omega)
        · obtain ⟨hq1, hq2, hq3, hq4⟩ := hBJ.1.2.2.1 t ht.1 (by omega)
          have hq2 : r1 (p (g1 t)) ≠ 0 := hq2
          have hJ : r1 (p (g1 t)) ≤ t + 1 := hBJ.2.1 t ht.1 (by omega)
          have hBJ := BJ_wk (hb1 (by omega)) hBJ
          obtain ⟨x, hxe⟩ : ∃ z, z = g1 t := ⟨_, rfl⟩
          obtain ⟨fr, hfr⟩ : ∃ z, z = r1 (p x) := ⟨_, rfl⟩
          rw [← hxe] at hq1 hq2 hq3 hJ hBJ
          rw [← hfr] at hBJ hJ hq2
          have hqt : q1 t = p x := by rw [hg1 t (by omega), hxe]
          have hpx := hp x (by omega)
          have hTx : ∀ e y, e < 2 → y < L.length → key e L y = key e L x → rch (tch L) L.length (fun x => key d L x = key d L i0) (fr + 1 - 1) y := fun e y he hy hv => by have h9 := BJ_nb hBJ ht.1 (by omega) hy (hxe ▸ tch_d he hv.symm); rw [← hxe] at h9; rw [hfr]; exact h9
          refine lv_aload_n hx hb dX1_spreadFrom_35 rfl (lv_at hl 2 rfl) ?_
          refine va_get (D := G.1) (ci := 1) (v := .ref (a 12)) (C := RX1) (T := TX1) (N := 4) hx hb hts hinX1 hown hK.1 hP 11 rfl rfl 0 (by decide) (hts (.fieldLink RX1 9 "PairThreads$Spread" "reached" "[I") (by decide +kernel)) (fun _ h9 => h9) rfl dX1_spreadFrom_36 ?_
          refine lv_iload hx hb dX1_spreadFrom_39 (lv_at hl 0 rfl) ?_
          refine z_ialdN hx hb hK hP 12 rfl (j := t) (by omega) (by decide) dX1_spreadFrom_41 ?_
          refine z_top (y := nI (p x)) (congrArg nI hqt) ?_
          refine lv_istore (lv' := [(6, .int (nI (p x))), (5, .int (nI t)), (4, .int (nI n0)), (0, .ref (a 11)), (1, .ref (a 0)), (2, .int (nI d)), (3, .int (nI (p i0)))]) hx hb dX1_spreadFrom_42 hl (by decide) rfl (fun ls hl => ?_)
          refine lv_aload_n hx hb dX1_spreadFrom_44 rfl (lv_at hl 3 rfl) ?_
          refine lv_aload_n hx hb dX1_spreadFrom_45 rfl (lv_at hl 4 rfl) ?_
          refine lv_iconst (v := nI 0) hx hb dX1_spreadFrom_46 rfl ?_
          refine lv_iload hx hb dX1_spreadFrom_47 (lv_at hl 0 rfl) ?_
          refine lv_aload_n hx hb dX1_spreadFrom_49 rfl (lv_at hl 3 rfl) ?_
          refine va_get (D := G.1) (ci := 1) (v := .ref (a 13)) (C := RX1) (T := TX1) (N := 4) hx hb hts hinX1 hown hK.1 hP 11 rfl rfl 2 (by decide) (hts (.fieldLink RX1 15 "PairThreads$Spread" "rowTo" "[I") (by decide +kernel)) (fun _ h9 => h9) rfl dX1_spreadFrom_50 ?_
          refine lv_iload hx hb dX1_spreadFrom_53 (lv_at hl 0 rfl) ?_
          refine z_ialdN hx hb hK hP 13 rfl (j := p x) (by omega) (by decide) dX1_spreadFrom_55 ?_
          refine z_top (y := nI fr) (congrArg nI hfr.symm) ?_
          refine lv_iconst (v := nI 1) hx hb dX1_spreadFrom_56 rfl ?_
          refine lv_iadd hx hb dX1_spreadFrom_57 ?_
          refine z_top (y := nI (fr + 1)) (nI_add _ _) ?_
          refine z_callV (rest := []) 4 ⟨hx, hb, hml, hown, hts⟩ hK (c_walk l G a p N B F L hTI q1 r1 V1 n1 g1 hg1 (fun x => key d L x = key d L i0) (fun x => r (p x) ≠ 0) n0 0 x (fr + 1) (by omega) hq1 (by omega) (by omega) hBJ hWK1 (fun y hy hv => hTx 0 y (by omega) hy hv) hnd) gX1_spreadFrom_X1_walk rfl (by decide +kernel) ⟨Nat.le_of_ble_eq_true rfl, Nat.le_of_ble_eq_true rfl⟩ hP 11 rfl rfl rfl rfl hl.1 rfl (Nat.le_of_ble_eq_true rfl) dX1_spreadFrom_58 ⟨Nat.le_refl _, Nat.le_refl _⟩ hS (fun _ h => h) (fun v9 H9 locs hR9 hk9 hS => ?_)
          obtain ⟨rfl, q2, r2, V2, n2, g2, hg2, hBJ2, hWK2, hEx2, hv2, hP⟩ := hR9
          clear hk9
          generalize H9 = H at hP hS ⊢
          refine W.eq (g2 := F0 m 61 ls []) rfl ?_
          have hn2 := hEx2.1
          have hfr2 : r2 (p x) = fr := by rw [hfr]; exact hEx2.2.2 x hq1 (by show r1 (p x) ≠ 0; omega)
          refine lv_aload_n hx hb dX1_spreadFrom_61 rfl (lv_at hl 3 rfl) ?_
          refine lv_aload_n hx hb dX1_spreadFrom_62 rfl (lv_at hl 4 rfl) ?_
          refine lv_iconst (v := nI 1) hx hb dX1_spreadFrom_63 rfl ?_
          refine lv_iload hx hb dX1_spreadFrom_64 (lv_at hl 0 rfl) ?_
          refine lv_aload_n hx hb dX1_spreadFrom_66 rfl (lv_at hl 3 rfl) ?_
          refine va_get (D := G.1) (ci := 1) (v := .ref (a 13)) (C := RX1) (T := TX1) (N := 4) hx hb hts hinX1 hown hK.1 hP 11 rfl rfl 2 (by decide) (hts (.fieldLink RX1 15 "PairThreads$Spread" "rowTo" "[I") (by decide +kernel)) (fun _ h9 => h9) rfl dX1_spreadFrom_67 ?_
          refine lv_iload hx hb dX1_spreadFrom_70 (lv_at hl 0 rfl) ?_
          refine z_ialdN hx hb hK hP 13 rfl (j := p x) (by omega) (by decide) dX1_spreadFrom_72 ?_
          refine z_top (y := nI fr) (congrArg nI hfr2) ?_
          refine lv_iconst (v := nI 1) hx hb dX1_spreadFrom_73 rfl ?_
          refine lv_iadd hx hb dX1_spreadFrom_74 ?_
          refine z_top (y := nI (fr + 1)) (nI_add _ _) ?_
          refine z_callV (rest := []) 4 ⟨hx, hb, hml, hown, hts⟩ hK (c_walk l G a p N B F L hTI q2 r2 V2 n2 g2 hg2 (fun x => key d L x = key d L i0) (fun x => r (p x) ≠ 0) n0 1 x (fr + 1) (by omega) hq1 (by omega) (by omega) hBJ2 hWK2 (fun y hy hv => hTx 1 y (by omega) hy hv) hnd) gX1_spreadFrom_X1_walk rfl (by decide +kernel) ⟨Nat.le_of_ble_eq_true rfl, Nat.le_of_ble_eq_true rfl⟩ hP 11 rfl rfl rfl rfl hl.1 rfl (Nat.le_of_ble_eq_true rfl) dX1_spreadFrom_75 ⟨Nat.le_refl _, Nat.le_refl _⟩ hS (fun _ h => h) (fun v9 H9 locs hR9 hk9 hS => ?_)
          obtain ⟨rfl, q3, r3, V3, n3, g3, hg3, hBJ3, hWK3, hEx3, hv3, hP⟩ := hR9
          clear hk9
          generalize H9 = H at hP hS ⊢
          refine W.eq (g2 := F0 m 78 ls []) rfl ?_
          have hn3 := hEx3.1
          have hE13 := Ext_tr hEx2 hEx3
          have hgt : g3 t = x := by rw [hE13.2.1 t (by omega), hxe]
          have hfr3 : r3 (p x) = fr := by rw [hfr]; exact hE13.2.2 x hq1 (by show r1 (p x) ≠ 0; omega)
          have hPd3 : Pd (tch L) L.length n0 (t + 1) g3 (fun i => r3 (p i)) := by
            have h9 := Pd_ext (show t ≤ n1 by omega) (fun i a1 a2 => ⟨(hBJ.1.2.2.1 i a1 a2).1, (hBJ.1.2.2.1 i a1 a2).2.1⟩) hPd hE13
            intro i a1 a2 y hy hT
            rcases Nat.lt_succ_iff_lt_or_eq.mp a2 with z | z
            · exact h9 i a1 z y hy hT
            · subst z; rw [hgt] at hT ⊢
              have hvy : r3 (p y) ≠ 0 := by
                rcases hT with h8 | h8
                · have h7 := hv2 y hy h8.symm
                  rw [show r3 (p y) = r2 (p y) from hEx3.2.2 y hy h7]; exact h7
                · exact hv3 y hy h8.symm
              refine ⟨hvy, ?_⟩
              have h6 := BJ_far hBJ3 hy hvy (fun ho => hq3 (hcl y x hy hq1 ho (tch_sym L _ _ hT)))
              show r3 (p y) ≤ r3 (p x) + 1
              rw [hfr3]; exact h6
          refine z_iinc (lv' := [(5, .int (nI (t + 1))), (6, .int (nI (p x))), (4, .int (nI n0)), (0, .ref (a 11)), (1, .ref (a 0)), (2, .int (nI d)), (3, .int (nI (p i0)))]) hx hb dX1_spreadFrom_78 hl (k := 1) rfl (by decide) rfl (fun ls hl => ?_)
          refine lv_goto (tgt := 18) hx hb dX1_spreadFrom_81 (by decide) ?_
          exact ih (t + 1) q3 r3 V3 n3 g3 (fr + 1) H locs ls ⟨by omega, BJ_le hBJ3⟩ ⟨by omega, by omega⟩ hg3 hBJ3 (fun h1 => by have h2 : r3 (p (g3 t)) ≤ r3 (p (g3 (t + 1))) := hBJ3.1.2.2.2.2.2.1 t (t + 1) ht.1 (by omega) h1; rw [hgt, hfr3] at h2; omega) hPd3 (Ext_tr hEx hE13) hWK3 (fun y hy hv => by have h9 := hF2 y hy hv; rw [show r3 (p y) = r1 (p y) from hE13.2.2 y hy h9.1]; exact h9) hP hS (lv_sub hl [0, 2, 3, 4, 5, 6] rfl)
  have hle1 := BJ_le hBJ1
  exact loop (L.length + 1) n0 q1 r1 V1 n1 g1 1 _ _ ls ⟨by omega, by omega⟩ ⟨by omega, hEx1.1⟩ hg1 hBJ1 (fun h => by have h9 : r1 (p (g1 n0)) ≠ 0 := (hBJ1.1.2.2.1 n0 (by omega) h).2.1; omega) (fun i a1 a2 => absurd a2 (by omega)) hEx1 hWK1 hF2 hP hS (lv_sub hl [0, 1, 2, 3, 4, 5] rfl)
end
section
set_option maxHeartbeats 4000000 in
set_option maxRecDepth 100000 in
/-- Spread.start -/
theorem c_start (l : Launch) (G : Gd) (a p : Nat → Nat) (N : Nat → Nat → Int32) (B F : Nat → Nat → Option Nat) (L : List Pr) (hTI : TI p N B F L) (q r : Nat → Nat) (V : Nat → Nat → Nat) (n0 : Nat) (d : Nat) (v : Int32) (hd : d < 2) (hnd : (aTS a).Nodup) : Mt l yX1_start wsX1_start 3 76 [.ref (a 11), .ref (a 0), .int (nI d), .int (v)] G (cT G a p N B F L.length ++ cS G a q r V n0) (fun q => q ∈ aTS a) (fun x h => x = none ∧ ∃ (q' r' : Nat → Nat) (V' : Nat → Nat → Nat) (n' : Nat) (g' : Nat → Nat), (∀ i, i < n' → q' i = p (g' i)) ∧ IsFar (tch L) L.length (fun i => key d L i = v) (fun i => r' (p i)) ∧ n' = cz (fun i => r' (p i)) L.length ∧ (∀ i, i < n' → g' i < L.length ∧ r' (p (g' i)) ≠ 0) ∧ (∀ k, k < L.length → r' (p k) ≠ 0 → ∃ i, i < n' ∧ g' i = k) ∧ (∀ i j, i ≤ j → j < n' → r' (p (g' i)) ≤ r' (p (g' j))) ∧ (∀ k, k < L.length → r' (p k) ≤ 300) ∧ va_P G.1 vwCl (cT G a p N B F L.length ++ cS G a q' r' V' n') h) := by
  refine Mt.mk cX1_start 5 none (by decide) rfl (Nat.le_of_ble_eq_true rfl) ?_
  intro p9 e s m below meth c ls hx hb hr hml hts hown hlocks hP hK hl
  have hS : va_S (fun q => q ∈ aTS a) s.heap s.heap [] := va_S.rf
  have hl : lv_has ls 5 [(0, .ref (a 11)), (1, .ref (a 0)), (2, .int (nI d)), (3, .int (v))] := hl
  have hown : s.vm.findClass RX1 = some m.cls := hown
  have hDD : ∀ ws : va_W, ws.map Prod.fst = aTS a → va_D (fun q => q ∈ aTS a) ws := D_of hnd (fun q h => h)
  obtain ⟨hp, hinj, hn, hk, hlk⟩ := id hTI
  refine lv_aload_n hx hb dX1_start_0 rfl (lv_at hl 0 rfl) ?_
  refine z_callV (rest := []) 0 ⟨hx, hb, hml, hown, hts⟩ hK (c_forget l G a q r V n0 (aTS_S hnd)) gX1_start_X1_forget rfl (by decide +kernel) ⟨Nat.le_of_ble_eq_true rfl, Nat.le_of_ble_eq_true rfl⟩ (hP.sub (ws' := cS G a q r V n0) [11, 12, 13, 14, 15, 16] rfl) 0 rfl rfl rfl rfl hl.1 rfl (Nat.le_of_ble_eq_true rfl) dX1_start_1 ⟨Nat.le_refl _, Nat.le_refl _⟩ hS (fun q h => List.mem_append_right _ h) (fun v9 H9 locs hR9 hk9 hS => ?_)
  obtain ⟨rfl, hP1⟩ := hR9
  have hPk := P_keep (hP.sub (ws' := cT G a p N B F L.length) [0, 1, 2, 3, 4, 5, 6, 7, 8, 9, 10] rfl) hk9 (aTS_sep hnd)
  have hP := hPk.app hP1
  clear hk9
  generalize H9 = H at hP hS ⊢
  refine W.eq (g2 := F0 m 4 ls []) rfl ?_
  have hP : va_P G.1 vwCl (cT G a p N B F L.length ++ cS G a q (fun _ => 0) (fun _ _ => 0) 0) H := hP
  refine lv_aload_n hx hb dX1_start_4 rfl (lv_at hl 1 rfl) ?_
  refine lv_iload_n hx hb dX1_start_5 rfl (lv_at hl 2 rfl) ?_
  refine lv_iload_n hx hb dX1_start_6 rfl (lv_at hl 3 rfl) ?_
  refine z_callV (rest := []) 2 ⟨hx, hb, hml, hown, hts⟩ hK (c_firstOf l G a p N B F L.length d v hd hn hp) gX1_start_X2_firstOf rfl (by decide +kernel) ⟨Nat.le_of_ble_eq_true rfl, Nat.le_of_ble_eq_true rfl⟩ (hP.sub (ws' := cT G a p N B F L.length ++ []) [0, 1, 2, 3, 4, 5, 6, 7, 8, 9, 10] rfl) 0 rfl rfl rfl rfl hl.1 rfl (Nat.le_of_ble_eq_true rfl) dX1_start_7 ⟨Nat.le_refl _, Nat.le_refl _⟩ hS (fun _ h => h.elim) (fun v9 H9 locs hR9 hk9 hS => ?_)
  obtain ⟨o, rfl, ho⟩ := hR9
  have hP := P_keep0 hP hk9
  clear hk9
  generalize H9 = H at hP hS ⊢
  refine W.eq (g2 := F0 m 10 ls [.int (lk (Option.map p o))]) rfl ?_
  have hol := firstR_lt ho
  refine lv_istore (lv' := [(4, .int (lk (Option.map p o))), (0, .ref (a 11)), (1, .ref (a 0)), (2, .int (nI d)), (3, .int (v))]) hx hb dX1_start_10 hl (by decide) rfl (fun ls hl => ?_)
  refine lv_iload hx hb dX1_start_12 (lv_at hl 0 rfl) ?_
  refine lv_iconst (v := (-1)) hx hb dX1_start_14 rfl ?_
  refine z_none_eq (tgt := 26) hx hb (fun k hk9 => by have := mp_lt hp hn hol hk9; omega) dX1_start_15 (by decide) (fun hc1 => ?_) (fun k hc1 => ?_)
  · have hon : o = none := by cases o with | none => rfl | some j => cases hc1
    have hno : ∀ i, i < L.length → ¬ key d L i = v := fun i hi => by rcases ho with ⟨-, h1⟩ | ⟨j, h1, -⟩; rw [← hk d i hd hi]; exact h1 i hi; rw [h1] at hon; cases hon
    exact z_vret hx hb hr hlocks ⟨rfl, q, (fun _ => 0), (fun _ _ => 0), 0, q, fun i hi => absurd hi (Nat.not_lt_zero i), ⟨fun k _ h => absurd rfl h, fun k hk9 h => absurd h (hno k hk9), fun j k _ _ h => absurd rfl h⟩, (cz_0 (fun _ _ => rfl)).symm, fun i hi => absurd hi (Nat.not_lt_zero i), fun k _ h => absurd rfl h, fun i j _ hj => absurd hj (Nat.not_lt_zero j), fun k _ => Nat.zero_le _, hP⟩ hS dX1_start_26
  · rcases ho with ⟨h1, -⟩ | ⟨j, h1, h2, h3, h4⟩
    · rw [h1] at hc1; cases hc1
    · subst h1
      have hl : lv_has ls 5 [(4, .int (nI (p j))), (0, .ref (a 11)), (1, .ref (a 0)), (2, .int (nI d)), (3, .int (v))] := hl
      have h3 : N d (p j) = v := h3
      rw [hk d j hd h2] at h3
      refine lv_aload_n hx hb dX1_start_18 rfl (lv_at hl 1 rfl) ?_
      refine lv_aload_n hx hb dX1_start_19 rfl (lv_at hl 2 rfl) ?_
      refine lv_iload_n hx hb dX1_start_20 rfl (lv_at hl 3 rfl) ?_
      refine lv_iload hx hb dX1_start_21 (lv_at hl 0 rfl) ?_
      refine z_callV (rest := []) 3 ⟨hx, hb, hml, hown, hts⟩ hK (c_spreadFrom l G a p N B F L hTI q (fun _ => 0) (fun _ _ => 0) 0 q (fun i hi => absurd hi (Nat.not_lt_zero i)) d j hd h2 rfl (cz_0 (fun _ _ => rfl)).symm (fun _ _ => Nat.zero_le _) (fun x y _ _ h _ => absurd rfl h) (fun _ _ _ _ h => absurd rfl h) hnd) gX1_start_X1_spreadFrom rfl (by decide +kernel) ⟨Nat.le_of_ble_eq_true rfl, Nat.le_of_ble_eq_true rfl⟩ hP 11 rfl rfl rfl rfl hl.1 rfl (Nat.le_of_ble_eq_true rfl) dX1_start_23 ⟨Nat.le_refl _, Nat.le_refl _⟩ hS (fun _ h => h) (fun v9 H9 locs hR9 hk9 hS => ?_)
      obtain ⟨rfl, q2, r2, V2, n2, g2, hg2, ⟨b2, hBJ⟩, hPd, hEx, hWK, hF2, hP⟩ := hR9
      clear hk9
      generalize H9 = H at hP hS ⊢
      refine W.eq (g2 := F0 m 26 ls []) rfl ?_
      have hO9 : ∀ x, x < L.length → ¬ (fun x => (fun _ => 0 : Nat → Nat) (p x) ≠ 0) x := fun x _ h => absurd rfl h
      have hFar := IsFar_of' hBJ.1 hO9 hPd hF2
      rw [h3] at hFar
      exact z_vret hx hb hr hlocks ⟨rfl, q2, r2, V2, n2, g2, hg2, hFar, hBJ.1.2.1, fun i hi => ⟨(hBJ.1.2.2.1 i (Nat.zero_le _) hi).1, (hBJ.1.2.2.1 i (Nat.zero_le _) hi).2.1⟩, fun k hk9 h => by obtain ⟨i, -, a2, a3⟩ := hBJ.1.2.2.2.1 k hk9 h (hO9 k hk9); exact ⟨i, a2, a3⟩, fun i j h5 h6 => hBJ.1.2.2.2.2.2.1 i j (Nat.zero_le _) h5 h6, hBJ.2.2.1, hP⟩ hS dX1_start_26

set_option maxHeartbeats 4000000 in
set_option maxRecDepth 100000 in
/-- Spread.partOf -/
theorem c_partOf (l : Launch) (G : Gd) (a p : Nat → Nat) (N : Nat → Nat → Int32) (B F : Nat → Nat → Option Nat) (L : List Pr) (hTI : TI p N B F L) (q r : Nat → Nat) (V : Nat → Nat → Nat) (n0 : Nat) (d : Nat) (v : Int32) (hd : d < 2) (hnd : (aTS a).Nodup) : Mt l yX1_partOf wsX1_partOf 4 100 [.ref (a 11), .ref (a 0), .int (nI d), .int (v)] G (cT G a p N B F L.length ++ cS G a q r V n0) (fun q => q ∈ aTS a) (fun x h => ∃ z : Nat, x = some (.int (nI z)) ∧ (∃ far, IsFar (tch L) L.length (fun i => key d L i = v) far ∧ z = cz far L.length) ∧ ∃ (q' r' : Nat → Nat) (V' : Nat → Nat → Nat) (n' : Nat), va_P G.1 vwCl (cT G a p N B F L.length ++ cS G a q' r' V' n') h) := by
  refine Mt.mk cX1_partOf 4 (some .int) (by decide) rfl (Nat.le_of_ble_eq_true rfl) ?_
  intro p9 e s m below meth c ls hx hb hr hml hts hown hlocks hP hK hl
  have hinX1 : ∀ w ∈ wsX10, w ∈ wsX1_partOf := by decide +kernel
  have hS : va_S (fun q => q ∈ aTS a) s.heap s.heap [] := va_S.rf
  have hl : lv_has ls 4 [(0, .ref (a 11)), (1, .ref (a 0)), (2, .int (nI d)), (3, .int (v))] := hl
  have hown : s.vm.findClass RX1 = some m.cls := hown
  have hDD : ∀ ws : va_W, ws.map Prod.fst = aTS a → va_D (fun q => q ∈ aTS a) ws := D_of hnd (fun q h => h)
  refine lv_aload_n hx hb dX1_partOf_0 rfl (lv_at hl 0 rfl) ?_
  refine lv_aload_n hx hb dX1_partOf_1 rfl (lv_at hl 1 rfl) ?_
  refine lv_iload_n hx hb dX1_partOf_2 rfl (lv_at hl 2 rfl) ?_
  refine lv_iload_n hx hb dX1_partOf_3 rfl (lv_at hl 3 rfl) ?_
  refine z_callV (rest := []) 3 ⟨hx, hb, hml, hown, hts⟩ hK (c_start l G a p N B F L hTI q r V n0 d v hd hnd) gX1_partOf_X1_start rfl (by decide +kernel) ⟨Nat.le_of_ble_eq_true rfl, Nat.le_of_ble_eq_true rfl⟩ hP 11 rfl rfl rfl rfl hl.1 rfl (Nat.le_of_ble_eq_true rfl) dX1_partOf_4 ⟨Nat.le_refl _, Nat.le_refl _⟩ hS (fun _ h => h) (fun v9 H9 locs hR9 hk9 hS => ?_)
  obtain ⟨rfl, q2, r2, V2, n2, g2, hg2, hFar, hcz2, hg3, hcov, hmon, hr3, hP⟩ := hR9
  clear hk9
  generalize H9 = H at hP hS ⊢
  refine W.eq (g2 := F0 m 7 ls []) rfl ?_
  refine lv_aload_n hx hb dX1_partOf_7 rfl (lv_at hl 0 rfl) ?_
  refine va_get (D := G.1) (ci := 1) (v := .int (nI n2)) (C := RX1) (T := TX1) (N := 4) hx hb hts hinX1 hown hK.1 hP 11 rfl rfl 1 (by decide) (hts (.fieldLink RX1 27 "PairThreads$Spread" "found" "I") (by decide +kernel)) (fun _ h9 => h9) rfl dX1_partOf_8 ?_
  exact z_iret hx hb hr hlocks ⟨n2, rfl, ⟨_, hFar, hcz2⟩, q2, r2, V2, n2, hP⟩ hS dX1_partOf_11

set_option maxHeartbeats 4000000 in
set_option maxRecDepth 100000 in
/-- Spread.leastRow -/
theorem c_leastRow (l : Launch) (G : Gd) (a p : Nat → Nat) (N : Nat → Nat → Int32) (B F : Nat → Nat → Option Nat) (L : List Pr) (hTI : TI p N B F L) (q r : Nat → Nat) (V : Nat → Nat → Nat) (n0 : Nat) (d : Nat) (v : Int32) (o : Nat) (w : Int32) (hd : d < 2) (ho : o < 2) (hnd : (aTS a).Nodup) : Mt l yX1_leastRow wsX1_leastRow 4 100 [.ref (a 11), .ref (a 0), .int (nI d), .int (v), .int (nI o), .int (w)] G (cT G a p N B F L.length ++ cS G a q r V n0) (fun q => q ∈ aTS a) (fun x h => ∃ z : Nat, x = some (.int (nI z)) ∧ (∃ far, IsFar (tch L) L.length (fun i => key d L i = v) far ∧ ((z = 0 ∧ ∀ k, k < L.length → key o L k = w → far k = 0) ∨ (∃ k, k < L.length ∧ key o L k = w ∧ far k ≠ 0 ∧ z = far k ∧ ∀ j, j < L.length → key o L j = w → far j ≠ 0 → far k ≤ far j))) ∧ ∃ (q' r' : Nat → Nat) (V' : Nat → Nat → Nat) (n' : Nat), va_P G.1 vwCl (cT G a p N B F L.length ++ cS G a q' r' V' n') h) := by
  refine Mt.mk cX1_leastRow 7 (some .int) (by decide) rfl (Nat.le_of_ble_eq_true rfl) ?_
  intro p9 e s m below meth c ls hx hb hr hml hts hown hlocks hP hK hl
  have hinX1 : ∀ w ∈ wsX10, w ∈ wsX1_leastRow := by decide +kernel
  have hinX2 : ∀ w ∈ wsX20, w ∈ wsX1_leastRow := by decide +kernel
  have hS : va_S (fun q => q ∈ aTS a) s.heap s.heap [] := va_S.rf
  have hl : lv_has ls 7 [(0, .ref (a 11)), (1, .ref (a 0)), (2, .int (nI d)), (3, .int (v)), (4, .int (nI o)), (5, .int (w))] := hl
  have hown : s.vm.findClass RX1 = some m.cls := hown
  have hDD : ∀ ws : va_W, ws.map Prod.fst = aTS a → va_D (fun q => q ∈ aTS a) ws := D_of hnd (fun q h => h)
  obtain ⟨hp, hinj, hn, hk, hlk⟩ := id hTI
  refine lv_aload_n hx hb dX1_leastRow_0 rfl (lv_at hl 0 rfl) ?_
  refine lv_aload_n hx hb dX1_leastRow_1 rfl (lv_at hl 1 rfl) ?_
  refine lv_iload_n hx hb dX1_leastRow_2 rfl (lv_at hl 2 rfl) ?_
  refine lv_iload_n hx hb dX1_leastRow_3 rfl (lv_at hl 3 rfl) ?_
  refine z_callV (rest := []) 3 ⟨hx, hb, hml, hown, hts⟩ hK (c_start l G a p N B F L hTI q r V n0 d v hd hnd) gX1_leastRow_X1_start rfl (by decide +kernel) ⟨Nat.le_of_ble_eq_true rfl, Nat.le_of_ble_eq_true rfl⟩ hP 11 rfl rfl rfl rfl hl.1 rfl (Nat.le_of_ble_eq_true rfl) dX1_leastRow_4 ⟨Nat.le_refl _, Nat.le_refl _⟩ hS (fun _ h => h) (fun v9 H9 locs hR9 hk9 hS => ?_)
  obtain ⟨rfl, q2, r2, V2, n2, g2, hg2, hFar, hcz2, hg3, hcov, hmon, hr3, hP⟩ := hR9
  clear hk9
  generalize H9 = H at hP hS ⊢
  refine W.eq (g2 := F0 m 7 ls []) rfl ?_
  have hn2 : n2 ≤ 300 := by have := cz_le (fun i => r2 (p i)) L.length; omega
  refine lv_iconst (v := nI 0) hx hb dX1_leastRow_7 rfl ?_
  refine lv_istore (lv' := [(6, .int (nI 0)), (0, .ref (a 11)), (1, .ref (a 0)), (2, .int (nI d)), (3, .int (v)), (4, .int (nI o)), (5, .int (w))]) hx hb dX1_leastRow_8 hl (by decide) rfl (fun ls hl => ?_)
  have loop : ∀ (k9 : Nat) (i : Nat) (H : Heap) (locs : List Loc) (ls : Array Slot), (n2 < i + k9) → (i ≤ n2) → (∀ j, j < i → ¬ key o L (g2 j) = w) → va_P G.1 vwCl (cT G a p N B F L.length ++ cS G a q2 r2 V2 n2) H → va_S (fun q => q ∈ aTS a) s.heap H locs → lv_has ls 7 [(6, .int (nI i)), (0, .ref (a 11)), (1, .ref (a 0)), (2, .int (nI d)), (3, .int (v)), (4, .int (nI o)), (5, .int (w))] → Wz p9 l e 4 100 s m [.ref (a 11), .ref (a 0), .int (nI d), .int (v), .int (nI o), .int (w)] below meth c (fun q => q ∈ aTS a) (fun x h => ∃ z : Nat, x = some (.int (nI z)) ∧ (∃ far, IsFar (tch L) L.length (fun i => key d L i = v) far ∧ ((z = 0 ∧ ∀ k, k < L.length → key o L k = w → far k = 0) ∨ (∃ k, k < L.length ∧ key o L k = w ∧ far k ≠ 0 ∧ z = far k ∧ ∀ j, j < L.length → key o L j = w → far j ≠ 0 → far k ≤ far j))) ∧ ∃ (q' r' : Nat → Nat) (V' : Nat → Nat → Nat) (n' : Nat), va_P G.1 vwCl (cT G a p N B F L.length ++ cS G a q' r' V' n') h) H locs (F0 m 10 ls []) := by
    intro k9
    induction k9 with
    | zero =>
      intro i H locs ls hfuel hi hinv hP hS hl
      exact absurd hfuel (by omega)
    | succ k9 ih =>
      intro i H locs ls hfuel hi hinv hP hS hl
      refine lv_iload hx hb dX1_leastRow_10 (lv_at hl 0 rfl) ?_
      refine lv_aload_n hx hb dX1_leastRow_12 rfl (lv_at hl 1 rfl) ?_
      refine va_get (D := G.1) (ci := 1) (v := .int (nI n2)) (C := RX1) (T := TX1) (N := 4) hx hb hts hinX1 hown hK.1 hP 11 rfl rfl 1 (by decide) (hts (.fieldLink RX1 27 "PairThreads$Spread" "found" "I") (by decide +kernel)) (fun _ h9 => h9) rfl dX1_leastRow_13 ?_
      refine z_icmp_ge (tgt := 58) hx hb (by omega) (by omega) dX1_leastRow_16 (by decide) (fun hc1 => ?_) (fun hc1 => ?_)
      · refine lv_iconst (v := nI 0) hx hb dX1_leastRow_58 rfl ?_
        exact z_iret hx hb hr hlocks ⟨0, rfl, ⟨_, hFar, Or.inl ⟨rfl, fun k hk9 hw => Decidable.byContradiction (fun h0 => by obtain ⟨j, h1, h2⟩ := hcov k hk9 h0; exact hinv j (by omega) (by rw [h2]; exact hw))⟩⟩, q2, r2, V2, n2, hP⟩ hS dX1_leastRow_59
      · have hgi := hg3 i (by omega)
        have hpg := hp (g2 i) (by omega)
        have hqi := hg2 i (by omega)
        refine lv_aload_n hx hb dX1_leastRow_19 rfl (lv_at hl 2 rfl) ?_
        refine va_getN (D := G.1) (host := "PairThreads") (ci := 2) (v := .ref (a 2)) (C := RX2) (T := TX2) (N := 5) hx hb hts hinX2 hown hK.1 hP 0 rfl rfl 1 (by decide) hK.2.nlX1_number (fun _ h9 => h9) rfl dX1_leastRow_20 ?_
        refine lv_iload hx hb dX1_leastRow_23 (lv_at hl 5 rfl) ?_
        refine z_ald hx hb hK hP 2 rfl (j := o) (by omega) (by decide) dX1_leastRow_25 ?_
        refine lv_aload_n hx hb dX1_leastRow_26 rfl (lv_at hl 1 rfl) ?_
        refine va_get (D := G.1) (ci := 1) (v := .ref (a 12)) (C := RX1) (T := TX1) (N := 4) hx hb hts hinX1 hown hK.1 hP 11 rfl rfl 0 (by decide) (hts (.fieldLink RX1 9 "PairThreads$Spread" "reached" "[I") (by decide +kernel)) (fun _ h9 => h9) rfl dX1_leastRow_27 ?_
        refine lv_iload hx hb dX1_leastRow_30 (lv_at hl 0 rfl) ?_
        refine z_ialdN hx hb hK hP 12 rfl (j := i) (by omega) (by decide) dX1_leastRow_32 ?_
        refine z_top (y := nI (p (g2 i))) (congrArg nI hqi) ?_
        refine z_iald hx hb hK hP (5 + o) (cT_N ho) (j := p (g2 i)) (by omega) (by decide) dX1_leastRow_33 ?_
        refine z_top (y := key o L (g2 i)) (hk o (g2 i) ho hgi.1) ?_
        refine lv_iload hx hb dX1_leastRow_34 (lv_at hl 6 rfl) ?_
        refine lv_icmp_ne (tgt := 52) hx hb dX1_leastRow_36 (by decide) (fun hc2 => ?_) (fun hc2 => ?_)
        · refine z_iinc (lv' := [(6, .int (nI (i + 1))), (0, .ref (a 11)), (1, .ref (a 0)), (2, .int (nI d)), (3, .int (v)), (4, .int (nI o)), (5, .int (w))]) hx hb dX1_leastRow_52 hl (k := 0) rfl (by decide) rfl (fun ls hl => ?_)
          refine lv_goto (tgt := 10) hx hb dX1_leastRow_55 (by decide) ?_
          exact ih (i + 1) H locs ls (by omega) (by omega) (fun j hj => by rcases Nat.lt_succ_iff_lt_or_eq.mp hj with q | q; exact hinv j q; exact q ▸ hc2) hP hS (lv_sub hl [0, 1, 2, 3, 4, 5, 6] rfl)
        · refine lv_aload_n hx hb dX1_leastRow_39 rfl (lv_at hl 1 rfl) ?_
          refine va_get (D := G.1) (ci := 1) (v := .ref (a 13)) (C := RX1) (T := TX1) (N := 4) hx hb hts hinX1 hown hK.1 hP 11 rfl rfl 2 (by decide) (hts (.fieldLink RX1 15 "PairThreads$Spread" "rowTo" "[I") (by decide +kernel)) (fun _ h9 => h9) rfl dX1_leastRow_40 ?_
          refine lv_aload_n hx hb dX1_leastRow_43 rfl (lv_at hl 1 rfl) ?_
          refine va_get (D := G.1) (ci := 1) (v := .ref (a 12)) (C := RX1) (T := TX1) (N := 4) hx hb hts hinX1 hown hK.1 hP 11 rfl rfl 0 (by decide) (hts (.fieldLink RX1 9 "PairThreads$Spread" "reached" "[I") (by decide +kernel)) (fun _ h9 => h9) rfl dX1_leastRow_44 ?_
          refine lv_iload hx hb dX1_leastRow_47 (lv_at hl 0 rfl) ?_
          refine z_ialdN hx hb hK hP 12 rfl (j := i) (by omega) (by decide) dX1_leastRow_49 ?_
          refine z_top (y := nI (p (g2 i))) (congrArg nI hqi) ?_
          refine z_ialdN hx hb hK hP 13 rfl (j := p (g2 i)) (by omega) (by decide) dX1_leastRow_50 ?_
          exact z_iret hx hb hr hlocks ⟨r2 (p (g2 i)), rfl, ⟨_, hFar, Or.inr ⟨g2 i, hgi.1, hc2, hgi.2, rfl, fun j hj hw h0 => by obtain ⟨j2, h1, h2⟩ := hcov j hj h0; subst h2; rcases Nat.lt_or_ge j2 i with z | z; exact absurd hw (hinv j2 z); exact hmon i j2 z h1⟩⟩, q2, r2, V2, n2, hP⟩ hS dX1_leastRow_51
  exact loop (n2 + 1) 0 _ _ ls (by omega) (by omega) (fun j hj => absurd hj (Nat.not_lt_zero j)) hP hS (lv_sub hl [0, 1, 2, 3, 4, 5, 6] rfl)

set_option maxHeartbeats 4000000 in
set_option maxRecDepth 100000 in
/-- Spread.allParts -/
theorem c_allParts (l : Launch) (G : Gd) (a p : Nat → Nat) (N : Nat → Nat → Int32) (B F : Nat → Nat → Option Nat) (L : List Pr) (hTI : TI p N B F L) (q r : Nat → Nat) (V : Nat → Nat → Nat) (n0 : Nat) (hnd : (aTS a).Nodup) : Mt l yX1_allParts wsX1_allParts 3 76 [.ref (a 11), .ref (a 0)] G (cT G a p N B F L.length ++ cS G a q r V n0) (fun q => q ∈ aTS a) (fun x h => x = some (.int (nI (pcn (tch L) L.length L.length))) ∧ ∃ (q' r' : Nat → Nat) (V' : Nat → Nat → Nat) (n' : Nat), va_P G.1 vwCl (cT G a p N B F L.length ++ cS G a q' r' V' n') h) := by
  refine Mt.mk cX1_allParts 5 (some .int) (by decide) rfl (Nat.le_of_ble_eq_true rfl) ?_
  intro p9 e s m below meth c ls hx hb hr hml hts hown hlocks hP hK hl
  have hinX1 : ∀ w ∈ wsX10, w ∈ wsX1_allParts := by decide +kernel
  have hinX2 : ∀ w ∈ wsX20, w ∈ wsX1_allParts := by decide +kernel
  have hS : va_S (fun q => q ∈ aTS a) s.heap s.heap [] := va_S.rf
  have hl : lv_has ls 5 [(0, .ref (a 11)), (1, .ref (a 0))] := hl
  have hown : s.vm.findClass RX1 = some m.cls := hown
  have hDD : ∀ ws : va_W, ws.map Prod.fst = aTS a → va_D (fun q => q ∈ aTS a) ws := D_of hnd (fun q h => h)
  obtain ⟨hp, hinj, hn, hk, hlk⟩ := id hTI
  refine lv_iconst (v := nI 0) hx hb dX1_allParts_0 rfl ?_
  refine lv_istore_n (lv' := [(2, .int (nI 0)), (0, .ref (a 11)), (1, .ref (a 0))]) hx hb dX1_allParts_1 rfl hl (by decide) rfl (fun ls hl => ?_)
  refine lv_aload_n hx hb dX1_allParts_2 rfl (lv_at hl 1 rfl) ?_
  refine z_callV (rest := []) 0 ⟨hx, hb, hml, hown, hts⟩ hK (c_forget l G a q r V n0 (aTS_S hnd)) gX1_allParts_X1_forget rfl (by decide +kernel) ⟨Nat.le_of_ble_eq_true rfl, Nat.le_of_ble_eq_true rfl⟩ (hP.sub (ws' := cS G a q r V n0) [11, 12, 13, 14, 15, 16] rfl) 0 rfl rfl rfl rfl hl.1 rfl (Nat.le_of_ble_eq_true rfl) dX1_allParts_3 ⟨Nat.le_refl _, Nat.le_refl _⟩ hS (fun q h => List.mem_append_right _ h) (fun v9 H9 locs hR9 hk9 hS => ?_)
  obtain ⟨rfl, hP1⟩ := hR9
  have hPk := P_keep (hP.sub (ws' := cT G a p N B F L.length) [0, 1, 2, 3, 4, 5, 6, 7, 8, 9, 10] rfl) hk9 (aTS_sep hnd)
  have hP := hPk.app hP1
  clear hk9
  generalize H9 = H at hP hS ⊢
  refine W.eq (g2 := F0 m 6 ls []) rfl ?_
  have hP : va_P G.1 vwCl (cT G a p N B F L.length ++ cS G a q (fun _ => 0) (fun _ _ => 0) 0) H := hP
  refine lv_iconst (v := nI 0) hx hb dX1_allParts_6 rfl ?_
  refine lv_istore_n (lv' := [(3, .int (nI 0)), (2, .int (nI 0)), (0, .ref (a 11)), (1, .ref (a 0))]) hx hb dX1_allParts_7 rfl hl (by decide) rfl (fun ls hl => ?_)
  have loop : ∀ (k9 : Nat) (k : Nat) (q : Nat → Nat) (r : Nat → Nat) (V : Nat → Nat → Nat) (n0 : Nat) (g0 : Nat → Nat) (H : Heap) (locs : List Loc) (ls : Array Slot), (L.length < k + k9) → (k ≤ L.length) → (∀ i, i < n0 → q i = p (g0 i)) → (PI (tch L) L.length k (fun i => r (p i))) → (n0 + 0 = cz (fun i => r (p i)) L.length) → (∀ x, x < L.length → r (p x) ≤ 300) → (WK p L r V) → va_P G.1 vwCl (cT G a p N B F L.length ++ cS G a q r V n0) H → va_S (fun q => q ∈ aTS a) s.heap H locs → lv_has ls 5 [(3, .int (nI k)), (2, .int (nI (pcn (tch L) L.length k))), (0, .ref (a 11)), (1, .ref (a 0))] → Wz p9 l e 3 76 s m [.ref (a 11), .ref (a 0)] below meth c (fun q => q ∈ aTS a) (fun x h => x = some (.int (nI (pcn (tch L) L.length L.length))) ∧ ∃ (q' r' : Nat → Nat) (V' : Nat → Nat → Nat) (n' : Nat), va_P G.1 vwCl (cT G a p N B F L.length ++ cS G a q' r' V' n') h) H locs (F0 m 8 ls []) := by
    intro k9
    induction k9 with
    | zero =>
      intro k q r V n0 g0 H locs ls hfuel hk9 hg0 hPI hcz hFB hWK hP hS hl
      exact absurd hfuel (by omega)
    | succ k9 ih =>
      intro k q r V n0 g0 H locs ls hfuel hk9 hg0 hPI hcz hFB hWK hP hS hl
      refine lv_iload_n hx hb dX1_allParts_8 rfl (lv_at hl 0 rfl) ?_
      refine lv_aload_n hx hb dX1_allParts_9 rfl (lv_at hl 3 rfl) ?_
      refine va_getN (D := G.1) (host := "PairThreads") (ci := 2) (v := .int (nI L.length)) (C := RX2) (T := TX2) (N := 5) hx hb hts hinX2 hown hK.1 hP 0 rfl rfl 4 (by decide) hK.2.nlX1_size (fun _ h9 => h9) rfl dX1_allParts_10 ?_
      refine z_icmp_ge (tgt := 51) hx hb (by omega) (by omega) dX1_allParts_13 (by decide) (fun hc1 => ?_) (fun hc1 => ?_)
      · refine lv_iload_n hx hb dX1_allParts_51 rfl (lv_at hl 1 rfl) ?_
        exact z_iret hx hb hr hlocks ⟨by rw [show k = L.length by omega], q, r, V, n0, hP⟩ hS dX1_allParts_52
      · have hpk := hp k (by omega)
        have hfk := hFB k (by omega)
        refine lv_aload_n hx hb dX1_allParts_16 rfl (lv_at hl 3 rfl) ?_
        refine va_getN (D := G.1) (host := "PairThreads") (ci := 2) (v := .ref (a 1)) (C := RX2) (T := TX2) (N := 5) hx hb hts hinX2 hown hK.1 hP 0 rfl rfl 0 (by decide) hK.2.nlX1_order (fun _ h9 => h9) rfl dX1_allParts_17 ?_
        refine lv_iload_n hx hb dX1_allParts_20 rfl (lv_at hl 0 rfl) ?_
        refine z_ialdN hx hb hK hP 1 rfl (j := k) (by omega) (by decide) dX1_allParts_21 ?_
        refine lv_istore (lv' := [(4, .int (nI (p k))), (3, .int (nI k)), (2, .int (nI (pcn (tch L) L.length k))), (0, .ref (a 11)), (1, .ref (a 0))]) hx hb dX1_allParts_22 hl (by decide) rfl (fun ls hl => ?_)
        refine lv_aload_n hx hb dX1_allParts_24 rfl (lv_at hl 3 rfl) ?_
        refine va_get (D := G.1) (ci := 1) (v := .ref (a 13)) (C := RX1) (T := TX1) (N := 4) hx hb hts hinX1 hown hK.1 hP 11 rfl rfl 2 (by decide) (hts (.fieldLink RX1 15 "PairThreads$Spread" "rowTo" "[I") (by decide +kernel)) (fun _ h9 => h9) rfl dX1_allParts_25 ?_
        refine lv_iload hx hb dX1_allParts_28 (lv_at hl 0 rfl) ?_
        refine z_ialdN hx hb hK hP 13 rfl (j := p k) (by omega) (by decide) dX1_allParts_30 ?_
        refine z_if_ne (tgt := 45) hx hb (by omega) dX1_allParts_31 (by decide) (fun hc2 => ?_) (fun hc2 => ?_)
        · refine z_iinc (lv' := [(3, .int (nI (k + 1))), (4, .int (nI (p k))), (2, .int (nI (pcn (tch L) L.length k))), (0, .ref (a 11)), (1, .ref (a 0))]) hx hb dX1_allParts_45 hl (k := 1) rfl (by decide) rfl (fun ls hl => ?_)
          refine lv_goto (tgt := 8) hx hb dX1_allParts_48 (by decide) ?_
          have hl : lv_has ls 5 [(3, .int (nI (k + 1))), (4, .int (nI (p k))), (2, .int (nI (pcn (tch L) L.length (k + 1)))), (0, .ref (a 11)), (1, .ref (a 0))] := by rw [pcn_old ((hPI k (by omega)).mp hc2)]; exact hl
          exact ih (k + 1) q r V n0 g0 H locs ls (by omega) (by omega) hg0 (PI_old (by omega) hPI hc2) hcz hFB hWK hP hS (lv_sub hl [0, 2, 3, 4] rfl)
        · refine z_iinc (lv' := [(2, .int (nI (pcn (tch L) L.length k + 1))), (4, .int (nI (p k))), (3, .int (nI k)), (0, .ref (a 11)), (1, .ref (a 0))]) hx hb dX1_allParts_34 hl (k := 2) rfl (by decide) rfl (fun ls hl => ?_)
          refine lv_aload_n hx hb dX1_allParts_37 rfl (lv_at hl 3 rfl) ?_
          refine lv_aload_n hx hb dX1_allParts_38 rfl (lv_at hl 4 rfl) ?_
          refine lv_iconst (v := nI 0) hx hb dX1_allParts_39 rfl ?_
          refine lv_iload hx hb dX1_allParts_40 (lv_at hl 1 rfl) ?_
          refine z_callV (rest := []) 3 ⟨hx, hb, hml, hown, hts⟩ hK (c_spreadFrom l G a p N B F L hTI q r V n0 g0 hg0 0 k (by omega) (by omega) hc2 hcz hFB (fun x y hx2 hy2 h9 hT => by obtain ⟨j, a1, a2⟩ := (hPI x hx2).mp h9; exact (hPI y hy2).mpr ⟨j, a1, conn_step a2 hy2 hT⟩) hWK hnd) gX1_allParts_X1_spreadFrom rfl (by decide +kernel) ⟨Nat.le_of_ble_eq_true rfl, Nat.le_of_ble_eq_true rfl⟩ hP 11 rfl rfl rfl rfl hl.1 rfl (Nat.le_of_ble_eq_true rfl) dX1_allParts_42 ⟨Nat.le_refl _, Nat.le_refl _⟩ hS (fun _ h => h) (fun v9 H9 locs hR9 hk9 hS => ?_)
          obtain ⟨rfl, q2, r2, V2, n2, g2, hg2, ⟨b2, hBJ⟩, hPd, hEx, hWK2, hF2, hP⟩ := hR9
          clear hk9
          generalize H9 = H at hP hS ⊢
          refine W.eq (g2 := F0 m 45 ls []) rfl ?_
          have hPI2 : PI (tch L) L.length (k + 1) (fun i => r2 (p i)) := PI_new (tch_sym L) (show k < L.length by omega) hPI hc2 (S := fun x => key 0 L x = key 0 L k) rfl (fun x hx2 he => ⟨1, hx2, Or.inr ⟨k, ⟨by omega, rfl⟩, Or.inl he.symm⟩⟩) hBJ.1 hPd (fun x hx2 he => (hF2 x hx2 he).1) (fun x hx2 h0 => hEx.2.2 x hx2 h0)
          refine z_iinc (lv' := [(3, .int (nI (k + 1))), (2, .int (nI (pcn (tch L) L.length k + 1))), (4, .int (nI (p k))), (0, .ref (a 11)), (1, .ref (a 0))]) hx hb dX1_allParts_45 hl (k := 2) rfl (by decide) rfl (fun ls hl => ?_)
          refine lv_goto (tgt := 8) hx hb dX1_allParts_48 (by decide) ?_
          have hl : lv_has ls 5 [(3, .int (nI (k + 1))), (2, .int (nI (pcn (tch L) L.length (k + 1)))), (4, .int (nI (p k))), (0, .ref (a 11)), (1, .ref (a 0))] := by rw [pcn_new (fun z => (hPI k (by omega)).mpr z hc2)]; exact hl
          exact ih (k + 1) q2 r2 V2 n2 g2 H locs ls (by omega) (by omega) hg2 hPI2 hBJ.1.2.1 hBJ.2.2.1 hWK2 hP hS (lv_sub hl [0, 1, 3, 4] rfl)
  exact loop (L.length + 1) 0 q (fun _ => 0) (fun _ _ => 0) 0 q _ _ ls (by omega) (by omega) (fun i hi => absurd hi (Nat.not_lt_zero i)) (PI_0 (fun _ _ => rfl)) (cz_0 (fun _ _ => rfl)).symm (fun _ _ => Nat.zero_le _) (fun _ _ _ _ h => absurd rfl h) hP hS (lv_sub hl [0, 1, 2, 3] rfl)
end
section
/-! matchings and covers -/
theorem pig : ∀ (k m : Nat) (h : Nat → Nat), (∀ i, i < m → h i < k) → (∀ i j, i < m → j < m → h i = h j → i = j) → m ≤ k := by
  intro k
  induction k with
  | zero =>
    intro m h h1 _
    rcases Nat.eq_zero_or_pos m with z | z
    · omega
    · exact absurd (h1 0 z) (Nat.not_lt_zero _)
  | succ k ih =>
    intro m h h1 h2
    by_cases hx : ∃ i, i < m ∧ h i = k
    · obtain ⟨t, ht, he⟩ := hx
      have := ih (m - 1) (fun i => h (sg t i)) (fun i hi => by
        have a1 := sg_lt (t := t) (show i + 1 < m by omega)
        have a2 := h1 _ a1
        have a3 : h (sg t i) ≠ k := fun z => sg_ne t i (h2 _ _ a1 ht (z.trans he.symm))
        show h (sg t i) < k
        omega) (fun i j hi hj e => by
        have a1 := sg_lt (t := t) (show i + 1 < m by omega)
        have a2 := sg_lt (t := t) (show j + 1 < m by omega)
        have a3 := congrArg (ds t) (h2 _ _ a1 a2 e)
        rw [ds_sg, ds_sg] at a3
        exact a3)
      omega
    · exact Nat.le_succ_of_le (ih m h (fun i hi => by
        have a1 := h1 i hi
        have a2 : h i ≠ k := fun z => hx ⟨i, hi, z⟩
        omega) h2)
def isMat (L : List Pr) (k : Nat) : Prop := ∃ f : Nat → Nat, (∀ i, i < k → f i < L.length) ∧ ∀ i j, i < k → j < k → tch L (f i) (f j) → i = j
def isCov (L : List Pr) (k : Nat) : Prop := ∃ (c : Nat → Nat) (v : Nat → Int32), (∀ i, i < k → c i < 2) ∧ ∀ x, x < L.length → ∃ i, i < k ∧ key (c i) L x = v i
def isMM (L : List Pr) (k : Nat) : Prop := isMat L k ∧ isCov L k
theorem mm_le {L : List Pr} {m k : Nat} (hm : isMat L m) (hc : isCov L k) : m ≤ k := by
  obtain ⟨f, f1, f2⟩ := hm
  obtain ⟨c, v, c1, c2⟩ := hc
  have hx : ∀ i, ∃ j, i < m → j < k ∧ key (c j) L (f i) = v j := by
    intro i
    by_cases hi : i < m
    · obtain ⟨j, a, b⟩ := c2 (f i) (f1 i hi)
      exact ⟨j, fun _ => ⟨a, b⟩⟩
    · exact ⟨0, fun z => absurd z hi⟩
  refine pig k m (fun i => Classical.choose (hx i)) (fun i hi => (Classical.choose_spec (hx i) hi).1) (fun i j hi hj e => ?_)
  have a := Classical.choose_spec (hx i) hi
  have b := Classical.choose_spec (hx j) hj
  have e' : Classical.choose (hx i) = Classical.choose (hx j) := e
  rw [e'] at a
  exact f2 i j hi hj (tch_d (c1 _ b.1) (a.2.trans b.2.symm))
theorem isMM_uniq {L : List Pr} {m k : Nat} (h1 : isMM L m) (h2 : isMM L k) : m = k := Nat.le_antisymm (mm_le h1.1 h2.2) (mm_le h2.1 h1.2)
theorem enum_cz (P : Nat → Nat) (m : Nat) : ∃ e : Nat → Nat, (∀ i, i < cz P m → e i < m ∧ P (e i) ≠ 0) ∧ (∀ i j, i < cz P m → j < cz P m → e i = e j → i = j) ∧ ∀ r, r < m → P r ≠ 0 → ∃ i, i < cz P m ∧ e i = r := by
  induction m with
  | zero => exact ⟨fun _ => 0, fun i hi => absurd hi (Nat.not_lt_zero i), fun i _ hi => absurd hi (Nat.not_lt_zero i), fun r hr => absurd hr (Nat.not_lt_zero r)⟩
  | succ m ih =>
    obtain ⟨e, h1, h2, h3⟩ := ih
    by_cases hp : P m = 0
    · have hc : cz P (m + 1) = cz P m := by simp [cz, hp]
      rw [hc]
      refine ⟨e, fun i hi => ⟨by have := (h1 i hi).1; omega, (h1 i hi).2⟩, h2, fun r hr h0 => ?_⟩
      rcases Nat.lt_succ_iff_lt_or_eq.mp hr with z | z
      · exact h3 r z h0
      · rw [z] at h0; exact absurd hp h0
    · have hc : cz P (m + 1) = cz P m + 1 := by simp [cz, hp]
      rw [hc]
      have eo : ∀ i, i < cz P m → va_up e (cz P m) m i = e i := fun i hi => up_n (by omega)
      refine ⟨va_up e (cz P m) m, fun i hi => ?_, fun i j hi hj he => ?_, fun r hr h0 => ?_⟩
      · rcases Nat.lt_succ_iff_lt_or_eq.mp hi with z | z
        · rw [eo i z]; exact ⟨by have := (h1 i z).1; omega, (h1 i z).2⟩
        · rw [z, up_s]; exact ⟨by omega, hp⟩
      · rcases Nat.lt_succ_iff_lt_or_eq.mp hi with z | z <;> rcases Nat.lt_succ_iff_lt_or_eq.mp hj with y | y
        · rw [eo i z, eo j y] at he; exact h2 i j z y he
        · rw [eo i z, y, up_s] at he; have := (h1 i z).1; omega
        · rw [eo j y, z, up_s] at he; have := (h1 j y).1; omega
        · omega
      · rcases Nat.lt_succ_iff_lt_or_eq.mp hr with z | z
        · obtain ⟨i, a, b⟩ := h3 r z h0
          exact ⟨i, by omega, by rw [eo i a]; exact b⟩
        · exact ⟨cz P m, by omega, by rw [up_s, z]⟩
/-- a matching with a cover of the same size -/
theorem MM_of {L : List Pr} {m : Nat} (mk E : Nat → Nat) (D : Nat → Prop) (h1 : ∀ r, r < m → mk r ≠ 0 → E r < L.length) (h2 : ∀ r t, r < m → t < m → mk r ≠ 0 → mk t ≠ 0 → tch L (E r) (E t) → r = t)
    (h3 : ∀ x, x < L.length → ∃ r, r < m ∧ mk r ≠ 0 ∧ ((D r ∧ key 1 L x = key 1 L (E r)) ∨ (¬ D r ∧ key 0 L x = key 0 L (E r)))) : isMM L (cz mk m) := by
  obtain ⟨e, a1, a2, a3⟩ := enum_cz mk m
  refine ⟨⟨fun i => E (e i), fun i hi => h1 _ (a1 i hi).1 (a1 i hi).2, fun i j hi hj ht => a2 i j hi hj (h2 _ _ (a1 i hi).1 (a1 j hj).1 (a1 i hi).2 (a1 j hj).2 ht)⟩, fun i => @ite Nat (D (e i)) (Classical.propDecidable _) 1 0, fun i => @ite Int32 (D (e i)) (Classical.propDecidable _) (key 1 L (E (e i))) (key 0 L (E (e i))), fun i _ => ?_, fun x hx => ?_⟩
  · show @ite Nat (D (e i)) (Classical.propDecidable _) 1 0 < 2
    split <;> omega
  · obtain ⟨r, b1, b2, b3⟩ := h3 x hx
    obtain ⟨i, c1, c2⟩ := a3 r b1 b2
    refine ⟨i, c1, ?_⟩
    show key (@ite Nat (D (e i)) (Classical.propDecidable _) 1 0) L x = @ite Int32 (D (e i)) (Classical.propDecidable _) (key 1 L (E (e i))) (key 0 L (E (e i)))
    rw [c2]
    rcases b3 with ⟨d1, d2⟩ | ⟨d1, d2⟩
    · rw [if_pos d1, if_pos d1]; exact d2
    · rw [if_neg d1, if_neg d1]; exact d2
def om (o : Option Nat) : Nat := match o with
  | none => 0
  | some _ => 1
theorem om_0 {o : Option Nat} : om o = 0 ↔ o = none := by
  cases o with
  | none => exact ⟨fun _ => rfl, fun _ => rfl⟩
  | some k => exact ⟨fun h => absurd h (by simp [om]), fun h => by cases h⟩
/-- one more of them is there -/
theorem cz_one {f g : Nat → Nat} {m k : Nat} (hk : k < m) (h0 : f k = 0) (h1 : g k ≠ 0) (h : ∀ i, i < m → i ≠ k → (f i = 0 ↔ g i = 0)) : cz g m = cz f m + 1 := by
  rw [← cz_set hk h0 h1]
  refine cz_congr (fun i hi => ?_)
  by_cases z : i = k
  · rw [z, up_s]
  · rw [up_n z]; exact (h i hi z).symm
end
section
/-! the model's numbers for lefts and rights, and its chains -/
theorem dis_le (K : Nat → Int32) (n : Nat) : dis K n ≤ n := by
  induction n with
  | zero => exact Nat.le_refl _
  | succ n ih => simp only [dis]; split <;> omega
def NL (K : Nat → Int32) (k lm : Nat) (lo : Nat → Nat) : Prop := (∀ j, j < k → lo j < lm) ∧ (∀ i j, i < k → j < k → (lo i = lo j ↔ K i = K j)) ∧ (∀ l, l < lm → ∃ j, j < k ∧ lo j = l) ∧ lm = dis K k
theorem NL_new {K : Nat → Int32} {k lm : Nat} {lo : Nat → Nat} (h : NL K k lm lo) (hn : ∀ i, i < k → ¬ K i = K k) : NL K (k + 1) (lm + 1) (va_up lo k lm) := by
  obtain ⟨h1, h2, h3, h4⟩ := h
  have lk9 : ∀ j, j < k → va_up lo k lm j = lo j := fun j hj => up_n (by omega)
  refine ⟨fun j hj => ?_, fun i j hi hj => ?_, fun l hl => ?_, ?_⟩
  · rcases Nat.lt_succ_iff_lt_or_eq.mp hj with z | z
    · rw [lk9 j z]; have := h1 j z; omega
    · rw [z, up_s]; omega
  · rcases Nat.lt_succ_iff_lt_or_eq.mp hi with z | z <;> rcases Nat.lt_succ_iff_lt_or_eq.mp hj with y | y
    · rw [lk9 i z, lk9 j y]; exact h2 i j z y
    · rw [lk9 i z, y, up_s]; exact ⟨fun e => by have := h1 i z; omega, fun e => absurd e (hn i z)⟩
    · rw [lk9 j y, z, up_s]; exact ⟨fun e => by have := h1 j y; omega, fun e => absurd e.symm (hn j y)⟩
    · rw [z, y]; exact ⟨fun _ => rfl, fun _ => rfl⟩
  · rcases Nat.lt_succ_iff_lt_or_eq.mp hl with z | z
    · obtain ⟨j, a, b⟩ := h3 l z
      exact ⟨j, by omega, by rw [lk9 j a]; exact b⟩
    · exact ⟨k, by omega, by rw [up_s, z]⟩
  · simp only [dis]; rw [if_pos hn, h4]
theorem NL_old {K : Nat → Int32} {k lm : Nat} {lo : Nat → Nat} {i0 : Nat} (h : NL K k lm lo) (hi0 : i0 < k) (he : K i0 = K k) : NL K (k + 1) lm (va_up lo k (lo i0)) := by
  obtain ⟨h1, h2, h3, h4⟩ := h
  have lk9 : ∀ j, j < k → va_up lo k (lo i0) j = lo j := fun j hj => up_n (by omega)
  refine ⟨fun j hj => ?_, fun i j hi hj => ?_, fun l hl => ?_, ?_⟩
  · rcases Nat.lt_succ_iff_lt_or_eq.mp hj with z | z
    · rw [lk9 j z]; exact h1 j z
    · rw [z, up_s]; exact h1 i0 hi0
  · rcases Nat.lt_succ_iff_lt_or_eq.mp hi with z | z <;> rcases Nat.lt_succ_iff_lt_or_eq.mp hj with y | y
    · rw [lk9 i z, lk9 j y]; exact h2 i j z y
    · rw [lk9 i z, y, up_s, ← he]; exact h2 i i0 z hi0
    · rw [lk9 j y, z, up_s, ← he]; exact h2 i0 j hi0 y
    · rw [z, y]; exact ⟨fun _ => rfl, fun _ => rfl⟩
  · obtain ⟨j, a, b⟩ := h3 l hl
    exact ⟨j, by omega, by rw [lk9 j a]; exact b⟩
  · simp only [dis]; rw [if_neg (fun z => z i0 hi0 he), h4]; rfl
def NC (k lm : Nat) (lo : Nat → Nat) (fo no : Nat → Option Nat) : Prop :=
  (∀ l, l < lm → ∃ j, fo l = some j ∧ j < k ∧ lo j = l ∧ ∀ i, j < i → i < k → ¬ lo i = l) ∧
  (∀ j, j < k → (no j = none ∧ ∀ i, i < j → ¬ lo i = lo j) ∨ ∃ i, no j = some i ∧ i < j ∧ lo i = lo j ∧ ∀ x, i < x → x < j → ¬ lo x = lo j)
theorem NC_new {k lm : Nat} {lo : Nat → Nat} {fo no : Nat → Option Nat} (h : NC k lm lo fo no) (hl : ∀ j, j < k → lo j < lm) : NC (k + 1) (lm + 1) (va_up lo k lm) (va_up (va_up fo lm none) lm (some k)) (va_up no k (va_up fo lm none lm)) := by
  have lk9 : ∀ j, j < k → va_up lo k lm j = lo j := fun j hj => up_n (by omega)
  refine ⟨fun l hl9 => ?_, fun j hj => ?_⟩
  · rcases Nat.lt_succ_iff_lt_or_eq.mp hl9 with z | z
    · obtain ⟨j, a1, a2, a3, a4⟩ := h.1 l z
      refine ⟨j, by rw [up_n (by omega), up_n (by omega)]; exact a1, by omega, by rw [lk9 j a2]; exact a3, fun i b1 b2 => ?_⟩
      rcases Nat.lt_succ_iff_lt_or_eq.mp b2 with y | y
      · rw [lk9 i y]; exact a4 i b1 y
      · rw [y, up_s]; omega
    · exact ⟨k, by rw [z, up_s], by omega, by rw [up_s, z], fun i b1 b2 => by omega⟩
  · rcases Nat.lt_succ_iff_lt_or_eq.mp hj with z | z
    · rw [up_n (show j ≠ k by omega), lk9 j z]
      rcases h.2 j z with ⟨a1, a2⟩ | ⟨i, a1, a2, a3, a4⟩
      · exact Or.inl ⟨a1, fun i hi => by rw [lk9 i (by omega)]; exact a2 i hi⟩
      · exact Or.inr ⟨i, a1, a2, by rw [lk9 i (by omega)]; exact a3, fun x b1 b2 => by rw [lk9 x (by omega)]; exact a4 x b1 b2⟩
    · subst z
      rw [up_s, up_s, up_s]
      exact Or.inl ⟨rfl, fun i hi => by rw [lk9 i hi]; have := hl i hi; omega⟩
theorem NC_old {k lm l0 : Nat} {lo : Nat → Nat} {fo no : Nat → Option Nat} (h : NC k lm lo fo no) (hl : l0 < lm) : NC (k + 1) lm (va_up lo k l0) (va_up fo l0 (some k)) (va_up no k (fo l0)) := by
  have lk9 : ∀ j, j < k → va_up lo k l0 j = lo j := fun j hj => up_n (by omega)
  refine ⟨fun l hl9 => ?_, fun j hj => ?_⟩
  · by_cases z : l = l0
    · exact ⟨k, by rw [z, up_s], by omega, by rw [up_s, z], fun i b1 b2 => by omega⟩
    · obtain ⟨j, a1, a2, a3, a4⟩ := h.1 l hl9
      refine ⟨j, by rw [up_n z]; exact a1, by omega, by rw [lk9 j a2]; exact a3, fun i b1 b2 => ?_⟩
      rcases Nat.lt_succ_iff_lt_or_eq.mp b2 with y | y
      · rw [lk9 i y]; exact a4 i b1 y
      · rw [y, up_s]; exact fun e => z e.symm
  · rcases Nat.lt_succ_iff_lt_or_eq.mp hj with z | z
    · rw [up_n (show j ≠ k by omega), lk9 j z]
      rcases h.2 j z with ⟨a1, a2⟩ | ⟨i, a1, a2, a3, a4⟩
      · exact Or.inl ⟨a1, fun i hi => by rw [lk9 i (by omega)]; exact a2 i hi⟩
      · exact Or.inr ⟨i, a1, a2, by rw [lk9 i (by omega)]; exact a3, fun x b1 b2 => by rw [lk9 x (by omega)]; exact a4 x b1 b2⟩
    · subst z
      rw [up_s, up_s]
      obtain ⟨i, a1, a2, a3, a4⟩ := h.1 l0 hl
      exact Or.inr ⟨i, a1, a2, by rw [lk9 i a2]; exact a3, fun x b1 b2 => by rw [lk9 x b2]; exact a4 x b1 b2⟩
end
section
set_option maxHeartbeats 4000000 in
set_option maxRecDepth 100000 in
/-- the model: number -/
theorem c_number (l : Launch) (G : Gd) (b : Nat → Nat) (lf : Nat → Int32) (rt : Nat → Int32) (lo : Nat → Nat) (ro : Nat → Nat) (fo : Nat → Option Nat) (no : Nat → Option Nat) (lm : Nat) (rm : Nat) (pa : Nat → Option Nat) (mt : Nat → Int32) (q : Nat → Nat) (cf : Nat → Option Nat) (fa : Nat → Nat) (kp : Nat → Int32) (L : List Pr) (hMI : MI lf rt L) (hnd : (aR b).Nodup) : Mt l yX4_number wsX4_number 0 0 [.ref (b 0)] G (cR G b L.length lf rt lo ro fo no lm rm pa mt q cf fa kp) (fun q => q ∈ aR b) (fun r h => r = none ∧ ∃ (lo' ro' : Nat → Nat) (fo' no' : Nat → Option Nat) (lm' rm' : Nat), NL (key 0 L) L.length lm' lo' ∧ NL (key 1 L) L.length rm' ro' ∧ NC L.length lm' lo' fo' no' ∧ va_P G.1 vwCl (cR G b L.length lf rt lo' ro' fo' no' lm' rm' pa mt q cf fa kp) h) := by
  refine Mt.mk cX4_number 5 none (by decide) rfl (Nat.le_of_ble_eq_true rfl) ?_
  intro p9 e s m below meth c ls hx hb hr hml hts hown hlocks hP hK hl
  have hinX4 : ∀ w ∈ wsX40, w ∈ wsX4_number := by decide +kernel
  have hS : va_S (fun q => q ∈ aR b) s.heap s.heap [] := va_S.rf
  have hl : lv_has ls 5 [(0, .ref (b 0))] := hl
  have hown : s.vm.findClass RX4 = some m.cls := hown
  have hDD : ∀ ws : va_W, ws.map Prod.fst = aR b → va_D (fun q => q ∈ aR b) ws := D_of hnd (fun q h => h)
  have hn := hMI.1
  refine lv_aload_n hx hb dX4_number_0 rfl (lv_at hl 0 rfl) ?_
  refine lv_iconst (v := nI 0) hx hb dX4_number_1 rfl ?_
  refine va_put (D := G.1) (ci := 4) (v := .int (nI 0)) (ty := .int) (C := RX4) (T := TX4) (N := 15) hx hb hts hinX4 tyX4 tyX4_ok nmX4 hown hK.1 hP (hDD _ rfl) hS 0 rfl rfl 7 (by decide) (hts (.fieldLink RX4 73 "PairThreadsModel" "leftMany" "I") (by decide +kernel)) (fun _ h9 => h9) rfl (by decide +kernel) rfl rfl (Nat.le_of_ble_eq_true rfl) dX4_number_2 (fun H locs hP _ hS => ?_)
  have hP : va_P G.1 vwCl (cR G b L.length lf rt lo ro fo no 0 rm pa mt q cf fa kp) H := hP
  refine lv_aload_n hx hb dX4_number_5 rfl (lv_at hl 0 rfl) ?_
  refine lv_iconst (v := nI 0) hx hb dX4_number_6 rfl ?_
  refine va_put (D := G.1) (ci := 4) (v := .int (nI 0)) (ty := .int) (C := RX4) (T := TX4) (N := 15) hx hb hts hinX4 tyX4 tyX4_ok nmX4 hown hK.1 hP (hDD _ rfl) hS 0 rfl rfl 8 (by decide) (hts (.fieldLink RX4 76 "PairThreadsModel" "rightMany" "I") (by decide +kernel)) (fun _ h9 => h9) rfl (by decide +kernel) rfl rfl (Nat.le_of_ble_eq_true rfl) dX4_number_7 (fun H locs hP _ hS => ?_)
  have hP : va_P G.1 vwCl (cR G b L.length lf rt lo ro fo no 0 0 pa mt q cf fa kp) H := hP
  refine lv_iconst (v := nI 0) hx hb dX4_number_10 rfl ?_
  refine lv_istore_n (lv' := [(1, .int (nI 0)), (0, .ref (b 0))]) hx hb dX4_number_11 rfl hl (by decide) rfl (fun ls hl => ?_)
  have loop : ∀ (k9 : Nat) (k : Nat) (lo : Nat → Nat) (ro : Nat → Nat) (fo : Nat → Option Nat) (no : Nat → Option Nat) (lm : Nat) (rm : Nat) (H : Heap) (locs : List Loc) (ls : Array Slot), (L.length < k + k9) → (k ≤ L.length) → (NL (key 0 L) k lm lo) → (NL (key 1 L) k rm ro) → (NC k lm lo fo no) → va_P G.1 vwCl (cR G b L.length lf rt lo ro fo no lm rm pa mt q cf fa kp) H → va_S (fun q => q ∈ aR b) s.heap H locs → lv_has ls 5 [(1, .int (nI k)), (0, .ref (b 0))] → Wz p9 l e 0 0 s m [.ref (b 0)] below meth c (fun q => q ∈ aR b) (fun r h => r = none ∧ ∃ (lo' ro' : Nat → Nat) (fo' no' : Nat → Option Nat) (lm' rm' : Nat), NL (key 0 L) L.length lm' lo' ∧ NL (key 1 L) L.length rm' ro' ∧ NC L.length lm' lo' fo' no' ∧ va_P G.1 vwCl (cR G b L.length lf rt lo' ro' fo' no' lm' rm' pa mt q cf fa kp) h) H locs (F0 m 12 ls []) := by
    intro k9
    induction k9 with
    | zero =>
      intro k lo ro fo no lm rm H locs ls hfuel hk hNL hNR hNC hP hS hl
      exact absurd hfuel (by omega)
    | succ k9 ih =>
      intro k lo ro fo no lm rm H locs ls hfuel hk hNL hNR hNC hP hS hl
      have hd0 := dis_le (key 0 L) k
      have hd1 := dis_le (key 1 L) k
      have hlm := hNL.2.2.2
      have hrm := hNR.2.2.2
      rw [← hlm] at hd0
      rw [← hrm] at hd1
      refine lv_iload_n hx hb dX4_number_12 rfl (lv_at hl 0 rfl) ?_
      refine lv_aload_n hx hb dX4_number_13 rfl (lv_at hl 1 rfl) ?_
      refine va_get (D := G.1) (ci := 4) (v := .int (nI L.length)) (C := RX4) (T := TX4) (N := 15) hx hb hts hinX4 hown hK.1 hP 0 rfl rfl 0 (by decide) (hts (.fieldLink RX4 47 "PairThreadsModel" "many" "I") (by decide +kernel)) (fun _ h9 => h9) rfl dX4_number_14 ?_
      refine z_icmp_ge (tgt := 181) hx hb (by omega) (by omega) dX4_number_17 (by decide) (fun hc1 => ?_) (fun hc1 => ?_)
      · have he : k = L.length := by omega
        subst he
        exact z_vret hx hb hr hlocks ⟨rfl, lo, ro, fo, no, lm, rm, hNL, hNR, hNC, hP⟩ hS dX4_number_181
      · refine lv_iconst (v := (-1)) hx hb dX4_number_20 rfl ?_
        refine lv_istore_n (lv' := [(2, .int ((-1))), (1, .int (nI k)), (0, .ref (b 0))]) hx hb dX4_number_21 rfl hl (by decide) rfl (fun ls hl => ?_)
        refine lv_iconst (v := (-1)) hx hb dX4_number_22 rfl ?_
        refine lv_istore_n (lv' := [(3, .int ((-1))), (2, .int ((-1))), (1, .int (nI k)), (0, .ref (b 0))]) hx hb dX4_number_23 rfl hl (by decide) rfl (fun ls hl => ?_)
        refine lv_iconst (v := nI 0) hx hb dX4_number_24 rfl ?_
        refine lv_istore (lv' := [(4, .int (nI 0)), (3, .int ((-1))), (2, .int ((-1))), (1, .int (nI k)), (0, .ref (b 0))]) hx hb dX4_number_25 hl (by decide) rfl (fun ls hl => ?_)
        have hl : lv_has ls 5 [(4, .int (nI 0)), (3, .int ((-1))), (2, .int (lk none)), (1, .int (nI k)), (0, .ref (b 0))] := hl
        have hl : lv_has ls 5 [(4, .int (nI 0)), (3, .int (lk none)), (2, .int (lk none)), (1, .int (nI k)), (0, .ref (b 0))] := hl
        have ihout := ih
        have loop2 : ∀ (k9 : Nat) (j : Nat) (ol : Option Nat) (or : Option Nat) (H : Heap) (locs : List Loc) (ls : Array Slot), (k < j + k9) → (j ≤ k) → (((ol = none ∧ ∀ i, i < j → ¬ key 0 L i = key 0 L k) ∨ ∃ i, i < j ∧ key 0 L i = key 0 L k ∧ ol = some (lo i))) → (((or = none ∧ ∀ i, i < j → ¬ key 1 L i = key 1 L k) ∨ ∃ i, i < j ∧ key 1 L i = key 1 L k ∧ or = some (ro i))) → va_P G.1 vwCl (cR G b L.length lf rt lo ro fo no lm rm pa mt q cf fa kp) H → va_S (fun q => q ∈ aR b) s.heap H locs → lv_has ls 5 [(4, .int (nI j)), (2, .int (lk ol)), (3, .int (lk or)), (1, .int (nI k)), (0, .ref (b 0))] → Wz p9 l e 0 0 s m [.ref (b 0)] below meth c (fun q => q ∈ aR b) (fun r h => r = none ∧ ∃ (lo' ro' : Nat → Nat) (fo' no' : Nat → Option Nat) (lm' rm' : Nat), NL (key 0 L) L.length lm' lo' ∧ NL (key 1 L) L.length rm' ro' ∧ NC L.length lm' lo' fo' no' ∧ va_P G.1 vwCl (cR G b L.length lf rt lo' ro' fo' no' lm' rm' pa mt q cf fa kp) h) H locs (F0 m 27 ls []) := by
          intro k9
          induction k9 with
          | zero =>
            intro j ol or H locs ls hfuel hj hol hor hP hS hl
            exact absurd hfuel (by omega)
          | succ k9 ih =>
            intro j ol or H locs ls hfuel hj hol hor hP hS hl
            refine lv_iload hx hb dX4_number_27 (lv_at hl 0 rfl) ?_
            refine lv_iload_n hx hb dX4_number_29 rfl (lv_at hl 3 rfl) ?_
            refine z_icmp_ge (tgt := 95) hx hb (by omega) (by omega) dX4_number_30 (by decide) (fun hc2 => ?_) (fun hc2 => ?_)
            · have hjk : j = k := by omega
              subst hjk
              refine lv_iload_n hx hb dX4_number_95 rfl (lv_at hl 1 rfl) ?_
              refine lv_iconst (v := (-1)) hx hb dX4_number_96 rfl ?_
              refine z_none_ne (tgt := 122) hx hb (fun z hz => by rcases hol with ⟨e1, -⟩ | ⟨i, a1, -, e1⟩; rw [e1] at hz; cases hz; rw [e1] at hz; cases hz; have := hNL.1 i a1; omega) dX4_number_97 (by decide) (fun k2 hc3 => ?_) (fun hc3 => ?_)
              · rcases hol with ⟨e1, -⟩ | ⟨i2, a21, a22, e1⟩
                · rw [e1] at hc3; cases hc3
                · subst e1
                  have hl : lv_has ls 5 [(4, .int (nI j)), (2, .int (nI (lo i2))), (3, .int (lk or)), (1, .int (nI j)), (0, .ref (b 0))] := hl
                  have hli := hNL.1 i2 a21
                  refine lv_iload_n hx hb dX4_number_122 rfl (lv_at hl 2 rfl) ?_
                  refine lv_iconst (v := (-1)) hx hb dX4_number_123 rfl ?_
                  refine z_none_ne (tgt := 142) hx hb (fun z hz => by rcases hor with ⟨e1, -⟩ | ⟨i, a1, -, e1⟩; rw [e1] at hz; cases hz; rw [e1] at hz; cases hz; have := hNR.1 i a1; omega) dX4_number_124 (by decide) (fun k3 hc4 => ?_) (fun hc4 => ?_)
                  · rcases hor with ⟨e1, -⟩ | ⟨i3, a31, a32, e1⟩
                    · rw [e1] at hc4; cases hc4
                    · subst e1
                      have hl : lv_has ls 5 [(4, .int (nI j)), (2, .int (nI (lo i2))), (3, .int (nI (ro i3))), (1, .int (nI j)), (0, .ref (b 0))] := hl
                      have hri := hNR.1 i3 a31
                      refine lv_aload_n hx hb dX4_number_142 rfl (lv_at hl 4 rfl) ?_
                      refine va_get (D := G.1) (ci := 4) (v := .ref (b 3)) (C := RX4) (T := TX4) (N := 15) hx hb hts hinX4 hown hK.1 hP 0 rfl rfl 3 (by decide) (hts (.fieldLink RX4 16 "PairThreadsModel" "leftOf" "[I") (by decide +kernel)) (fun _ h9 => h9) rfl dX4_number_143 ?_
                      refine lv_iload_n hx hb dX4_number_146 rfl (lv_at hl 3 rfl) ?_
                      refine lv_iload_n hx hb dX4_number_147 rfl (lv_at hl 1 rfl) ?_
                      refine z_iastN hx hb hK hP (hDD _ rfl) hS 3 rfl (j := j) (by omega) (by decide) dX4_number_148 (fun H locs hP hS => ?_)
                      have hP : va_P G.1 vwCl (cR G b L.length lf rt (va_up lo j (lo i2)) ro fo no lm rm pa mt q cf fa kp) H := hP
                      refine lv_aload_n hx hb dX4_number_149 rfl (lv_at hl 4 rfl) ?_
                      refine va_get (D := G.1) (ci := 4) (v := .ref (b 4)) (C := RX4) (T := TX4) (N := 15) hx hb hts hinX4 hown hK.1 hP 0 rfl rfl 4 (by decide) (hts (.fieldLink RX4 19 "PairThreadsModel" "rightOf" "[I") (by decide +kernel)) (fun _ h9 => h9) rfl dX4_number_150 ?_
                      refine lv_iload_n hx hb dX4_number_153 rfl (lv_at hl 3 rfl) ?_
                      refine lv_iload_n hx hb dX4_number_154 rfl (lv_at hl 2 rfl) ?_
                      refine z_iastN hx hb hK hP (hDD _ rfl) hS 4 rfl (j := j) (by omega) (by decide) dX4_number_155 (fun H locs hP hS => ?_)
                      have hP : va_P G.1 vwCl (cR G b L.length lf rt (va_up lo j (lo i2)) (va_up ro j (ro i3)) fo no lm rm pa mt q cf fa kp) H := hP
                      refine lv_aload_n hx hb dX4_number_156 rfl (lv_at hl 4 rfl) ?_
                      refine va_get (D := G.1) (ci := 4) (v := .ref (b 6)) (C := RX4) (T := TX4) (N := 15) hx hb hts hinX4 hown hK.1 hP 0 rfl rfl 6 (by decide) (hts (.fieldLink RX4 25 "PairThreadsModel" "nextOf" "[I") (by decide +kernel)) (fun _ h9 => h9) rfl dX4_number_157 ?_
                      refine lv_iload_n hx hb dX4_number_160 rfl (lv_at hl 3 rfl) ?_
                      refine lv_aload_n hx hb dX4_number_161 rfl (lv_at hl 4 rfl) ?_
                      refine va_get (D := G.1) (ci := 4) (v := .ref (b 5)) (C := RX4) (T := TX4) (N := 15) hx hb hts hinX4 hown hK.1 hP 0 rfl rfl 5 (by decide) (hts (.fieldLink RX4 22 "PairThreadsModel" "firstOf" "[I") (by decide +kernel)) (fun _ h9 => h9) rfl dX4_number_162 ?_
                      refine lv_iload_n hx hb dX4_number_165 rfl (lv_at hl 1 rfl) ?_
                      refine z_ialdO hx hb hK hP 5 rfl (j := lo i2) (by omega) (by decide) dX4_number_166 ?_
                      refine z_iastO hx hb hK hP (hDD _ rfl) hS 6 rfl (j := j) (by omega) (by decide) dX4_number_167 (fun H locs hP hS => ?_)
                      have hP : va_P G.1 vwCl (cR G b L.length lf rt (va_up lo j (lo i2)) (va_up ro j (ro i3)) fo (va_up no j (fo (lo i2))) lm rm pa mt q cf fa kp) H := hP
                      refine lv_aload_n hx hb dX4_number_168 rfl (lv_at hl 4 rfl) ?_
                      refine va_get (D := G.1) (ci := 4) (v := .ref (b 5)) (C := RX4) (T := TX4) (N := 15) hx hb hts hinX4 hown hK.1 hP 0 rfl rfl 5 (by decide) (hts (.fieldLink RX4 22 "PairThreadsModel" "firstOf" "[I") (by decide +kernel)) (fun _ h9 => h9) rfl dX4_number_169 ?_
                      refine lv_iload_n hx hb dX4_number_172 rfl (lv_at hl 1 rfl) ?_
                      refine lv_iload_n hx hb dX4_number_173 rfl (lv_at hl 3 rfl) ?_
                      refine z_top (y := lk (some j)) (rfl) ?_
                      refine z_iastO hx hb hK hP (hDD _ rfl) hS 5 rfl (j := lo i2) (by omega) (by decide) dX4_number_174 (fun H locs hP hS => ?_)
                      have hP : va_P G.1 vwCl (cR G b L.length lf rt (va_up lo j (lo i2)) (va_up ro j (ro i3)) (va_up fo (lo i2) (some j)) (va_up no j (fo (lo i2))) lm rm pa mt q cf fa kp) H := hP
                      refine z_iinc (lv' := [(1, .int (nI (j + 1))), (4, .int (nI j)), (2, .int (nI (lo i2))), (3, .int (nI (ro i3))), (0, .ref (b 0))]) hx hb dX4_number_175 hl (k := 3) rfl (by decide) rfl (fun ls hl => ?_)
                      refine lv_goto (tgt := 12) hx hb dX4_number_178 (by decide) ?_
                      exact ihout (j + 1) (va_up lo j (lo i2)) (va_up ro j (ro i3)) (va_up fo (lo i2) (some j)) (va_up no j (fo (lo i2))) lm rm H locs ls (by omega) (by omega) (NL_old hNL a21 a22) (NL_old hNR a31 a32) (NC_old hNC hli) hP hS (lv_sub hl [0, 4] rfl)
                  · have hnew1 : ∀ i, i < j → ¬ key 1 L i = key 1 L j := by rcases hor with ⟨-, h1⟩ | ⟨i, -, -, e1⟩; exact h1; rw [e1] at hc4; cases hc4
                    refine lv_aload_n hx hb dX4_number_127 rfl (lv_at hl 4 rfl) ?_
                    refine va_get (D := G.1) (ci := 4) (v := .int (nI rm)) (C := RX4) (T := TX4) (N := 15) hx hb hts hinX4 hown hK.1 hP 0 rfl rfl 8 (by decide) (hts (.fieldLink RX4 76 "PairThreadsModel" "rightMany" "I") (by decide +kernel)) (fun _ h9 => h9) rfl dX4_number_128 ?_
                    refine lv_istore_n (lv' := [(3, .int (nI rm)), (4, .int (nI j)), (2, .int (nI (lo i2))), (1, .int (nI j)), (0, .ref (b 0))]) hx hb dX4_number_131 rfl hl (by decide) rfl (fun ls hl => ?_)
                    refine lv_aload_n hx hb dX4_number_132 rfl (lv_at hl 4 rfl) ?_
                    refine lv_dup hx hb dX4_number_133 rfl ?_
                    refine va_get (D := G.1) (ci := 4) (v := .int (nI rm)) (C := RX4) (T := TX4) (N := 15) hx hb hts hinX4 hown hK.1 hP 0 rfl rfl 8 (by decide) (hts (.fieldLink RX4 76 "PairThreadsModel" "rightMany" "I") (by decide +kernel)) (fun _ h9 => h9) rfl dX4_number_134 ?_
                    refine lv_iconst (v := nI 1) hx hb dX4_number_137 rfl ?_
                    refine lv_iadd hx hb dX4_number_138 ?_
                    refine z_top (y := nI (rm + 1)) (nI_add _ _) ?_
                    refine va_put (D := G.1) (ci := 4) (v := .int (nI (rm + 1))) (ty := .int) (C := RX4) (T := TX4) (N := 15) hx hb hts hinX4 tyX4 tyX4_ok nmX4 hown hK.1 hP (hDD _ rfl) hS 0 rfl rfl 8 (by decide) (hts (.fieldLink RX4 76 "PairThreadsModel" "rightMany" "I") (by decide +kernel)) (fun _ h9 => h9) rfl (by decide +kernel) rfl rfl (Nat.le_of_ble_eq_true rfl) dX4_number_139 (fun H locs hP _ hS => ?_)
                    have hP : va_P G.1 vwCl (cR G b L.length lf rt lo ro fo no lm (rm + 1) pa mt q cf fa kp) H := hP
                    refine lv_aload_n hx hb dX4_number_142 rfl (lv_at hl 4 rfl) ?_
                    refine va_get (D := G.1) (ci := 4) (v := .ref (b 3)) (C := RX4) (T := TX4) (N := 15) hx hb hts hinX4 hown hK.1 hP 0 rfl rfl 3 (by decide) (hts (.fieldLink RX4 16 "PairThreadsModel" "leftOf" "[I") (by decide +kernel)) (fun _ h9 => h9) rfl dX4_number_143 ?_
                    refine lv_iload_n hx hb dX4_number_146 rfl (lv_at hl 3 rfl) ?_
                    refine lv_iload_n hx hb dX4_number_147 rfl (lv_at hl 2 rfl) ?_
                    refine z_iastN hx hb hK hP (hDD _ rfl) hS 3 rfl (j := j) (by omega) (by decide) dX4_number_148 (fun H locs hP hS => ?_)
                    have hP : va_P G.1 vwCl (cR G b L.length lf rt (va_up lo j (lo i2)) ro fo no lm (rm + 1) pa mt q cf fa kp) H := hP
                    refine lv_aload_n hx hb dX4_number_149 rfl (lv_at hl 4 rfl) ?_
                    refine va_get (D := G.1) (ci := 4) (v := .ref (b 4)) (C := RX4) (T := TX4) (N := 15) hx hb hts hinX4 hown hK.1 hP 0 rfl rfl 4 (by decide) (hts (.fieldLink RX4 19 "PairThreadsModel" "rightOf" "[I") (by decide +kernel)) (fun _ h9 => h9) rfl dX4_number_150 ?_
                    refine lv_iload_n hx hb dX4_number_153 rfl (lv_at hl 3 rfl) ?_
                    refine lv_iload_n hx hb dX4_number_154 rfl (lv_at hl 0 rfl) ?_
                    refine z_iastN hx hb hK hP (hDD _ rfl) hS 4 rfl (j := j) (by omega) (by decide) dX4_number_155 (fun H locs hP hS => ?_)
                    have hP : va_P G.1 vwCl (cR G b L.length lf rt (va_up lo j (lo i2)) (va_up ro j rm) fo no lm (rm + 1) pa mt q cf fa kp) H := hP
                    refine lv_aload_n hx hb dX4_number_156 rfl (lv_at hl 4 rfl) ?_
                    refine va_get (D := G.1) (ci := 4) (v := .ref (b 6)) (C := RX4) (T := TX4) (N := 15) hx hb hts hinX4 hown hK.1 hP 0 rfl rfl 6 (by decide) (hts (.fieldLink RX4 25 "PairThreadsModel" "nextOf" "[I") (by decide +kernel)) (fun _ h9 => h9) rfl dX4_number_157 ?_
                    refine lv_iload_n hx hb dX4_number_160 rfl (lv_at hl 3 rfl) ?_
                    refine lv_aload_n hx hb dX4_number_161 rfl (lv_at hl 4 rfl) ?_
                    refine va_get (D := G.1) (ci := 4) (v := .ref (b 5)) (C := RX4) (T := TX4) (N := 15) hx hb hts hinX4 hown hK.1 hP 0 rfl rfl 5 (by decide) (hts (.fieldLink RX4 22 "PairThreadsModel" "firstOf" "[I") (by decide +kernel)) (fun _ h9 => h9) rfl dX4_number_162 ?_
                    refine lv_iload_n hx hb dX4_number_165 rfl (lv_at hl 2 rfl) ?_
                    refine z_ialdO hx hb hK hP 5 rfl (j := lo i2) (by omega) (by decide) dX4_number_166 ?_
                    refine z_iastO hx hb hK hP (hDD _ rfl) hS 6 rfl (j := j) (by omega) (by decide) dX4_number_167 (fun H locs hP hS => ?_)
                    have hP : va_P G.1 vwCl (cR G b L.length lf rt (va_up lo j (lo i2)) (va_up ro j rm) fo (va_up no j (fo (lo i2))) lm (rm + 1) pa mt q cf fa kp) H := hP
                    refine lv_aload_n hx hb dX4_number_168 rfl (lv_at hl 4 rfl) ?_
                    refine va_get (D := G.1) (ci := 4) (v := .ref (b 5)) (C := RX4) (T := TX4) (N := 15) hx hb hts hinX4 hown hK.1 hP 0 rfl rfl 5 (by decide) (hts (.fieldLink RX4 22 "PairThreadsModel" "firstOf" "[I") (by decide +kernel)) (fun _ h9 => h9) rfl dX4_number_169 ?_
                    refine lv_iload_n hx hb dX4_number_172 rfl (lv_at hl 2 rfl) ?_
                    refine lv_iload_n hx hb dX4_number_173 rfl (lv_at hl 3 rfl) ?_
                    refine z_top (y := lk (some j)) (rfl) ?_
                    refine z_iastO hx hb hK hP (hDD _ rfl) hS 5 rfl (j := lo i2) (by omega) (by decide) dX4_number_174 (fun H locs hP hS => ?_)
                    have hP : va_P G.1 vwCl (cR G b L.length lf rt (va_up lo j (lo i2)) (va_up ro j rm) (va_up fo (lo i2) (some j)) (va_up no j (fo (lo i2))) lm (rm + 1) pa mt q cf fa kp) H := hP
                    refine z_iinc (lv' := [(1, .int (nI (j + 1))), (3, .int (nI rm)), (4, .int (nI j)), (2, .int (nI (lo i2))), (0, .ref (b 0))]) hx hb dX4_number_175 hl (k := 3) rfl (by decide) rfl (fun ls hl => ?_)
                    refine lv_goto (tgt := 12) hx hb dX4_number_178 (by decide) ?_
                    exact ihout (j + 1) (va_up lo j (lo i2)) (va_up ro j rm) (va_up fo (lo i2) (some j)) (va_up no j (fo (lo i2))) lm (rm + 1) H locs ls (by omega) (by omega) (NL_old hNL a21 a22) (NL_new hNR hnew1) (NC_old hNC hli) hP hS (lv_sub hl [0, 4] rfl)
              · have hnew0 : ∀ i, i < j → ¬ key 0 L i = key 0 L j := by rcases hol with ⟨-, h1⟩ | ⟨i, -, -, e1⟩; exact h1; rw [e1] at hc3; cases hc3
                refine lv_aload_n hx hb dX4_number_100 rfl (lv_at hl 4 rfl) ?_
                refine va_get (D := G.1) (ci := 4) (v := .int (nI lm)) (C := RX4) (T := TX4) (N := 15) hx hb hts hinX4 hown hK.1 hP 0 rfl rfl 7 (by decide) (hts (.fieldLink RX4 73 "PairThreadsModel" "leftMany" "I") (by decide +kernel)) (fun _ h9 => h9) rfl dX4_number_101 ?_
                refine lv_istore_n (lv' := [(2, .int (nI lm)), (4, .int (nI j)), (3, .int (lk or)), (1, .int (nI j)), (0, .ref (b 0))]) hx hb dX4_number_104 rfl hl (by decide) rfl (fun ls hl => ?_)
                refine lv_aload_n hx hb dX4_number_105 rfl (lv_at hl 4 rfl) ?_
                refine lv_dup hx hb dX4_number_106 rfl ?_
                refine va_get (D := G.1) (ci := 4) (v := .int (nI lm)) (C := RX4) (T := TX4) (N := 15) hx hb hts hinX4 hown hK.1 hP 0 rfl rfl 7 (by decide) (hts (.fieldLink RX4 73 "PairThreadsModel" "leftMany" "I") (by decide +kernel)) (fun _ h9 => h9) rfl dX4_number_107 ?_
                refine lv_iconst (v := nI 1) hx hb dX4_number_110 rfl ?_
                refine lv_iadd hx hb dX4_number_111 ?_
                refine z_top (y := nI (lm + 1)) (nI_add _ _) ?_
                refine va_put (D := G.1) (ci := 4) (v := .int (nI (lm + 1))) (ty := .int) (C := RX4) (T := TX4) (N := 15) hx hb hts hinX4 tyX4 tyX4_ok nmX4 hown hK.1 hP (hDD _ rfl) hS 0 rfl rfl 7 (by decide) (hts (.fieldLink RX4 73 "PairThreadsModel" "leftMany" "I") (by decide +kernel)) (fun _ h9 => h9) rfl (by decide +kernel) rfl rfl (Nat.le_of_ble_eq_true rfl) dX4_number_112 (fun H locs hP _ hS => ?_)
                have hP : va_P G.1 vwCl (cR G b L.length lf rt lo ro fo no (lm + 1) rm pa mt q cf fa kp) H := hP
                refine lv_aload_n hx hb dX4_number_115 rfl (lv_at hl 4 rfl) ?_
                refine va_get (D := G.1) (ci := 4) (v := .ref (b 5)) (C := RX4) (T := TX4) (N := 15) hx hb hts hinX4 hown hK.1 hP 0 rfl rfl 5 (by decide) (hts (.fieldLink RX4 22 "PairThreadsModel" "firstOf" "[I") (by decide +kernel)) (fun _ h9 => h9) rfl dX4_number_116 ?_
                refine lv_iload_n hx hb dX4_number_119 rfl (lv_at hl 0 rfl) ?_
                refine lv_iconst (v := (-1)) hx hb dX4_number_120 rfl ?_
                refine z_top (y := lk none) (rfl) ?_
                refine z_iastO hx hb hK hP (hDD _ rfl) hS 5 rfl (j := lm) (by omega) (by decide) dX4_number_121 (fun H locs hP hS => ?_)
                have hP : va_P G.1 vwCl (cR G b L.length lf rt lo ro (va_up fo lm none) no (lm + 1) rm pa mt q cf fa kp) H := hP
                refine lv_iload_n hx hb dX4_number_122 rfl (lv_at hl 2 rfl) ?_
                refine lv_iconst (v := (-1)) hx hb dX4_number_123 rfl ?_
                refine z_none_ne (tgt := 142) hx hb (fun z hz => by rcases hor with ⟨e1, -⟩ | ⟨i, a1, -, e1⟩; rw [e1] at hz; cases hz; rw [e1] at hz; cases hz; have := hNR.1 i a1; omega) dX4_number_124 (by decide) (fun k3 hc5 => ?_) (fun hc5 => ?_)
                · rcases hor with ⟨e1, -⟩ | ⟨i3, a31, a32, e1⟩
                  · rw [e1] at hc5; cases hc5
                  · subst e1
                    have hl : lv_has ls 5 [(2, .int (nI lm)), (4, .int (nI j)), (3, .int (nI (ro i3))), (1, .int (nI j)), (0, .ref (b 0))] := hl
                    have hri := hNR.1 i3 a31
                    refine lv_aload_n hx hb dX4_number_142 rfl (lv_at hl 4 rfl) ?_
                    refine va_get (D := G.1) (ci := 4) (v := .ref (b 3)) (C := RX4) (T := TX4) (N := 15) hx hb hts hinX4 hown hK.1 hP 0 rfl rfl 3 (by decide) (hts (.fieldLink RX4 16 "PairThreadsModel" "leftOf" "[I") (by decide +kernel)) (fun _ h9 => h9) rfl dX4_number_143 ?_
                    refine lv_iload_n hx hb dX4_number_146 rfl (lv_at hl 3 rfl) ?_
                    refine lv_iload_n hx hb dX4_number_147 rfl (lv_at hl 0 rfl) ?_
                    refine z_iastN hx hb hK hP (hDD _ rfl) hS 3 rfl (j := j) (by omega) (by decide) dX4_number_148 (fun H locs hP hS => ?_)
                    have hP : va_P G.1 vwCl (cR G b L.length lf rt (va_up lo j lm) ro (va_up fo lm none) no (lm + 1) rm pa mt q cf fa kp) H := hP
                    refine lv_aload_n hx hb dX4_number_149 rfl (lv_at hl 4 rfl) ?_
                    refine va_get (D := G.1) (ci := 4) (v := .ref (b 4)) (C := RX4) (T := TX4) (N := 15) hx hb hts hinX4 hown hK.1 hP 0 rfl rfl 4 (by decide) (hts (.fieldLink RX4 19 "PairThreadsModel" "rightOf" "[I") (by decide +kernel)) (fun _ h9 => h9) rfl dX4_number_150 ?_
                    refine lv_iload_n hx hb dX4_number_153 rfl (lv_at hl 3 rfl) ?_
                    refine lv_iload_n hx hb dX4_number_154 rfl (lv_at hl 2 rfl) ?_
                    refine z_iastN hx hb hK hP (hDD _ rfl) hS 4 rfl (j := j) (by omega) (by decide) dX4_number_155 (fun H locs hP hS => ?_)
                    have hP : va_P G.1 vwCl (cR G b L.length lf rt (va_up lo j lm) (va_up ro j (ro i3)) (va_up fo lm none) no (lm + 1) rm pa mt q cf fa kp) H := hP
                    refine lv_aload_n hx hb dX4_number_156 rfl (lv_at hl 4 rfl) ?_
                    refine va_get (D := G.1) (ci := 4) (v := .ref (b 6)) (C := RX4) (T := TX4) (N := 15) hx hb hts hinX4 hown hK.1 hP 0 rfl rfl 6 (by decide) (hts (.fieldLink RX4 25 "PairThreadsModel" "nextOf" "[I") (by decide +kernel)) (fun _ h9 => h9) rfl dX4_number_157 ?_
                    refine lv_iload_n hx hb dX4_number_160 rfl (lv_at hl 3 rfl) ?_
                    refine lv_aload_n hx hb dX4_number_161 rfl (lv_at hl 4 rfl) ?_
                    refine va_get (D := G.1) (ci := 4) (v := .ref (b 5)) (C := RX4) (T := TX4) (N := 15) hx hb hts hinX4 hown hK.1 hP 0 rfl rfl 5 (by decide) (hts (.fieldLink RX4 22 "PairThreadsModel" "firstOf" "[I") (by decide +kernel)) (fun _ h9 => h9) rfl dX4_number_162 ?_
                    refine lv_iload_n hx hb dX4_number_165 rfl (lv_at hl 0 rfl) ?_
                    refine z_ialdO hx hb hK hP 5 rfl (j := lm) (by omega) (by decide) dX4_number_166 ?_
                    refine z_iastO hx hb hK hP (hDD _ rfl) hS 6 rfl (j := j) (by omega) (by decide) dX4_number_167 (fun H locs hP hS => ?_)
                    have hP : va_P G.1 vwCl (cR G b L.length lf rt (va_up lo j lm) (va_up ro j (ro i3)) (va_up fo lm none) (va_up no j ((va_up fo lm none) lm)) (lm + 1) rm pa mt q cf fa kp) H := hP
                    refine lv_aload_n hx hb dX4_number_168 rfl (lv_at hl 4 rfl) ?_
                    refine va_get (D := G.1) (ci := 4) (v := .ref (b 5)) (C := RX4) (T := TX4) (N := 15) hx hb hts hinX4 hown hK.1 hP 0 rfl rfl 5 (by decide) (hts (.fieldLink RX4 22 "PairThreadsModel" "firstOf" "[I") (by decide +kernel)) (fun _ h9 => h9) rfl dX4_number_169 ?_
                    refine lv_iload_n hx hb dX4_number_172 rfl (lv_at hl 0 rfl) ?_
                    refine lv_iload_n hx hb dX4_number_173 rfl (lv_at hl 3 rfl) ?_
                    refine z_top (y := lk (some j)) (rfl) ?_
                    refine z_iastO hx hb hK hP (hDD _ rfl) hS 5 rfl (j := lm) (by omega) (by decide) dX4_number_174 (fun H locs hP hS => ?_)
                    have hP : va_P G.1 vwCl (cR G b L.length lf rt (va_up lo j lm) (va_up ro j (ro i3)) (va_up (va_up fo lm none) lm (some j)) (va_up no j ((va_up fo lm none) lm)) (lm + 1) rm pa mt q cf fa kp) H := hP
                    refine z_iinc (lv' := [(1, .int (nI (j + 1))), (2, .int (nI lm)), (4, .int (nI j)), (3, .int (nI (ro i3))), (0, .ref (b 0))]) hx hb dX4_number_175 hl (k := 3) rfl (by decide) rfl (fun ls hl => ?_)
                    refine lv_goto (tgt := 12) hx hb dX4_number_178 (by decide) ?_
                    exact ihout (j + 1) (va_up lo j lm) (va_up ro j (ro i3)) (va_up (va_up fo lm none) lm (some j)) (va_up no j ((va_up fo lm none) lm)) (lm + 1) rm H locs ls (by omega) (by omega) (NL_new hNL hnew0) (NL_old hNR a31 a32) (NC_new hNC hNL.1) hP hS (lv_sub hl [0, 4] rfl)
                · have hnew1 : ∀ i, i < j → ¬ key 1 L i = key 1 L j := by rcases hor with ⟨-, h1⟩ | ⟨i, -, -, e1⟩; exact h1; rw [e1] at hc5; cases hc5
                  refine lv_aload_n hx hb dX4_number_127 rfl (lv_at hl 4 rfl) ?_
                  refine va_get (D := G.1) (ci := 4) (v := .int (nI rm)) (C := RX4) (T := TX4) (N := 15) hx hb hts hinX4 hown hK.1 hP 0 rfl rfl 8 (by decide) (hts (.fieldLink RX4 76 "PairThreadsModel" "rightMany" "I") (by decide +kernel)) (fun _ h9 => h9) rfl dX4_number_128 ?_
                  refine lv_istore_n (lv' := [(3, .int (nI rm)), (2, .int (nI lm)), (4, .int (nI j)), (1, .int (nI j)), (0, .ref (b 0))]) hx hb dX4_number_131 rfl hl (by decide) rfl (fun ls hl => ?_)
                  refine lv_aload_n hx hb dX4_number_132 rfl (lv_at hl 4 rfl) ?_
                  refine lv_dup hx hb dX4_number_133 rfl ?_
                  refine va_get (D := G.1) (ci := 4) (v := .int (nI rm)) (C := RX4) (T := TX4) (N := 15) hx hb hts hinX4 hown hK.1 hP 0 rfl rfl 8 (by decide) (hts (.fieldLink RX4 76 "PairThreadsModel" "rightMany" "I") (by decide +kernel)) (fun _ h9 => h9) rfl dX4_number_134 ?_
                  refine lv_iconst (v := nI 1) hx hb dX4_number_137 rfl ?_
                  refine lv_iadd hx hb dX4_number_138 ?_
                  refine z_top (y := nI (rm + 1)) (nI_add _ _) ?_
                  refine va_put (D := G.1) (ci := 4) (v := .int (nI (rm + 1))) (ty := .int) (C := RX4) (T := TX4) (N := 15) hx hb hts hinX4 tyX4 tyX4_ok nmX4 hown hK.1 hP (hDD _ rfl) hS 0 rfl rfl 8 (by decide) (hts (.fieldLink RX4 76 "PairThreadsModel" "rightMany" "I") (by decide +kernel)) (fun _ h9 => h9) rfl (by decide +kernel) rfl rfl (Nat.le_of_ble_eq_true rfl) dX4_number_139 (fun H locs hP _ hS => ?_)
                  have hP : va_P G.1 vwCl (cR G b L.length lf rt lo ro (va_up fo lm none) no (lm + 1) (rm + 1) pa mt q cf fa kp) H := hP
                  refine lv_aload_n hx hb dX4_number_142 rfl (lv_at hl 4 rfl) ?_
                  refine va_get (D := G.1) (ci := 4) (v := .ref (b 3)) (C := RX4) (T := TX4) (N := 15) hx hb hts hinX4 hown hK.1 hP 0 rfl rfl 3 (by decide) (hts (.fieldLink RX4 16 "PairThreadsModel" "leftOf" "[I") (by decide +kernel)) (fun _ h9 => h9) rfl dX4_number_143 ?_
                  refine lv_iload_n hx hb dX4_number_146 rfl (lv_at hl 3 rfl) ?_
                  refine lv_iload_n hx hb dX4_number_147 rfl (lv_at hl 1 rfl) ?_
                  refine z_iastN hx hb hK hP (hDD _ rfl) hS 3 rfl (j := j) (by omega) (by decide) dX4_number_148 (fun H locs hP hS => ?_)
                  have hP : va_P G.1 vwCl (cR G b L.length lf rt (va_up lo j lm) ro (va_up fo lm none) no (lm + 1) (rm + 1) pa mt q cf fa kp) H := hP
                  refine lv_aload_n hx hb dX4_number_149 rfl (lv_at hl 4 rfl) ?_
                  refine va_get (D := G.1) (ci := 4) (v := .ref (b 4)) (C := RX4) (T := TX4) (N := 15) hx hb hts hinX4 hown hK.1 hP 0 rfl rfl 4 (by decide) (hts (.fieldLink RX4 19 "PairThreadsModel" "rightOf" "[I") (by decide +kernel)) (fun _ h9 => h9) rfl dX4_number_150 ?_
                  refine lv_iload_n hx hb dX4_number_153 rfl (lv_at hl 3 rfl) ?_
                  refine lv_iload_n hx hb dX4_number_154 rfl (lv_at hl 0 rfl) ?_
                  refine z_iastN hx hb hK hP (hDD _ rfl) hS 4 rfl (j := j) (by omega) (by decide) dX4_number_155 (fun H locs hP hS => ?_)
                  have hP : va_P G.1 vwCl (cR G b L.length lf rt (va_up lo j lm) (va_up ro j rm) (va_up fo lm none) no (lm + 1) (rm + 1) pa mt q cf fa kp) H := hP
                  refine lv_aload_n hx hb dX4_number_156 rfl (lv_at hl 4 rfl) ?_
                  refine va_get (D := G.1) (ci := 4) (v := .ref (b 6)) (C := RX4) (T := TX4) (N := 15) hx hb hts hinX4 hown hK.1 hP 0 rfl rfl 6 (by decide) (hts (.fieldLink RX4 25 "PairThreadsModel" "nextOf" "[I") (by decide +kernel)) (fun _ h9 => h9) rfl dX4_number_157 ?_
                  refine lv_iload_n hx hb dX4_number_160 rfl (lv_at hl 3 rfl) ?_
                  refine lv_aload_n hx hb dX4_number_161 rfl (lv_at hl 4 rfl) ?_
                  refine va_get (D := G.1) (ci := 4) (v := .ref (b 5)) (C := RX4) (T := TX4) (N := 15) hx hb hts hinX4 hown hK.1 hP 0 rfl rfl 5 (by decide) (hts (.fieldLink RX4 22 "PairThreadsModel" "firstOf" "[I") (by decide +kernel)) (fun _ h9 => h9) rfl dX4_number_162 ?_
                  refine lv_iload_n hx hb dX4_number_165 rfl (lv_at hl 1 rfl) ?_
                  refine z_ialdO hx hb hK hP 5 rfl (j := lm) (by omega) (by decide) dX4_number_166 ?_
                  refine z_iastO hx hb hK hP (hDD _ rfl) hS 6 rfl (j := j) (by omega) (by decide) dX4_number_167 (fun H locs hP hS => ?_)
                  have hP : va_P G.1 vwCl (cR G b L.length lf rt (va_up lo j lm) (va_up ro j rm) (va_up fo lm none) (va_up no j ((va_up fo lm none) lm)) (lm + 1) (rm + 1) pa mt q cf fa kp) H := hP
                  refine lv_aload_n hx hb dX4_number_168 rfl (lv_at hl 4 rfl) ?_
                  refine va_get (D := G.1) (ci := 4) (v := .ref (b 5)) (C := RX4) (T := TX4) (N := 15) hx hb hts hinX4 hown hK.1 hP 0 rfl rfl 5 (by decide) (hts (.fieldLink RX4 22 "PairThreadsModel" "firstOf" "[I") (by decide +kernel)) (fun _ h9 => h9) rfl dX4_number_169 ?_
                  refine lv_iload_n hx hb dX4_number_172 rfl (lv_at hl 1 rfl) ?_
                  refine lv_iload_n hx hb dX4_number_173 rfl (lv_at hl 3 rfl) ?_
                  refine z_top (y := lk (some j)) (rfl) ?_
                  refine z_iastO hx hb hK hP (hDD _ rfl) hS 5 rfl (j := lm) (by omega) (by decide) dX4_number_174 (fun H locs hP hS => ?_)
                  have hP : va_P G.1 vwCl (cR G b L.length lf rt (va_up lo j lm) (va_up ro j rm) (va_up (va_up fo lm none) lm (some j)) (va_up no j ((va_up fo lm none) lm)) (lm + 1) (rm + 1) pa mt q cf fa kp) H := hP
                  refine z_iinc (lv' := [(1, .int (nI (j + 1))), (3, .int (nI rm)), (2, .int (nI lm)), (4, .int (nI j)), (0, .ref (b 0))]) hx hb dX4_number_175 hl (k := 3) rfl (by decide) rfl (fun ls hl => ?_)
                  refine lv_goto (tgt := 12) hx hb dX4_number_178 (by decide) ?_
                  exact ihout (j + 1) (va_up lo j lm) (va_up ro j rm) (va_up (va_up fo lm none) lm (some j)) (va_up no j ((va_up fo lm none) lm)) (lm + 1) (rm + 1) H locs ls (by omega) (by omega) (NL_new hNL hnew0) (NL_new hNR hnew1) (NC_new hNC hNL.1) hP hS (lv_sub hl [0, 4] rfl)
            · have hmj := hMI.2 j (by omega)
              have hmk := hMI.2 k (by omega)
              refine lv_aload_n hx hb dX4_number_33 rfl (lv_at hl 4 rfl) ?_
              refine va_get (D := G.1) (ci := 4) (v := .ref (b 1)) (C := RX4) (T := TX4) (N := 15) hx hb hts hinX4 hown hK.1 hP 0 rfl rfl 1 (by decide) (hts (.fieldLink RX4 7 "PairThreadsModel" "lefts" "[I") (by decide +kernel)) (fun _ h9 => h9) rfl dX4_number_34 ?_
              refine lv_iload hx hb dX4_number_37 (lv_at hl 0 rfl) ?_
              refine z_iald hx hb hK hP 1 rfl (j := j) (by omega) (by decide) dX4_number_39 ?_
              refine lv_aload_n hx hb dX4_number_40 rfl (lv_at hl 4 rfl) ?_
              refine va_get (D := G.1) (ci := 4) (v := .ref (b 1)) (C := RX4) (T := TX4) (N := 15) hx hb hts hinX4 hown hK.1 hP 0 rfl rfl 1 (by decide) (hts (.fieldLink RX4 7 "PairThreadsModel" "lefts" "[I") (by decide +kernel)) (fun _ h9 => h9) rfl dX4_number_41 ?_
              refine lv_iload_n hx hb dX4_number_44 rfl (lv_at hl 3 rfl) ?_
              refine z_iald hx hb hK hP 1 rfl (j := k) (by omega) (by decide) dX4_number_45 ?_
              refine lv_icmp_ne (tgt := 59) hx hb dX4_number_46 (by decide) (fun hc6 => ?_) (fun hc6 => ?_)
              · rw [hmj.1, hmk.1] at hc6
                refine lv_iload_n hx hb dX4_number_59 rfl (lv_at hl 1 rfl) ?_
                refine lv_istore_n (lv' := [(2, .int (lk ol)), (4, .int (nI j)), (3, .int (lk or)), (1, .int (nI k)), (0, .ref (b 0))]) hx hb dX4_number_60 rfl hl (by decide) rfl (fun ls hl => ?_)
                refine lv_aload_n hx hb dX4_number_61 rfl (lv_at hl 4 rfl) ?_
                refine va_get (D := G.1) (ci := 4) (v := .ref (b 2)) (C := RX4) (T := TX4) (N := 15) hx hb hts hinX4 hown hK.1 hP 0 rfl rfl 2 (by decide) (hts (.fieldLink RX4 13 "PairThreadsModel" "rights" "[I") (by decide +kernel)) (fun _ h9 => h9) rfl dX4_number_62 ?_
                refine lv_iload hx hb dX4_number_65 (lv_at hl 1 rfl) ?_
                refine z_iald hx hb hK hP 2 rfl (j := j) (by omega) (by decide) dX4_number_67 ?_
                refine lv_aload_n hx hb dX4_number_68 rfl (lv_at hl 4 rfl) ?_
                refine va_get (D := G.1) (ci := 4) (v := .ref (b 2)) (C := RX4) (T := TX4) (N := 15) hx hb hts hinX4 hown hK.1 hP 0 rfl rfl 2 (by decide) (hts (.fieldLink RX4 13 "PairThreadsModel" "rights" "[I") (by decide +kernel)) (fun _ h9 => h9) rfl dX4_number_69 ?_
                refine lv_iload_n hx hb dX4_number_72 rfl (lv_at hl 3 rfl) ?_
                refine z_iald hx hb hK hP 2 rfl (j := k) (by omega) (by decide) dX4_number_73 ?_
                refine lv_icmp_ne (tgt := 87) hx hb dX4_number_74 (by decide) (fun hc7 => ?_) (fun hc7 => ?_)
                · rw [hmj.2, hmk.2] at hc7
                  refine lv_iload_n hx hb dX4_number_87 rfl (lv_at hl 2 rfl) ?_
                  refine lv_istore_n (lv' := [(3, .int (lk or)), (2, .int (lk ol)), (4, .int (nI j)), (1, .int (nI k)), (0, .ref (b 0))]) hx hb dX4_number_88 rfl hl (by decide) rfl (fun ls hl => ?_)
                  refine z_iinc (lv' := [(4, .int (nI (j + 1))), (3, .int (lk or)), (2, .int (lk ol)), (1, .int (nI k)), (0, .ref (b 0))]) hx hb dX4_number_89 hl (k := 2) rfl (by decide) rfl (fun ls hl => ?_)
                  refine lv_goto (tgt := 27) hx hb dX4_number_92 (by decide) ?_
                  exact ih (j + 1) ol or H locs ls (by omega) (by omega) (by rcases hol with ⟨e1, h1⟩ | ⟨i, a1, a2, e1⟩; exact Or.inl ⟨e1, fun i hi => by rcases Nat.lt_succ_iff_lt_or_eq.mp hi with z | z; exact h1 i z; subst z; exact hc6⟩; exact Or.inr ⟨i, by omega, a2, e1⟩) (by rcases hor with ⟨e1, h1⟩ | ⟨i, a1, a2, e1⟩; exact Or.inl ⟨e1, fun i hi => by rcases Nat.lt_succ_iff_lt_or_eq.mp hi with z | z; exact h1 i z; subst z; exact hc7⟩; exact Or.inr ⟨i, by omega, a2, e1⟩) hP hS (lv_sub hl [0, 2, 1, 3, 4] rfl)
                · rw [hmj.2, hmk.2] at hc7
                  refine lv_aload_n hx hb dX4_number_77 rfl (lv_at hl 4 rfl) ?_
                  refine va_get (D := G.1) (ci := 4) (v := .ref (b 4)) (C := RX4) (T := TX4) (N := 15) hx hb hts hinX4 hown hK.1 hP 0 rfl rfl 4 (by decide) (hts (.fieldLink RX4 19 "PairThreadsModel" "rightOf" "[I") (by decide +kernel)) (fun _ h9 => h9) rfl dX4_number_78 ?_
                  refine lv_iload hx hb dX4_number_81 (lv_at hl 1 rfl) ?_
                  refine z_ialdN hx hb hK hP 4 rfl (j := j) (by omega) (by decide) dX4_number_83 ?_
                  refine lv_goto (tgt := 88) hx hb dX4_number_84 (by decide) ?_
                  refine z_top (y := lk (some (ro j))) (rfl) ?_
                  refine lv_istore_n (lv' := [(3, .int (lk (some (ro j)))), (2, .int (lk ol)), (4, .int (nI j)), (1, .int (nI k)), (0, .ref (b 0))]) hx hb dX4_number_88 rfl hl (by decide) rfl (fun ls hl => ?_)
                  refine z_iinc (lv' := [(4, .int (nI (j + 1))), (3, .int (lk (some (ro j)))), (2, .int (lk ol)), (1, .int (nI k)), (0, .ref (b 0))]) hx hb dX4_number_89 hl (k := 2) rfl (by decide) rfl (fun ls hl => ?_)
                  refine lv_goto (tgt := 27) hx hb dX4_number_92 (by decide) ?_
                  exact ih (j + 1) ol (some (ro j)) H locs ls (by omega) (by omega) (by rcases hol with ⟨e1, h1⟩ | ⟨i, a1, a2, e1⟩; exact Or.inl ⟨e1, fun i hi => by rcases Nat.lt_succ_iff_lt_or_eq.mp hi with z | z; exact h1 i z; subst z; exact hc6⟩; exact Or.inr ⟨i, by omega, a2, e1⟩) (Or.inr ⟨j, by omega, hc7, rfl⟩) hP hS (lv_sub hl [0, 2, 1, 3, 4] rfl)
              · rw [hmj.1, hmk.1] at hc6
                refine lv_aload_n hx hb dX4_number_49 rfl (lv_at hl 4 rfl) ?_
                refine va_get (D := G.1) (ci := 4) (v := .ref (b 3)) (C := RX4) (T := TX4) (N := 15) hx hb hts hinX4 hown hK.1 hP 0 rfl rfl 3 (by decide) (hts (.fieldLink RX4 16 "PairThreadsModel" "leftOf" "[I") (by decide +kernel)) (fun _ h9 => h9) rfl dX4_number_50 ?_
                refine lv_iload hx hb dX4_number_53 (lv_at hl 0 rfl) ?_
                refine z_ialdN hx hb hK hP 3 rfl (j := j) (by omega) (by decide) dX4_number_55 ?_
                refine lv_goto (tgt := 60) hx hb dX4_number_56 (by decide) ?_
                refine z_top (y := lk (some (lo j))) (rfl) ?_
                refine lv_istore_n (lv' := [(2, .int (lk (some (lo j)))), (4, .int (nI j)), (3, .int (lk or)), (1, .int (nI k)), (0, .ref (b 0))]) hx hb dX4_number_60 rfl hl (by decide) rfl (fun ls hl => ?_)
                refine lv_aload_n hx hb dX4_number_61 rfl (lv_at hl 4 rfl) ?_
                refine va_get (D := G.1) (ci := 4) (v := .ref (b 2)) (C := RX4) (T := TX4) (N := 15) hx hb hts hinX4 hown hK.1 hP 0 rfl rfl 2 (by decide) (hts (.fieldLink RX4 13 "PairThreadsModel" "rights" "[I") (by decide +kernel)) (fun _ h9 => h9) rfl dX4_number_62 ?_
                refine lv_iload hx hb dX4_number_65 (lv_at hl 1 rfl) ?_
                refine z_iald hx hb hK hP 2 rfl (j := j) (by omega) (by decide) dX4_number_67 ?_
                refine lv_aload_n hx hb dX4_number_68 rfl (lv_at hl 4 rfl) ?_
                refine va_get (D := G.1) (ci := 4) (v := .ref (b 2)) (C := RX4) (T := TX4) (N := 15) hx hb hts hinX4 hown hK.1 hP 0 rfl rfl 2 (by decide) (hts (.fieldLink RX4 13 "PairThreadsModel" "rights" "[I") (by decide +kernel)) (fun _ h9 => h9) rfl dX4_number_69 ?_
                refine lv_iload_n hx hb dX4_number_72 rfl (lv_at hl 3 rfl) ?_
                refine z_iald hx hb hK hP 2 rfl (j := k) (by omega) (by decide) dX4_number_73 ?_
                refine lv_icmp_ne (tgt := 87) hx hb dX4_number_74 (by decide) (fun hc8 => ?_) (fun hc8 => ?_)
                · rw [hmj.2, hmk.2] at hc8
                  refine lv_iload_n hx hb dX4_number_87 rfl (lv_at hl 2 rfl) ?_
                  refine lv_istore_n (lv' := [(3, .int (lk or)), (2, .int (lk (some (lo j)))), (4, .int (nI j)), (1, .int (nI k)), (0, .ref (b 0))]) hx hb dX4_number_88 rfl hl (by decide) rfl (fun ls hl => ?_)
                  refine z_iinc (lv' := [(4, .int (nI (j + 1))), (3, .int (lk or)), (2, .int (lk (some (lo j)))), (1, .int (nI k)), (0, .ref (b 0))]) hx hb dX4_number_89 hl (k := 2) rfl (by decide) rfl (fun ls hl => ?_)
                  refine lv_goto (tgt := 27) hx hb dX4_number_92 (by decide) ?_
                  exact ih (j + 1) (some (lo j)) or H locs ls (by omega) (by omega) (Or.inr ⟨j, by omega, hc6, rfl⟩) (by rcases hor with ⟨e1, h1⟩ | ⟨i, a1, a2, e1⟩; exact Or.inl ⟨e1, fun i hi => by rcases Nat.lt_succ_iff_lt_or_eq.mp hi with z | z; exact h1 i z; subst z; exact hc8⟩; exact Or.inr ⟨i, by omega, a2, e1⟩) hP hS (lv_sub hl [0, 2, 1, 3, 4] rfl)
                · rw [hmj.2, hmk.2] at hc8
                  refine lv_aload_n hx hb dX4_number_77 rfl (lv_at hl 4 rfl) ?_
                  refine va_get (D := G.1) (ci := 4) (v := .ref (b 4)) (C := RX4) (T := TX4) (N := 15) hx hb hts hinX4 hown hK.1 hP 0 rfl rfl 4 (by decide) (hts (.fieldLink RX4 19 "PairThreadsModel" "rightOf" "[I") (by decide +kernel)) (fun _ h9 => h9) rfl dX4_number_78 ?_
                  refine lv_iload hx hb dX4_number_81 (lv_at hl 1 rfl) ?_
                  refine z_ialdN hx hb hK hP 4 rfl (j := j) (by omega) (by decide) dX4_number_83 ?_
                  refine lv_goto (tgt := 88) hx hb dX4_number_84 (by decide) ?_
                  refine z_top (y := lk (some (ro j))) (rfl) ?_
                  refine lv_istore_n (lv' := [(3, .int (lk (some (ro j)))), (2, .int (lk (some (lo j)))), (4, .int (nI j)), (1, .int (nI k)), (0, .ref (b 0))]) hx hb dX4_number_88 rfl hl (by decide) rfl (fun ls hl => ?_)
                  refine z_iinc (lv' := [(4, .int (nI (j + 1))), (3, .int (lk (some (ro j)))), (2, .int (lk (some (lo j)))), (1, .int (nI k)), (0, .ref (b 0))]) hx hb dX4_number_89 hl (k := 2) rfl (by decide) rfl (fun ls hl => ?_)
                  refine lv_goto (tgt := 27) hx hb dX4_number_92 (by decide) ?_
                  exact ih (j + 1) (some (lo j)) (some (ro j)) H locs ls (by omega) (by omega) (Or.inr ⟨j, by omega, hc6, rfl⟩) (Or.inr ⟨j, by omega, hc8, rfl⟩) hP hS (lv_sub hl [0, 2, 1, 3, 4] rfl)
        exact loop2 (k + 1) 0 none none _ _ ls (by omega) (by omega) (Or.inl ⟨rfl, fun i hi => absurd hi (Nat.not_lt_zero i)⟩) (Or.inl ⟨rfl, fun i hi => absurd hi (Nat.not_lt_zero i)⟩) hP hS (lv_sub hl [0, 2, 1, 3, 4] rfl)
  exact loop (L.length + 1) 0 lo ro fo no 0 0 _ _ ls (by omega) (by omega) ⟨fun j hj => absurd hj (Nat.not_lt_zero j), fun i j hi => absurd hi (Nat.not_lt_zero i), fun l hl => absurd hl (Nat.not_lt_zero l), rfl⟩ ⟨fun j hj => absurd hj (Nat.not_lt_zero j), fun i j hi => absurd hi (Nat.not_lt_zero i), fun l hl => absurd hl (Nat.not_lt_zero l), rfl⟩ ⟨fun l hl => absurd hl (Nat.not_lt_zero l), fun j hj => absurd hj (Nat.not_lt_zero j)⟩ hP hS (lv_sub hl [0, 1] rfl)
end
