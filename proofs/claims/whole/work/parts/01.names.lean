-- ===== PART A: goes FIRST, ahead of the names: the tables' words, and 'selects' of the private methods out of them =====
/-- a private method of a class that the tables say can be made, by its rows of tables_1 -/
def lw_okq (q : MethodName × Nat) : Prop := (q.1.cls ≠ "java/lang/invoke/MethodHandle" ∧ q.1.cls ≠ "java/lang/invoke/VarHandle") ∧ Cond.instantiable q.1.cls q.2 ∈ tables_1 ∧ Cond.privateMethod q.1 ∈ tables_1 ∧ Cond.instanceMethod q.1 ∈ tables_1
theorem lw_p0 : lw_okq (⟨"ReachProver$ClauseList", "removeAll", "()V"⟩, 3) := ⟨⟨by decide +kernel, by decide +kernel⟩, List.mem_of_getElem? (i := 14) (by decide +kernel), List.mem_of_getElem? (i := 55) (by decide +kernel), List.mem_of_getElem? (i := 56) (by decide +kernel)⟩
theorem lw_p1 : lw_okq (⟨"ReachProver", "forgetWhatFollowed", "()V"⟩, 6) := ⟨⟨by decide +kernel, by decide +kernel⟩, List.mem_of_getElem? (i := 5) (by decide +kernel), List.mem_of_getElem? (i := 59) (by decide +kernel), List.mem_of_getElem? (i := 60) (by decide +kernel)⟩
theorem lw_p2 : lw_okq (⟨"ReachProver", "isSetOf", "(II)Z"⟩, 6) := ⟨⟨by decide +kernel, by decide +kernel⟩, List.mem_of_getElem? (i := 5) (by decide +kernel), List.mem_of_getElem? (i := 70) (by decide +kernel), List.mem_of_getElem? (i := 71) (by decide +kernel)⟩
theorem lw_p3 : lw_okq (⟨"ReachProver$ClauseList", "isFull", "()Z"⟩, 3) := ⟨⟨by decide +kernel, by decide +kernel⟩, List.mem_of_getElem? (i := 14) (by decide +kernel), List.mem_of_getElem? (i := 74) (by decide +kernel), List.mem_of_getElem? (i := 75) (by decide +kernel)⟩
theorem lw_p4 : lw_okq (⟨"ReachProver$ClauseList", "add", "(II)V"⟩, 3) := ⟨⟨by decide +kernel, by decide +kernel⟩, List.mem_of_getElem? (i := 14) (by decide +kernel), List.mem_of_getElem? (i := 78) (by decide +kernel), List.mem_of_getElem? (i := 79) (by decide +kernel)⟩
theorem lw_p5 : lw_okq (⟨"ReachProver$ClauseList", "removeLast", "()V"⟩, 3) := ⟨⟨by decide +kernel, by decide +kernel⟩, List.mem_of_getElem? (i := 14) (by decide +kernel), List.mem_of_getElem? (i := 87) (by decide +kernel), List.mem_of_getElem? (i := 88) (by decide +kernel)⟩
theorem lw_p6 : lw_okq (⟨"ReachProver", "isState", "(I)Z"⟩, 6) := ⟨⟨by decide +kernel, by decide +kernel⟩, List.mem_of_getElem? (i := 5) (by decide +kernel), List.mem_of_getElem? (i := 103) (by decide +kernel), List.mem_of_getElem? (i := 104) (by decide +kernel)⟩
theorem lw_p7 : lw_okq (⟨"ReachProver", "stateCount", "()I"⟩, 6) := ⟨⟨by decide +kernel, by decide +kernel⟩, List.mem_of_getElem? (i := 5) (by decide +kernel), List.mem_of_getElem? (i := 107) (by decide +kernel), List.mem_of_getElem? (i := 108) (by decide +kernel)⟩
theorem lw_p8 : lw_okq (⟨"ReachProver", "canGo", "(II)Z"⟩, 6) := ⟨⟨by decide +kernel, by decide +kernel⟩, List.mem_of_getElem? (i := 5) (by decide +kernel), List.mem_of_getElem? (i := 111) (by decide +kernel), List.mem_of_getElem? (i := 112) (by decide +kernel)⟩
theorem lw_p9 : lw_okq (⟨"ReachProver$ClauseList", "allHold", "(I)Z"⟩, 3) := ⟨⟨by decide +kernel, by decide +kernel⟩, List.mem_of_getElem? (i := 14) (by decide +kernel), List.mem_of_getElem? (i := 115) (by decide +kernel), List.mem_of_getElem? (i := 116) (by decide +kernel)⟩
theorem lw_p10 : lw_okq (⟨"ReachProver", "isIn", "(II)Z"⟩, 6) := ⟨⟨by decide +kernel, by decide +kernel⟩, List.mem_of_getElem? (i := 5) (by decide +kernel), List.mem_of_getElem? (i := 119) (by decide +kernel), List.mem_of_getElem? (i := 120) (by decide +kernel)⟩
theorem lw_p11 : lw_okq (⟨"ReachProver", "findDepths", "()V"⟩, 6) := ⟨⟨by decide +kernel, by decide +kernel⟩, List.mem_of_getElem? (i := 5) (by decide +kernel), List.mem_of_getElem? (i := 131) (by decide +kernel), List.mem_of_getElem? (i := 132) (by decide +kernel)⟩
theorem lw_p12 : lw_okq (⟨"ReachProver", "goOnFrom", "(I)V"⟩, 6) := ⟨⟨by decide +kernel, by decide +kernel⟩, List.mem_of_getElem? (i := 5) (by decide +kernel), List.mem_of_getElem? (i := 135) (by decide +kernel), List.mem_of_getElem? (i := 136) (by decide +kernel)⟩
theorem lw_p13 : lw_okq (⟨"ReachProver", "goOnFromState", "(I)V"⟩, 6) := ⟨⟨by decide +kernel, by decide +kernel⟩, List.mem_of_getElem? (i := 5) (by decide +kernel), List.mem_of_getElem? (i := 139) (by decide +kernel), List.mem_of_getElem? (i := 140) (by decide +kernel)⟩
theorem lw_p14 : lw_okq (⟨"ReachProver", "isReachedBad", "(I)Z"⟩, 6) := ⟨⟨by decide +kernel, by decide +kernel⟩, List.mem_of_getElem? (i := 5) (by decide +kernel), List.mem_of_getElem? (i := 143) (by decide +kernel), List.mem_of_getElem? (i := 144) (by decide +kernel)⟩
theorem lw_p15 : lw_okq (⟨"ReachProver", "leastBreaking", "(I)I"⟩, 6) := ⟨⟨by decide +kernel, by decide +kernel⟩, List.mem_of_getElem? (i := 5) (by decide +kernel), List.mem_of_getElem? (i := 164) (by decide +kernel), List.mem_of_getElem? (i := 165) (by decide +kernel)⟩
def lw_privs_1 : List (MethodName × Nat) := [(⟨"ReachProver$ClauseList", "removeAll", "()V"⟩, 3), (⟨"ReachProver", "forgetWhatFollowed", "()V"⟩, 6), (⟨"ReachProver", "isSetOf", "(II)Z"⟩, 6), (⟨"ReachProver$ClauseList", "isFull", "()Z"⟩, 3), (⟨"ReachProver$ClauseList", "add", "(II)V"⟩, 3), (⟨"ReachProver$ClauseList", "removeLast", "()V"⟩, 3), (⟨"ReachProver", "isState", "(I)Z"⟩, 6), (⟨"ReachProver", "stateCount", "()I"⟩, 6), (⟨"ReachProver", "canGo", "(II)Z"⟩, 6), (⟨"ReachProver$ClauseList", "allHold", "(I)Z"⟩, 3), (⟨"ReachProver", "isIn", "(II)Z"⟩, 6), (⟨"ReachProver", "findDepths", "()V"⟩, 6), (⟨"ReachProver", "goOnFrom", "(I)V"⟩, 6), (⟨"ReachProver", "goOnFromState", "(I)V"⟩, 6), (⟨"ReachProver", "isReachedBad", "(I)Z"⟩, 6), (⟨"ReachProver", "leastBreaking", "(I)I"⟩, 6)]
theorem lw_r1 : ∀ q ∈ lw_privs_1, lw_okq q := List.forall_mem_cons.mpr ⟨lw_p0, List.forall_mem_cons.mpr ⟨lw_p1, List.forall_mem_cons.mpr ⟨lw_p2, List.forall_mem_cons.mpr ⟨lw_p3, List.forall_mem_cons.mpr ⟨lw_p4, List.forall_mem_cons.mpr ⟨lw_p5, List.forall_mem_cons.mpr ⟨lw_p6, List.forall_mem_cons.mpr ⟨lw_p7, List.forall_mem_cons.mpr ⟨lw_p8, List.forall_mem_cons.mpr ⟨lw_p9, List.forall_mem_cons.mpr ⟨lw_p10, List.forall_mem_cons.mpr ⟨lw_p11, List.forall_mem_cons.mpr ⟨lw_p12, List.forall_mem_cons.mpr ⟨lw_p13, List.forall_mem_cons.mpr ⟨lw_p14, List.forall_mem_cons.mpr ⟨lw_p15, fun _ h => absurd h List.not_mem_nil⟩⟩⟩⟩⟩⟩⟩⟩⟩⟩⟩⟩⟩⟩⟩⟩
theorem lw_p16 : lw_okq (⟨"ReachProver", "breaks", "(II)Z"⟩, 6) := ⟨⟨by decide +kernel, by decide +kernel⟩, List.mem_of_getElem? (i := 5) (by decide +kernel), List.mem_of_getElem? (i := 168) (by decide +kernel), List.mem_of_getElem? (i := 169) (by decide +kernel)⟩
theorem lw_p17 : lw_okq (⟨"ReachProver", "canLeaveClaim", "(I)Z"⟩, 6) := ⟨⟨by decide +kernel, by decide +kernel⟩, List.mem_of_getElem? (i := 5) (by decide +kernel), List.mem_of_getElem? (i := 172) (by decide +kernel), List.mem_of_getElem? (i := 173) (by decide +kernel)⟩
theorem lw_p18 : lw_okq (⟨"ReachProverModel", "isState", "(I)Z"⟩, 7) := ⟨⟨by decide +kernel, by decide +kernel⟩, List.mem_of_getElem? (i := 189) (by decide +kernel), List.mem_of_getElem? (i := 244) (by decide +kernel), List.mem_of_getElem? (i := 245) (by decide +kernel)⟩
theorem lw_p19 : lw_okq (⟨"ReachProverModel", "states", "()I"⟩, 7) := ⟨⟨by decide +kernel, by decide +kernel⟩, List.mem_of_getElem? (i := 189) (by decide +kernel), List.mem_of_getElem? (i := 248) (by decide +kernel), List.mem_of_getElem? (i := 249) (by decide +kernel)⟩
theorem lw_p20 : lw_okq (⟨"ReachProverModel", "leads", "(II)Z"⟩, 7) := ⟨⟨by decide +kernel, by decide +kernel⟩, List.mem_of_getElem? (i := 189) (by decide +kernel), List.mem_of_getElem? (i := 252) (by decide +kernel), List.mem_of_getElem? (i := 253) (by decide +kernel)⟩
theorem lw_p21 : lw_okq (⟨"ReachProverModel", "isSo", "(II)Z"⟩, 7) := ⟨⟨by decide +kernel, by decide +kernel⟩, List.mem_of_getElem? (i := 189) (by decide +kernel), List.mem_of_getElem? (i := 256) (by decide +kernel), List.mem_of_getElem? (i := 257) (by decide +kernel)⟩
theorem lw_p22 : lw_okq (⟨"ReachProverModel", "explore", "()V"⟩, 7) := ⟨⟨by decide +kernel, by decide +kernel⟩, List.mem_of_getElem? (i := 189) (by decide +kernel), List.mem_of_getElem? (i := 264) (by decide +kernel), List.mem_of_getElem? (i := 265) (by decide +kernel)⟩
theorem lw_p23 : lw_okq (⟨"ReachProverModel", "least", "(I)I"⟩, 7) := ⟨⟨by decide +kernel, by decide +kernel⟩, List.mem_of_getElem? (i := 189) (by decide +kernel), List.mem_of_getElem? (i := 289) (by decide +kernel), List.mem_of_getElem? (i := 290) (by decide +kernel)⟩
theorem lw_p24 : lw_okq (⟨"ReachProverModel", "escapes", "(I)Z"⟩, 7) := ⟨⟨by decide +kernel, by decide +kernel⟩, List.mem_of_getElem? (i := 189) (by decide +kernel), List.mem_of_getElem? (i := 293) (by decide +kernel), List.mem_of_getElem? (i := 294) (by decide +kernel)⟩
def lw_privs_2 : List (MethodName × Nat) := [(⟨"ReachProver", "breaks", "(II)Z"⟩, 6), (⟨"ReachProver", "canLeaveClaim", "(I)Z"⟩, 6), (⟨"ReachProverModel", "isState", "(I)Z"⟩, 7), (⟨"ReachProverModel", "states", "()I"⟩, 7), (⟨"ReachProverModel", "leads", "(II)Z"⟩, 7), (⟨"ReachProverModel", "isSo", "(II)Z"⟩, 7), (⟨"ReachProverModel", "explore", "()V"⟩, 7), (⟨"ReachProverModel", "least", "(I)I"⟩, 7), (⟨"ReachProverModel", "escapes", "(I)Z"⟩, 7)]
theorem lw_r2 : ∀ q ∈ lw_privs_2, lw_okq q := List.forall_mem_cons.mpr ⟨lw_p16, List.forall_mem_cons.mpr ⟨lw_p17, List.forall_mem_cons.mpr ⟨lw_p18, List.forall_mem_cons.mpr ⟨lw_p19, List.forall_mem_cons.mpr ⟨lw_p20, List.forall_mem_cons.mpr ⟨lw_p21, List.forall_mem_cons.mpr ⟨lw_p22, List.forall_mem_cons.mpr ⟨lw_p23, List.forall_mem_cons.mpr ⟨lw_p24, fun _ h => absurd h List.not_mem_nil⟩⟩⟩⟩⟩⟩⟩⟩⟩
def lw_privs : List (MethodName × Nat) := lw_privs_1 ++ (lw_privs_2)
def lw_tbl : List Cond := k2_sels lw_privs ++ tables_1
theorem lw_privs_ok : ∀ q ∈ lw_privs, lw_okq q := by
  show ∀ q ∈ lw_privs_1 ++ (lw_privs_2), lw_okq q
  exact List.forall_mem_append.mpr ⟨lw_r1, lw_r2⟩

def wt : List Cond := lw_tbl.filter goodWord
theorem wt_in {w : Cond} (h : w ∈ lw_tbl) (g : goodWord w = true) : w ∈ wt := List.mem_filter.mpr ⟨h, g⟩
theorem wt_t {w : Cond} (h : w ∈ tables_1) (g : goodWord w = true) : w ∈ wt := wt_in (List.mem_append_right _ h) g
theorem wt_s {w : Cond} (h : w ∈ k2_sels lw_privs) (g : goodWord w = true) : w ∈ wt := wt_in (List.mem_append_left _ h) g
theorem wt_gd {c : Cond} (h : c ∈ wt) : GoodIn wt (c :: wt) := fun w hw => by
  have h2 : w ∈ wt := by
    rcases List.mem_cons.mp hw with rfl | h3
    · exact h
    · exact h3
  exact ⟨h2, good_of_word (List.mem_filter.mp h2).2⟩
def RX0 : String := "ReachProver$ClauseList"
def TX0 : u_T := fun k => match k with
  | 0 => ("ReachProver$ClauseList", "pluses", "[I", true)
  | 1 => ("ReachProver$ClauseList", "minuses", "[I", true)
  | _ => ("ReachProver$ClauseList", "size", "I", false)
def tyX0 : Nat → FieldType := fun k => match k with
  | 0 => .array .int
  | 1 => .array .int
  | _ => .int
theorem nmX0 : ∀ a, a < 3 → ∀ b, b < 3 → a ≠ b → (TX0 a).2.1 ≠ (TX0 b).2.1 := by decide +kernel
theorem tyX0_ok : ∀ k, k < 3 → parseFieldDescriptor (TX0 k).2.2.1 = some (tyX0 k) := by decide +kernel
def RX1 : String := "ReachProver"
def TX1 : u_T := fun k => match k with
  | 0 => ("ReachProver", "lists", "[LReachProver$ClauseList;", true)
  | 1 => ("ReachProver", "depths", "[I", true)
  | 2 => ("ReachProver", "depthsKnown", "Z", false)
  | 3 => ("ReachProver", "switchCount", "I", false)
  | 4 => ("ReachProver", "pathLength", "I", false)
  | _ => ("ReachProver", "pathEnd", "I", false)
def tyX1 : Nat → FieldType := fun k => match k with
  | 0 => .array (.object "ReachProver$ClauseList")
  | 1 => .array .int
  | 2 => .boolean
  | 3 => .int
  | 4 => .int
  | _ => .int
theorem nmX1 : ∀ a, a < 6 → ∀ b, b < 6 → a ≠ b → (TX1 a).2.1 ≠ (TX1 b).2.1 := by decide +kernel
theorem tyX1_ok : ∀ k, k < 6 → parseFieldDescriptor (TX1 k).2.2.1 = some (tyX1 k) := by decide +kernel
def RX2 : String := "ReachProverModel"
def TX2 : u_T := fun k => match k with
  | 0 => ("ReachProverModel", "n", "I", false)
  | 1 => ("ReachProverModel", "counts", "[I", true)
  | 2 => ("ReachProverModel", "plus", "[I", true)
  | 3 => ("ReachProverModel", "minus", "[I", true)
  | 4 => ("ReachProverModel", "path", "[I", true)
  | 5 => ("ReachProverModel", "length", "I", false)
  | _ => ("ReachProverModel", "depths", "[I", true)
def tyX2 : Nat → FieldType := fun k => match k with
  | 0 => .int
  | 1 => .array .int
  | 2 => .array .int
  | 3 => .array .int
  | 4 => .array .int
  | 5 => .int
  | _ => .array .int
theorem nmX2 : ∀ a, a < 7 → ∀ b, b < 7 → a ≠ b → (TX2 a).2.1 ≠ (TX2 b).2.1 := by decide +kernel
theorem tyX2_ok : ∀ k, k < 7 → parseFieldDescriptor (TX2 k).2.2.1 = some (tyX2 k) := by decide +kernel
def RL : String := "ReachProverLaw"
abbrev cX1_init : ByteArray := prog_1_method_1_code
def yX1_init : MethodName := ⟨RX1, "<init>", "()V"⟩
abbrev cX1_begin : ByteArray := prog_1_method_2_code
def yX1_begin : MethodName := ⟨RX1, "begin", "(I)Z"⟩
abbrev cX1_clause : ByteArray := prog_1_method_3_code
def yX1_clause : MethodName := ⟨RX1, "clause", "(III)I"⟩
abbrev cX1_drop : ByteArray := prog_1_method_4_code
def yX1_drop : MethodName := ⟨RX1, "drop", "(I)I"⟩
abbrev cX1_switches : ByteArray := prog_1_method_5_code
def yX1_switches : MethodName := ⟨RX1, "switches", "()I"⟩
abbrev cX1_count : ByteArray := prog_1_method_6_code
def yX1_count : MethodName := ⟨RX1, "count", "(I)I"⟩
abbrev cX1_holds : ByteArray := prog_1_method_7_code
def yX1_holds : MethodName := ⟨RX1, "holds", "(III)Z"⟩
abbrev cX1_safe : ByteArray := prog_1_method_8_code
def yX1_safe : MethodName := ⟨RX1, "safe", "()Z"⟩
abbrev cX1_steps : ByteArray := prog_1_method_9_code
def yX1_steps : MethodName := ⟨RX1, "steps", "()I"⟩
abbrev cX1_depth : ByteArray := prog_1_method_10_code
def yX1_depth : MethodName := ⟨RX1, "depth", "(I)I"⟩
abbrev cX1_reached : ByteArray := prog_1_method_11_code
def yX1_reached : MethodName := ⟨RX1, "reached", "()I"⟩
abbrev cX1_worst : ByteArray := prog_1_method_12_code
def yX1_worst : MethodName := ⟨RX1, "worst", "()I"⟩
abbrev cX1_check : ByteArray := prog_1_method_13_code
def yX1_check : MethodName := ⟨RX1, "check", "()I"⟩
abbrev cX1_flaw : ByteArray := prog_1_method_14_code
def yX1_flaw : MethodName := ⟨RX1, "flaw", "()I"⟩
abbrev cX1_walk : ByteArray := prog_1_method_15_code
def yX1_walk : MethodName := ⟨RX1, "walk", "(I)I"⟩
abbrev cX1_arrives : ByteArray := prog_1_method_16_code
def yX1_arrives : MethodName := ⟨RX1, "arrives", "()Z"⟩
abbrev cX1_stateCount : ByteArray := prog_1_method_17_code
def yX1_stateCount : MethodName := ⟨RX1, "stateCount", "()I"⟩
abbrev cX1_isState : ByteArray := prog_1_method_18_code
def yX1_isState : MethodName := ⟨RX1, "isState", "(I)Z"⟩
abbrev cX1_isList : ByteArray := prog_1_method_19_code
def yX1_isList : MethodName := ⟨RX1, "isList", "(I)Z"⟩
abbrev cX1_isSetOf : ByteArray := prog_1_method_20_code
def yX1_isSetOf : MethodName := ⟨RX1, "isSetOf", "(II)Z"⟩
abbrev cX1_isIn : ByteArray := prog_1_method_21_code
def yX1_isIn : MethodName := ⟨RX1, "isIn", "(II)Z"⟩
abbrev cX1_canGo : ByteArray := prog_1_method_22_code
def yX1_canGo : MethodName := ⟨RX1, "canGo", "(II)Z"⟩
abbrev cX1_isReachedBad : ByteArray := prog_1_method_23_code
def yX1_isReachedBad : MethodName := ⟨RX1, "isReachedBad", "(I)Z"⟩
abbrev cX1_forgetWhatFollowed : ByteArray := prog_1_method_24_code
def yX1_forgetWhatFollowed : MethodName := ⟨RX1, "forgetWhatFollowed", "()V"⟩
abbrev cX1_findDepths : ByteArray := prog_1_method_25_code
def yX1_findDepths : MethodName := ⟨RX1, "findDepths", "()V"⟩
abbrev cX1_goOnFrom : ByteArray := prog_1_method_26_code
def yX1_goOnFrom : MethodName := ⟨RX1, "goOnFrom", "(I)V"⟩
abbrev cX1_goOnFromState : ByteArray := prog_1_method_27_code
def yX1_goOnFromState : MethodName := ⟨RX1, "goOnFromState", "(I)V"⟩
abbrev cX1_leastBreaking : ByteArray := prog_1_method_28_code
def yX1_leastBreaking : MethodName := ⟨RX1, "leastBreaking", "(I)I"⟩
abbrev cX1_breaks : ByteArray := prog_1_method_29_code
def yX1_breaks : MethodName := ⟨RX1, "breaks", "(II)Z"⟩
abbrev cX1_canLeaveClaim : ByteArray := prog_1_method_30_code
def yX1_canLeaveClaim : MethodName := ⟨RX1, "canLeaveClaim", "(I)Z"⟩
abbrev cX2_init : ByteArray := prog_4_method_1_code
def yX2_init : MethodName := ⟨RX2, "<init>", "()V"⟩
abbrev cX2_states : ByteArray := prog_4_method_3_code
def yX2_states : MethodName := ⟨RX2, "states", "()I"⟩
abbrev cX2_isState : ByteArray := prog_4_method_4_code
def yX2_isState : MethodName := ⟨RX2, "isState", "(I)Z"⟩
abbrev cX2_isList : ByteArray := prog_4_method_5_code
def yX2_isList : MethodName := ⟨RX2, "isList", "(I)Z"⟩
abbrev cX2_begin : ByteArray := prog_4_method_6_code
def yX2_begin : MethodName := ⟨RX2, "begin", "(I)Z"⟩
abbrev cX2_clause : ByteArray := prog_4_method_7_code
def yX2_clause : MethodName := ⟨RX2, "clause", "(III)I"⟩
abbrev cX2_drop : ByteArray := prog_4_method_8_code
def yX2_drop : MethodName := ⟨RX2, "drop", "(I)I"⟩
abbrev cX2_switches : ByteArray := prog_4_method_9_code
def yX2_switches : MethodName := ⟨RX2, "switches", "()I"⟩
abbrev cX2_count : ByteArray := prog_4_method_10_code
def yX2_count : MethodName := ⟨RX2, "count", "(I)I"⟩
abbrev cX2_isSo : ByteArray := prog_4_method_11_code
def yX2_isSo : MethodName := ⟨RX2, "isSo", "(II)Z"⟩
abbrev cX2_leads : ByteArray := prog_4_method_12_code
def yX2_leads : MethodName := ⟨RX2, "leads", "(II)Z"⟩
abbrev cX2_holds : ByteArray := prog_4_method_13_code
def yX2_holds : MethodName := ⟨RX2, "holds", "(III)Z"⟩
abbrev cX2_explore : ByteArray := prog_4_method_14_code
def yX2_explore : MethodName := ⟨RX2, "explore", "()V"⟩
abbrev cX2_steps : ByteArray := prog_4_method_15_code
def yX2_steps : MethodName := ⟨RX2, "steps", "()I"⟩
abbrev cX2_safe : ByteArray := prog_4_method_16_code
def yX2_safe : MethodName := ⟨RX2, "safe", "()Z"⟩
abbrev cX2_depth : ByteArray := prog_4_method_17_code
def yX2_depth : MethodName := ⟨RX2, "depth", "(I)I"⟩
abbrev cX2_reached : ByteArray := prog_4_method_18_code
def yX2_reached : MethodName := ⟨RX2, "reached", "()I"⟩
abbrev cX2_worst : ByteArray := prog_4_method_19_code
def yX2_worst : MethodName := ⟨RX2, "worst", "()I"⟩
abbrev cX2_escapes : ByteArray := prog_4_method_20_code
def yX2_escapes : MethodName := ⟨RX2, "escapes", "(I)Z"⟩
abbrev cX2_least : ByteArray := prog_4_method_21_code
def yX2_least : MethodName := ⟨RX2, "least", "(I)I"⟩
abbrev cX2_check : ByteArray := prog_4_method_22_code
def yX2_check : MethodName := ⟨RX2, "check", "()I"⟩
abbrev cX2_flaw : ByteArray := prog_4_method_23_code
def yX2_flaw : MethodName := ⟨RX2, "flaw", "()I"⟩
abbrev cX2_walk : ByteArray := prog_4_method_24_code
def yX2_walk : MethodName := ⟨RX2, "walk", "(I)I"⟩
abbrev cX2_arrives : ByteArray := prog_4_method_25_code
def yX2_arrives : MethodName := ⟨RX2, "arrives", "()Z"⟩
abbrev cX0_init : ByteArray := prog_2_method_1_code
def yX0_init : MethodName := ⟨RX0, "<init>", "()V"⟩
abbrev cX0_isFull : ByteArray := prog_2_method_2_code
def yX0_isFull : MethodName := ⟨RX0, "isFull", "()Z"⟩
abbrev cX0_add : ByteArray := prog_2_method_3_code
def yX0_add : MethodName := ⟨RX0, "add", "(II)V"⟩
abbrev cX0_removeLast : ByteArray := prog_2_method_4_code
def yX0_removeLast : MethodName := ⟨RX0, "removeLast", "()V"⟩
abbrev cX0_removeAll : ByteArray := prog_2_method_5_code
def yX0_removeAll : MethodName := ⟨RX0, "removeAll", "()V"⟩
abbrev cX0_allHold : ByteArray := prog_2_method_6_code
def yX0_allHold : MethodName := ⟨RX0, "allHold", "(I)Z"⟩
theorem inX0 : ∀ w ∈ u_ws RX0 TX0 3, w ∈ wt := by
  have h : (u_ws RX0 TX0 3).all (fun w => decide (w ∈ tables_1) && goodWord w) = true := by decide +kernel
  intro w hw
  have h1 := List.all_eq_true.mp h w hw
  simp only [Bool.and_eq_true, decide_eq_true_eq] at h1
  exact wt_t h1.1 h1.2
theorem inX1 : ∀ w ∈ u_ws RX1 TX1 6, w ∈ wt := by
  have h : (u_ws RX1 TX1 6).all (fun w => decide (w ∈ tables_1) && goodWord w) = true := by decide +kernel
  intro w hw
  have h1 := List.all_eq_true.mp h w hw
  simp only [Bool.and_eq_true, decide_eq_true_eq] at h1
  exact wt_t h1.1 h1.2
theorem inX2 : ∀ w ∈ u_ws RX2 TX2 7, w ∈ wt := by
  have h : (u_ws RX2 TX2 7).all (fun w => decide (w ∈ tables_1) && goodWord w) = true := by decide +kernel
  intro w hw
  have h1 := List.all_eq_true.mp h w hw
  simp only [Bool.and_eq_true, decide_eq_true_eq] at h1
  exact wt_t h1.1 h1.2
theorem k_0 : Cond.initialized RL ∈ wt := wt_t (List.mem_of_getElem? (i := 0) (by decide +kernel)) rfl
theorem k_1 : Cond.initialized RX1 ∈ wt := wt_t (List.mem_of_getElem? (i := 1) (by decide +kernel)) rfl
theorem k_2 : Cond.initialized RX0 ∈ wt := wt_t (List.mem_of_getElem? (i := 2) (by decide +kernel)) rfl
theorem k_3 : Cond.initialized RX2 ∈ wt := wt_t (List.mem_of_getElem? (i := 3) (by decide +kernel)) rfl
theorem k_4 : Cond.classLink RL 7 RX1 ∈ wt := wt_t (List.mem_of_getElem? (i := 4) (by decide +kernel)) rfl
theorem k_5 : Cond.instantiable RX1 6 ∈ wt := wt_t (List.mem_of_getElem? (i := 5) (by decide +kernel)) rfl
theorem k_6 : Cond.methodLink RL 9 yX1_init ∈ wt := wt_t (List.mem_of_getElem? (i := 6) (by decide +kernel)) rfl
theorem k_7 : Cond.instanceMethod yX1_init ∈ wt := wt_t (List.mem_of_getElem? (i := 7) (by decide +kernel)) rfl
theorem k_8 : Cond.code yX1_init cX1_init 2 none ∈ wt := wt_t (List.mem_of_getElem? (i := 8) (by decide +kernel)) rfl
theorem k_9 : Cond.methodLink RX1 3 objectInit ∈ wt := wt_t (List.mem_of_getElem? (i := 9) (by decide +kernel)) rfl
theorem k_10 : Cond.instanceMethod objectInit ∈ wt := wt_t (List.mem_of_getElem? (i := 10) (by decide +kernel)) rfl
theorem k_11 : Cond.code objectInit ⟨#[0xb1]⟩ 1 none ∈ wt := wt_t (List.mem_of_getElem? (i := 11) (by decide +kernel)) rfl
theorem k_12 : Cond.classLink RX1 9 RX0 ∈ wt := wt_t (List.mem_of_getElem? (i := 12) (by decide +kernel)) rfl
theorem k_14 : Cond.instantiable RX0 3 ∈ wt := wt_t (List.mem_of_getElem? (i := 14) (by decide +kernel)) rfl
theorem k_16 : Cond.instanceMethod yX0_init ∈ wt := wt_t (List.mem_of_getElem? (i := 16) (by decide +kernel)) rfl
theorem k_17 : Cond.code yX0_init cX0_init 1 none ∈ wt := wt_t (List.mem_of_getElem? (i := 17) (by decide +kernel)) rfl
theorem k_18 : Cond.methodLink RX0 1 objectInit ∈ wt := wt_t (List.mem_of_getElem? (i := 18) (by decide +kernel)) rfl
theorem k_19 : Cond.fieldLink RX0 9 "ReachProver$ClauseList" "pluses" "[I" ∈ wt := wt_t (List.mem_of_getElem? (i := 19) (by decide +kernel)) rfl
theorem k_20 : Cond.fieldLink RX0 13 "ReachProver$ClauseList" "minuses" "[I" ∈ wt := wt_t (List.mem_of_getElem? (i := 20) (by decide +kernel)) rfl
theorem k_21 : Cond.fieldLink RX0 16 "ReachProver$ClauseList" "size" "I" ∈ wt := wt_t (List.mem_of_getElem? (i := 21) (by decide +kernel)) rfl
theorem k_30 : Cond.arrayClass .int ∈ wt := wt_t (List.mem_of_getElem? (i := 30) (by decide +kernel)) rfl
theorem k_31 : Cond.fieldLink RX1 11 "ReachProver" "lists" "[LReachProver$ClauseList;" ∈ wt := wt_t (List.mem_of_getElem? (i := 31) (by decide +kernel)) rfl
theorem k_32 : Cond.fieldLink RX1 16 "ReachProver" "depths" "[I" ∈ wt := wt_t (List.mem_of_getElem? (i := 32) (by decide +kernel)) rfl
theorem k_33 : Cond.fieldLink RX1 20 "ReachProver" "depthsKnown" "Z" ∈ wt := wt_t (List.mem_of_getElem? (i := 33) (by decide +kernel)) rfl
theorem k_34 : Cond.fieldLink RX1 24 "ReachProver" "switchCount" "I" ∈ wt := wt_t (List.mem_of_getElem? (i := 34) (by decide +kernel)) rfl
theorem k_35 : Cond.fieldLink RX1 28 "ReachProver" "pathLength" "I" ∈ wt := wt_t (List.mem_of_getElem? (i := 35) (by decide +kernel)) rfl
theorem k_36 : Cond.fieldLink RX1 31 "ReachProver" "pathEnd" "I" ∈ wt := wt_t (List.mem_of_getElem? (i := 36) (by decide +kernel)) rfl
theorem k_50 : Cond.methodLink RL 13 yX1_begin ∈ wt := wt_t (List.mem_of_getElem? (i := 50) (by decide +kernel)) rfl
theorem k_51 : Cond.instanceMethod yX1_begin ∈ wt := wt_t (List.mem_of_getElem? (i := 51) (by decide +kernel)) rfl
theorem k_52 : Cond.selects RX1 yX1_begin yX1_begin ∈ wt := wt_t (List.mem_of_getElem? (i := 52) (by decide +kernel)) rfl
theorem k_53 : Cond.code yX1_begin cX1_begin 3 (some .boolean) ∈ wt := wt_t (List.mem_of_getElem? (i := 53) (by decide +kernel)) rfl
theorem k_56 : Cond.instanceMethod yX0_removeAll ∈ wt := wt_t (List.mem_of_getElem? (i := 56) (by decide +kernel)) rfl
theorem k_57 : Cond.code yX0_removeAll cX0_removeAll 1 none ∈ wt := wt_t (List.mem_of_getElem? (i := 57) (by decide +kernel)) rfl
theorem k_58 : Cond.methodLink RX1 37 yX1_forgetWhatFollowed ∈ wt := wt_t (List.mem_of_getElem? (i := 58) (by decide +kernel)) rfl
theorem k_60 : Cond.instanceMethod yX1_forgetWhatFollowed ∈ wt := wt_t (List.mem_of_getElem? (i := 60) (by decide +kernel)) rfl
theorem k_61 : Cond.code yX1_forgetWhatFollowed cX1_forgetWhatFollowed 1 none ∈ wt := wt_t (List.mem_of_getElem? (i := 61) (by decide +kernel)) rfl
theorem k_62 : Cond.methodLink RL 18 yX1_clause ∈ wt := wt_t (List.mem_of_getElem? (i := 62) (by decide +kernel)) rfl
theorem k_63 : Cond.instanceMethod yX1_clause ∈ wt := wt_t (List.mem_of_getElem? (i := 63) (by decide +kernel)) rfl
theorem k_64 : Cond.selects RX1 yX1_clause yX1_clause ∈ wt := wt_t (List.mem_of_getElem? (i := 64) (by decide +kernel)) rfl
theorem k_65 : Cond.code yX1_clause cX1_clause 4 (some .int) ∈ wt := wt_t (List.mem_of_getElem? (i := 65) (by decide +kernel)) rfl
theorem k_66 : Cond.methodLink RX1 40 yX1_isList ∈ wt := wt_t (List.mem_of_getElem? (i := 66) (by decide +kernel)) rfl
theorem k_67 : Cond.static yX1_isList ∈ wt := wt_t (List.mem_of_getElem? (i := 67) (by decide +kernel)) rfl
theorem k_68 : Cond.code yX1_isList cX1_isList 1 (some .boolean) ∈ wt := wt_t (List.mem_of_getElem? (i := 68) (by decide +kernel)) rfl
theorem k_69 : Cond.methodLink RX1 44 yX1_isSetOf ∈ wt := wt_t (List.mem_of_getElem? (i := 69) (by decide +kernel)) rfl
theorem k_71 : Cond.instanceMethod yX1_isSetOf ∈ wt := wt_t (List.mem_of_getElem? (i := 71) (by decide +kernel)) rfl
theorem k_72 : Cond.code yX1_isSetOf cX1_isSetOf 4 (some .boolean) ∈ wt := wt_t (List.mem_of_getElem? (i := 72) (by decide +kernel)) rfl
theorem k_75 : Cond.instanceMethod yX0_isFull ∈ wt := wt_t (List.mem_of_getElem? (i := 75) (by decide +kernel)) rfl
theorem k_76 : Cond.code yX0_isFull cX0_isFull 1 (some .boolean) ∈ wt := wt_t (List.mem_of_getElem? (i := 76) (by decide +kernel)) rfl
theorem k_79 : Cond.instanceMethod yX0_add ∈ wt := wt_t (List.mem_of_getElem? (i := 79) (by decide +kernel)) rfl
theorem k_80 : Cond.code yX0_add cX0_add 3 none ∈ wt := wt_t (List.mem_of_getElem? (i := 80) (by decide +kernel)) rfl
theorem k_81 : Cond.methodLink RX0 20 yX0_isFull ∈ wt := wt_t (List.mem_of_getElem? (i := 81) (by decide +kernel)) rfl
theorem k_82 : Cond.methodLink RL 23 yX1_drop ∈ wt := wt_t (List.mem_of_getElem? (i := 82) (by decide +kernel)) rfl
theorem k_83 : Cond.instanceMethod yX1_drop ∈ wt := wt_t (List.mem_of_getElem? (i := 83) (by decide +kernel)) rfl
theorem k_84 : Cond.selects RX1 yX1_drop yX1_drop ∈ wt := wt_t (List.mem_of_getElem? (i := 84) (by decide +kernel)) rfl
theorem k_85 : Cond.code yX1_drop cX1_drop 2 (some .int) ∈ wt := wt_t (List.mem_of_getElem? (i := 85) (by decide +kernel)) rfl
theorem k_88 : Cond.instanceMethod yX0_removeLast ∈ wt := wt_t (List.mem_of_getElem? (i := 88) (by decide +kernel)) rfl
theorem k_89 : Cond.code yX0_removeLast cX0_removeLast 1 none ∈ wt := wt_t (List.mem_of_getElem? (i := 89) (by decide +kernel)) rfl
theorem k_90 : Cond.methodLink RL 28 yX1_switches ∈ wt := wt_t (List.mem_of_getElem? (i := 90) (by decide +kernel)) rfl
theorem k_91 : Cond.instanceMethod yX1_switches ∈ wt := wt_t (List.mem_of_getElem? (i := 91) (by decide +kernel)) rfl
theorem k_92 : Cond.selects RX1 yX1_switches yX1_switches ∈ wt := wt_t (List.mem_of_getElem? (i := 92) (by decide +kernel)) rfl
theorem k_93 : Cond.code yX1_switches cX1_switches 1 (some .int) ∈ wt := wt_t (List.mem_of_getElem? (i := 93) (by decide +kernel)) rfl
theorem k_94 : Cond.methodLink RL 33 yX1_count ∈ wt := wt_t (List.mem_of_getElem? (i := 94) (by decide +kernel)) rfl
theorem k_95 : Cond.instanceMethod yX1_count ∈ wt := wt_t (List.mem_of_getElem? (i := 95) (by decide +kernel)) rfl
theorem k_96 : Cond.selects RX1 yX1_count yX1_count ∈ wt := wt_t (List.mem_of_getElem? (i := 96) (by decide +kernel)) rfl
theorem k_97 : Cond.code yX1_count cX1_count 2 (some .int) ∈ wt := wt_t (List.mem_of_getElem? (i := 97) (by decide +kernel)) rfl
theorem k_98 : Cond.methodLink RL 37 yX1_holds ∈ wt := wt_t (List.mem_of_getElem? (i := 98) (by decide +kernel)) rfl
theorem k_99 : Cond.instanceMethod yX1_holds ∈ wt := wt_t (List.mem_of_getElem? (i := 99) (by decide +kernel)) rfl
theorem k_100 : Cond.selects RX1 yX1_holds yX1_holds ∈ wt := wt_t (List.mem_of_getElem? (i := 100) (by decide +kernel)) rfl
theorem k_101 : Cond.code yX1_holds cX1_holds 4 (some .boolean) ∈ wt := wt_t (List.mem_of_getElem? (i := 101) (by decide +kernel)) rfl
theorem k_102 : Cond.methodLink RX1 62 yX1_isState ∈ wt := wt_t (List.mem_of_getElem? (i := 102) (by decide +kernel)) rfl
theorem k_104 : Cond.instanceMethod yX1_isState ∈ wt := wt_t (List.mem_of_getElem? (i := 104) (by decide +kernel)) rfl
theorem k_105 : Cond.code yX1_isState cX1_isState 2 (some .boolean) ∈ wt := wt_t (List.mem_of_getElem? (i := 105) (by decide +kernel)) rfl
theorem k_106 : Cond.methodLink RX1 78 yX1_stateCount ∈ wt := wt_t (List.mem_of_getElem? (i := 106) (by decide +kernel)) rfl
theorem k_108 : Cond.instanceMethod yX1_stateCount ∈ wt := wt_t (List.mem_of_getElem? (i := 108) (by decide +kernel)) rfl
theorem k_109 : Cond.code yX1_stateCount cX1_stateCount 1 (some .int) ∈ wt := wt_t (List.mem_of_getElem? (i := 109) (by decide +kernel)) rfl
theorem k_110 : Cond.methodLink RX1 65 yX1_canGo ∈ wt := wt_t (List.mem_of_getElem? (i := 110) (by decide +kernel)) rfl
theorem k_112 : Cond.instanceMethod yX1_canGo ∈ wt := wt_t (List.mem_of_getElem? (i := 112) (by decide +kernel)) rfl
theorem k_113 : Cond.code yX1_canGo cX1_canGo 3 (some .boolean) ∈ wt := wt_t (List.mem_of_getElem? (i := 113) (by decide +kernel)) rfl
theorem k_116 : Cond.instanceMethod yX0_allHold ∈ wt := wt_t (List.mem_of_getElem? (i := 116) (by decide +kernel)) rfl
theorem k_117 : Cond.code yX0_allHold cX0_allHold 3 (some .boolean) ∈ wt := wt_t (List.mem_of_getElem? (i := 117) (by decide +kernel)) rfl
theorem k_118 : Cond.methodLink RX1 68 yX1_isIn ∈ wt := wt_t (List.mem_of_getElem? (i := 118) (by decide +kernel)) rfl
theorem k_120 : Cond.instanceMethod yX1_isIn ∈ wt := wt_t (List.mem_of_getElem? (i := 120) (by decide +kernel)) rfl
theorem k_121 : Cond.code yX1_isIn cX1_isIn 3 (some .boolean) ∈ wt := wt_t (List.mem_of_getElem? (i := 121) (by decide +kernel)) rfl
theorem k_122 : Cond.methodLink RL 42 yX1_safe ∈ wt := wt_t (List.mem_of_getElem? (i := 122) (by decide +kernel)) rfl
theorem k_123 : Cond.instanceMethod yX1_safe ∈ wt := wt_t (List.mem_of_getElem? (i := 123) (by decide +kernel)) rfl
theorem k_124 : Cond.selects RX1 yX1_safe yX1_safe ∈ wt := wt_t (List.mem_of_getElem? (i := 124) (by decide +kernel)) rfl
theorem k_125 : Cond.code yX1_safe cX1_safe 1 (some .boolean) ∈ wt := wt_t (List.mem_of_getElem? (i := 125) (by decide +kernel)) rfl
theorem k_126 : Cond.methodLink RX1 71 yX1_worst ∈ wt := wt_t (List.mem_of_getElem? (i := 126) (by decide +kernel)) rfl
theorem k_127 : Cond.instanceMethod yX1_worst ∈ wt := wt_t (List.mem_of_getElem? (i := 127) (by decide +kernel)) rfl
theorem k_128 : Cond.selects RX1 yX1_worst yX1_worst ∈ wt := wt_t (List.mem_of_getElem? (i := 128) (by decide +kernel)) rfl
theorem k_129 : Cond.code yX1_worst cX1_worst 2 (some .int) ∈ wt := wt_t (List.mem_of_getElem? (i := 129) (by decide +kernel)) rfl
theorem k_130 : Cond.methodLink RX1 75 yX1_findDepths ∈ wt := wt_t (List.mem_of_getElem? (i := 130) (by decide +kernel)) rfl
theorem k_132 : Cond.instanceMethod yX1_findDepths ∈ wt := wt_t (List.mem_of_getElem? (i := 132) (by decide +kernel)) rfl
theorem k_133 : Cond.code yX1_findDepths cX1_findDepths 2 none ∈ wt := wt_t (List.mem_of_getElem? (i := 133) (by decide +kernel)) rfl
theorem k_134 : Cond.methodLink RX1 94 yX1_goOnFrom ∈ wt := wt_t (List.mem_of_getElem? (i := 134) (by decide +kernel)) rfl
theorem k_136 : Cond.instanceMethod yX1_goOnFrom ∈ wt := wt_t (List.mem_of_getElem? (i := 136) (by decide +kernel)) rfl
theorem k_137 : Cond.code yX1_goOnFrom cX1_goOnFrom 3 none ∈ wt := wt_t (List.mem_of_getElem? (i := 137) (by decide +kernel)) rfl
theorem k_138 : Cond.methodLink RX1 98 yX1_goOnFromState ∈ wt := wt_t (List.mem_of_getElem? (i := 138) (by decide +kernel)) rfl
theorem k_140 : Cond.instanceMethod yX1_goOnFromState ∈ wt := wt_t (List.mem_of_getElem? (i := 140) (by decide +kernel)) rfl
theorem k_141 : Cond.code yX1_goOnFromState cX1_goOnFromState 3 none ∈ wt := wt_t (List.mem_of_getElem? (i := 141) (by decide +kernel)) rfl
theorem k_142 : Cond.methodLink RX1 81 yX1_isReachedBad ∈ wt := wt_t (List.mem_of_getElem? (i := 142) (by decide +kernel)) rfl
theorem k_144 : Cond.instanceMethod yX1_isReachedBad ∈ wt := wt_t (List.mem_of_getElem? (i := 144) (by decide +kernel)) rfl
theorem k_145 : Cond.code yX1_isReachedBad cX1_isReachedBad 2 (some .boolean) ∈ wt := wt_t (List.mem_of_getElem? (i := 145) (by decide +kernel)) rfl
theorem k_146 : Cond.methodLink RL 47 yX1_steps ∈ wt := wt_t (List.mem_of_getElem? (i := 146) (by decide +kernel)) rfl
theorem k_147 : Cond.instanceMethod yX1_steps ∈ wt := wt_t (List.mem_of_getElem? (i := 147) (by decide +kernel)) rfl
theorem k_148 : Cond.selects RX1 yX1_steps yX1_steps ∈ wt := wt_t (List.mem_of_getElem? (i := 148) (by decide +kernel)) rfl
theorem k_149 : Cond.code yX1_steps cX1_steps 3 (some .int) ∈ wt := wt_t (List.mem_of_getElem? (i := 149) (by decide +kernel)) rfl
theorem k_150 : Cond.methodLink RL 51 yX1_depth ∈ wt := wt_t (List.mem_of_getElem? (i := 150) (by decide +kernel)) rfl
theorem k_151 : Cond.instanceMethod yX1_depth ∈ wt := wt_t (List.mem_of_getElem? (i := 151) (by decide +kernel)) rfl
theorem k_152 : Cond.selects RX1 yX1_depth yX1_depth ∈ wt := wt_t (List.mem_of_getElem? (i := 152) (by decide +kernel)) rfl
theorem k_153 : Cond.code yX1_depth cX1_depth 2 (some .int) ∈ wt := wt_t (List.mem_of_getElem? (i := 153) (by decide +kernel)) rfl
theorem k_154 : Cond.methodLink RL 55 yX1_reached ∈ wt := wt_t (List.mem_of_getElem? (i := 154) (by decide +kernel)) rfl
theorem k_155 : Cond.instanceMethod yX1_reached ∈ wt := wt_t (List.mem_of_getElem? (i := 155) (by decide +kernel)) rfl
theorem k_156 : Cond.selects RX1 yX1_reached yX1_reached ∈ wt := wt_t (List.mem_of_getElem? (i := 156) (by decide +kernel)) rfl
theorem k_157 : Cond.code yX1_reached cX1_reached 3 (some .int) ∈ wt := wt_t (List.mem_of_getElem? (i := 157) (by decide +kernel)) rfl
theorem k_158 : Cond.methodLink RL 59 yX1_worst ∈ wt := wt_t (List.mem_of_getElem? (i := 158) (by decide +kernel)) rfl
theorem k_159 : Cond.methodLink RL 63 yX1_check ∈ wt := wt_t (List.mem_of_getElem? (i := 159) (by decide +kernel)) rfl
theorem k_160 : Cond.instanceMethod yX1_check ∈ wt := wt_t (List.mem_of_getElem? (i := 160) (by decide +kernel)) rfl
theorem k_161 : Cond.selects RX1 yX1_check yX1_check ∈ wt := wt_t (List.mem_of_getElem? (i := 161) (by decide +kernel)) rfl
theorem k_162 : Cond.code yX1_check cX1_check 2 (some .int) ∈ wt := wt_t (List.mem_of_getElem? (i := 162) (by decide +kernel)) rfl
theorem k_163 : Cond.methodLink RX1 84 yX1_leastBreaking ∈ wt := wt_t (List.mem_of_getElem? (i := 163) (by decide +kernel)) rfl
theorem k_165 : Cond.instanceMethod yX1_leastBreaking ∈ wt := wt_t (List.mem_of_getElem? (i := 165) (by decide +kernel)) rfl
theorem k_166 : Cond.code yX1_leastBreaking cX1_leastBreaking 3 (some .int) ∈ wt := wt_t (List.mem_of_getElem? (i := 166) (by decide +kernel)) rfl
theorem k_167 : Cond.methodLink RX1 101 yX1_breaks ∈ wt := wt_t (List.mem_of_getElem? (i := 167) (by decide +kernel)) rfl
theorem k_169 : Cond.instanceMethod yX1_breaks ∈ wt := wt_t (List.mem_of_getElem? (i := 169) (by decide +kernel)) rfl
theorem k_170 : Cond.code yX1_breaks cX1_breaks 3 (some .boolean) ∈ wt := wt_t (List.mem_of_getElem? (i := 170) (by decide +kernel)) rfl
theorem k_171 : Cond.methodLink RX1 104 yX1_canLeaveClaim ∈ wt := wt_t (List.mem_of_getElem? (i := 171) (by decide +kernel)) rfl
theorem k_173 : Cond.instanceMethod yX1_canLeaveClaim ∈ wt := wt_t (List.mem_of_getElem? (i := 173) (by decide +kernel)) rfl
theorem k_174 : Cond.code yX1_canLeaveClaim cX1_canLeaveClaim 3 (some .boolean) ∈ wt := wt_t (List.mem_of_getElem? (i := 174) (by decide +kernel)) rfl
theorem k_175 : Cond.methodLink RL 67 yX1_flaw ∈ wt := wt_t (List.mem_of_getElem? (i := 175) (by decide +kernel)) rfl
theorem k_176 : Cond.instanceMethod yX1_flaw ∈ wt := wt_t (List.mem_of_getElem? (i := 176) (by decide +kernel)) rfl
theorem k_177 : Cond.selects RX1 yX1_flaw yX1_flaw ∈ wt := wt_t (List.mem_of_getElem? (i := 177) (by decide +kernel)) rfl
theorem k_178 : Cond.code yX1_flaw cX1_flaw 2 (some .int) ∈ wt := wt_t (List.mem_of_getElem? (i := 178) (by decide +kernel)) rfl
theorem k_179 : Cond.methodLink RX1 88 yX1_check ∈ wt := wt_t (List.mem_of_getElem? (i := 179) (by decide +kernel)) rfl
theorem k_180 : Cond.methodLink RL 71 yX1_walk ∈ wt := wt_t (List.mem_of_getElem? (i := 180) (by decide +kernel)) rfl
theorem k_181 : Cond.instanceMethod yX1_walk ∈ wt := wt_t (List.mem_of_getElem? (i := 181) (by decide +kernel)) rfl
theorem k_182 : Cond.selects RX1 yX1_walk yX1_walk ∈ wt := wt_t (List.mem_of_getElem? (i := 182) (by decide +kernel)) rfl
theorem k_183 : Cond.code yX1_walk cX1_walk 3 (some .int) ∈ wt := wt_t (List.mem_of_getElem? (i := 183) (by decide +kernel)) rfl
theorem k_184 : Cond.methodLink RL 75 yX1_arrives ∈ wt := wt_t (List.mem_of_getElem? (i := 184) (by decide +kernel)) rfl
theorem k_185 : Cond.instanceMethod yX1_arrives ∈ wt := wt_t (List.mem_of_getElem? (i := 185) (by decide +kernel)) rfl
theorem k_186 : Cond.selects RX1 yX1_arrives yX1_arrives ∈ wt := wt_t (List.mem_of_getElem? (i := 186) (by decide +kernel)) rfl
theorem k_187 : Cond.code yX1_arrives cX1_arrives 1 (some .boolean) ∈ wt := wt_t (List.mem_of_getElem? (i := 187) (by decide +kernel)) rfl
theorem k_188 : Cond.classLink RL 10 RX2 ∈ wt := wt_t (List.mem_of_getElem? (i := 188) (by decide +kernel)) rfl
theorem k_189 : Cond.instantiable RX2 7 ∈ wt := wt_t (List.mem_of_getElem? (i := 189) (by decide +kernel)) rfl
theorem k_190 : Cond.methodLink RL 12 yX2_init ∈ wt := wt_t (List.mem_of_getElem? (i := 190) (by decide +kernel)) rfl
theorem k_191 : Cond.instanceMethod yX2_init ∈ wt := wt_t (List.mem_of_getElem? (i := 191) (by decide +kernel)) rfl
theorem k_192 : Cond.code yX2_init cX2_init 1 none ∈ wt := wt_t (List.mem_of_getElem? (i := 192) (by decide +kernel)) rfl
theorem k_193 : Cond.methodLink RX2 1 objectInit ∈ wt := wt_t (List.mem_of_getElem? (i := 193) (by decide +kernel)) rfl
theorem k_194 : Cond.fieldLink RX2 7 "ReachProverModel" "n" "I" ∈ wt := wt_t (List.mem_of_getElem? (i := 194) (by decide +kernel)) rfl
theorem k_195 : Cond.fieldLink RX2 13 "ReachProverModel" "counts" "[I" ∈ wt := wt_t (List.mem_of_getElem? (i := 195) (by decide +kernel)) rfl
theorem k_196 : Cond.fieldLink RX2 17 "ReachProverModel" "plus" "[I" ∈ wt := wt_t (List.mem_of_getElem? (i := 196) (by decide +kernel)) rfl
theorem k_197 : Cond.fieldLink RX2 20 "ReachProverModel" "minus" "[I" ∈ wt := wt_t (List.mem_of_getElem? (i := 197) (by decide +kernel)) rfl
theorem k_198 : Cond.fieldLink RX2 23 "ReachProverModel" "path" "[I" ∈ wt := wt_t (List.mem_of_getElem? (i := 198) (by decide +kernel)) rfl
theorem k_199 : Cond.fieldLink RX2 33 "ReachProverModel" "length" "I" ∈ wt := wt_t (List.mem_of_getElem? (i := 199) (by decide +kernel)) rfl
theorem k_200 : Cond.fieldLink RX2 26 "ReachProverModel" "depths" "[I" ∈ wt := wt_t (List.mem_of_getElem? (i := 200) (by decide +kernel)) rfl
theorem k_216 : Cond.methodLink RL 17 yX2_begin ∈ wt := wt_t (List.mem_of_getElem? (i := 216) (by decide +kernel)) rfl
theorem k_217 : Cond.instanceMethod yX2_begin ∈ wt := wt_t (List.mem_of_getElem? (i := 217) (by decide +kernel)) rfl
theorem k_218 : Cond.selects RX2 yX2_begin yX2_begin ∈ wt := wt_t (List.mem_of_getElem? (i := 218) (by decide +kernel)) rfl
theorem k_219 : Cond.code yX2_begin cX2_begin 3 (some .boolean) ∈ wt := wt_t (List.mem_of_getElem? (i := 219) (by decide +kernel)) rfl
theorem k_220 : Cond.methodLink RL 22 yX2_clause ∈ wt := wt_t (List.mem_of_getElem? (i := 220) (by decide +kernel)) rfl
theorem k_221 : Cond.instanceMethod yX2_clause ∈ wt := wt_t (List.mem_of_getElem? (i := 221) (by decide +kernel)) rfl
theorem k_222 : Cond.selects RX2 yX2_clause yX2_clause ∈ wt := wt_t (List.mem_of_getElem? (i := 222) (by decide +kernel)) rfl
theorem k_223 : Cond.code yX2_clause cX2_clause 6 (some .int) ∈ wt := wt_t (List.mem_of_getElem? (i := 223) (by decide +kernel)) rfl
theorem k_224 : Cond.methodLink RX2 36 yX2_isList ∈ wt := wt_t (List.mem_of_getElem? (i := 224) (by decide +kernel)) rfl
theorem k_225 : Cond.static yX2_isList ∈ wt := wt_t (List.mem_of_getElem? (i := 225) (by decide +kernel)) rfl
theorem k_226 : Cond.code yX2_isList cX2_isList 1 (some .boolean) ∈ wt := wt_t (List.mem_of_getElem? (i := 226) (by decide +kernel)) rfl
theorem k_227 : Cond.methodLink RL 27 yX2_drop ∈ wt := wt_t (List.mem_of_getElem? (i := 227) (by decide +kernel)) rfl
theorem k_228 : Cond.instanceMethod yX2_drop ∈ wt := wt_t (List.mem_of_getElem? (i := 228) (by decide +kernel)) rfl
theorem k_229 : Cond.selects RX2 yX2_drop yX2_drop ∈ wt := wt_t (List.mem_of_getElem? (i := 229) (by decide +kernel)) rfl
theorem k_230 : Cond.code yX2_drop cX2_drop 2 (some .int) ∈ wt := wt_t (List.mem_of_getElem? (i := 230) (by decide +kernel)) rfl
theorem k_231 : Cond.methodLink RL 32 yX2_switches ∈ wt := wt_t (List.mem_of_getElem? (i := 231) (by decide +kernel)) rfl
theorem k_232 : Cond.instanceMethod yX2_switches ∈ wt := wt_t (List.mem_of_getElem? (i := 232) (by decide +kernel)) rfl
theorem k_233 : Cond.selects RX2 yX2_switches yX2_switches ∈ wt := wt_t (List.mem_of_getElem? (i := 233) (by decide +kernel)) rfl
theorem k_234 : Cond.code yX2_switches cX2_switches 1 (some .int) ∈ wt := wt_t (List.mem_of_getElem? (i := 234) (by decide +kernel)) rfl
theorem k_235 : Cond.methodLink RL 36 yX2_count ∈ wt := wt_t (List.mem_of_getElem? (i := 235) (by decide +kernel)) rfl
theorem k_236 : Cond.instanceMethod yX2_count ∈ wt := wt_t (List.mem_of_getElem? (i := 236) (by decide +kernel)) rfl
theorem k_237 : Cond.selects RX2 yX2_count yX2_count ∈ wt := wt_t (List.mem_of_getElem? (i := 237) (by decide +kernel)) rfl
theorem k_238 : Cond.code yX2_count cX2_count 2 (some .int) ∈ wt := wt_t (List.mem_of_getElem? (i := 238) (by decide +kernel)) rfl
theorem k_239 : Cond.methodLink RL 41 yX2_holds ∈ wt := wt_t (List.mem_of_getElem? (i := 239) (by decide +kernel)) rfl
theorem k_240 : Cond.instanceMethod yX2_holds ∈ wt := wt_t (List.mem_of_getElem? (i := 240) (by decide +kernel)) rfl
theorem k_241 : Cond.selects RX2 yX2_holds yX2_holds ∈ wt := wt_t (List.mem_of_getElem? (i := 241) (by decide +kernel)) rfl
theorem k_242 : Cond.code yX2_holds cX2_holds 4 (some .boolean) ∈ wt := wt_t (List.mem_of_getElem? (i := 242) (by decide +kernel)) rfl
theorem k_243 : Cond.methodLink RX2 44 yX2_isState ∈ wt := wt_t (List.mem_of_getElem? (i := 243) (by decide +kernel)) rfl
theorem k_245 : Cond.instanceMethod yX2_isState ∈ wt := wt_t (List.mem_of_getElem? (i := 245) (by decide +kernel)) rfl
theorem k_246 : Cond.code yX2_isState cX2_isState 2 (some .boolean) ∈ wt := wt_t (List.mem_of_getElem? (i := 246) (by decide +kernel)) rfl
theorem k_247 : Cond.methodLink RX2 29 yX2_states ∈ wt := wt_t (List.mem_of_getElem? (i := 247) (by decide +kernel)) rfl
theorem k_249 : Cond.instanceMethod yX2_states ∈ wt := wt_t (List.mem_of_getElem? (i := 249) (by decide +kernel)) rfl
theorem k_250 : Cond.code yX2_states cX2_states 1 (some .int) ∈ wt := wt_t (List.mem_of_getElem? (i := 250) (by decide +kernel)) rfl
theorem k_251 : Cond.methodLink RX2 47 yX2_leads ∈ wt := wt_t (List.mem_of_getElem? (i := 251) (by decide +kernel)) rfl
theorem k_253 : Cond.instanceMethod yX2_leads ∈ wt := wt_t (List.mem_of_getElem? (i := 253) (by decide +kernel)) rfl
theorem k_254 : Cond.code yX2_leads cX2_leads 3 (some .boolean) ∈ wt := wt_t (List.mem_of_getElem? (i := 254) (by decide +kernel)) rfl
theorem k_255 : Cond.methodLink RX2 40 yX2_isSo ∈ wt := wt_t (List.mem_of_getElem? (i := 255) (by decide +kernel)) rfl
theorem k_257 : Cond.instanceMethod yX2_isSo ∈ wt := wt_t (List.mem_of_getElem? (i := 257) (by decide +kernel)) rfl
theorem k_258 : Cond.code yX2_isSo cX2_isSo 8 (some .boolean) ∈ wt := wt_t (List.mem_of_getElem? (i := 258) (by decide +kernel)) rfl
theorem k_259 : Cond.methodLink RL 50 yX2_steps ∈ wt := wt_t (List.mem_of_getElem? (i := 259) (by decide +kernel)) rfl
theorem k_260 : Cond.instanceMethod yX2_steps ∈ wt := wt_t (List.mem_of_getElem? (i := 260) (by decide +kernel)) rfl
theorem k_261 : Cond.selects RX2 yX2_steps yX2_steps ∈ wt := wt_t (List.mem_of_getElem? (i := 261) (by decide +kernel)) rfl
theorem k_262 : Cond.code yX2_steps cX2_steps 3 (some .int) ∈ wt := wt_t (List.mem_of_getElem? (i := 262) (by decide +kernel)) rfl
theorem k_263 : Cond.methodLink RX2 50 yX2_explore ∈ wt := wt_t (List.mem_of_getElem? (i := 263) (by decide +kernel)) rfl
theorem k_265 : Cond.instanceMethod yX2_explore ∈ wt := wt_t (List.mem_of_getElem? (i := 265) (by decide +kernel)) rfl
theorem k_266 : Cond.code yX2_explore cX2_explore 5 none ∈ wt := wt_t (List.mem_of_getElem? (i := 266) (by decide +kernel)) rfl
theorem k_267 : Cond.methodLink RL 46 yX2_safe ∈ wt := wt_t (List.mem_of_getElem? (i := 267) (by decide +kernel)) rfl
theorem k_268 : Cond.instanceMethod yX2_safe ∈ wt := wt_t (List.mem_of_getElem? (i := 268) (by decide +kernel)) rfl
theorem k_269 : Cond.selects RX2 yX2_safe yX2_safe ∈ wt := wt_t (List.mem_of_getElem? (i := 269) (by decide +kernel)) rfl
theorem k_270 : Cond.code yX2_safe cX2_safe 1 (some .boolean) ∈ wt := wt_t (List.mem_of_getElem? (i := 270) (by decide +kernel)) rfl
theorem k_271 : Cond.methodLink RX2 53 yX2_steps ∈ wt := wt_t (List.mem_of_getElem? (i := 271) (by decide +kernel)) rfl
theorem k_272 : Cond.methodLink RL 54 yX2_depth ∈ wt := wt_t (List.mem_of_getElem? (i := 272) (by decide +kernel)) rfl
theorem k_273 : Cond.instanceMethod yX2_depth ∈ wt := wt_t (List.mem_of_getElem? (i := 273) (by decide +kernel)) rfl
theorem k_274 : Cond.selects RX2 yX2_depth yX2_depth ∈ wt := wt_t (List.mem_of_getElem? (i := 274) (by decide +kernel)) rfl
theorem k_275 : Cond.code yX2_depth cX2_depth 2 (some .int) ∈ wt := wt_t (List.mem_of_getElem? (i := 275) (by decide +kernel)) rfl
theorem k_276 : Cond.methodLink RL 58 yX2_reached ∈ wt := wt_t (List.mem_of_getElem? (i := 276) (by decide +kernel)) rfl
theorem k_277 : Cond.instanceMethod yX2_reached ∈ wt := wt_t (List.mem_of_getElem? (i := 277) (by decide +kernel)) rfl
theorem k_278 : Cond.selects RX2 yX2_reached yX2_reached ∈ wt := wt_t (List.mem_of_getElem? (i := 278) (by decide +kernel)) rfl
theorem k_279 : Cond.code yX2_reached cX2_reached 3 (some .int) ∈ wt := wt_t (List.mem_of_getElem? (i := 279) (by decide +kernel)) rfl
theorem k_280 : Cond.methodLink RL 62 yX2_worst ∈ wt := wt_t (List.mem_of_getElem? (i := 280) (by decide +kernel)) rfl
theorem k_281 : Cond.instanceMethod yX2_worst ∈ wt := wt_t (List.mem_of_getElem? (i := 281) (by decide +kernel)) rfl
theorem k_282 : Cond.selects RX2 yX2_worst yX2_worst ∈ wt := wt_t (List.mem_of_getElem? (i := 282) (by decide +kernel)) rfl
theorem k_283 : Cond.code yX2_worst cX2_worst 2 (some .int) ∈ wt := wt_t (List.mem_of_getElem? (i := 283) (by decide +kernel)) rfl
theorem k_284 : Cond.methodLink RL 66 yX2_check ∈ wt := wt_t (List.mem_of_getElem? (i := 284) (by decide +kernel)) rfl
theorem k_285 : Cond.instanceMethod yX2_check ∈ wt := wt_t (List.mem_of_getElem? (i := 285) (by decide +kernel)) rfl
theorem k_286 : Cond.selects RX2 yX2_check yX2_check ∈ wt := wt_t (List.mem_of_getElem? (i := 286) (by decide +kernel)) rfl
theorem k_287 : Cond.code yX2_check cX2_check 2 (some .int) ∈ wt := wt_t (List.mem_of_getElem? (i := 287) (by decide +kernel)) rfl
theorem k_288 : Cond.methodLink RX2 59 yX2_least ∈ wt := wt_t (List.mem_of_getElem? (i := 288) (by decide +kernel)) rfl
theorem k_290 : Cond.instanceMethod yX2_least ∈ wt := wt_t (List.mem_of_getElem? (i := 290) (by decide +kernel)) rfl
theorem k_291 : Cond.code yX2_least cX2_least 5 (some .int) ∈ wt := wt_t (List.mem_of_getElem? (i := 291) (by decide +kernel)) rfl
theorem k_292 : Cond.methodLink RX2 56 yX2_escapes ∈ wt := wt_t (List.mem_of_getElem? (i := 292) (by decide +kernel)) rfl
theorem k_294 : Cond.instanceMethod yX2_escapes ∈ wt := wt_t (List.mem_of_getElem? (i := 294) (by decide +kernel)) rfl
theorem k_295 : Cond.code yX2_escapes cX2_escapes 4 (some .boolean) ∈ wt := wt_t (List.mem_of_getElem? (i := 295) (by decide +kernel)) rfl
theorem k_296 : Cond.methodLink RL 70 yX2_flaw ∈ wt := wt_t (List.mem_of_getElem? (i := 296) (by decide +kernel)) rfl
theorem k_297 : Cond.instanceMethod yX2_flaw ∈ wt := wt_t (List.mem_of_getElem? (i := 297) (by decide +kernel)) rfl
theorem k_298 : Cond.selects RX2 yX2_flaw yX2_flaw ∈ wt := wt_t (List.mem_of_getElem? (i := 298) (by decide +kernel)) rfl
theorem k_299 : Cond.code yX2_flaw cX2_flaw 2 (some .int) ∈ wt := wt_t (List.mem_of_getElem? (i := 299) (by decide +kernel)) rfl
theorem k_300 : Cond.methodLink RX2 63 yX2_check ∈ wt := wt_t (List.mem_of_getElem? (i := 300) (by decide +kernel)) rfl
theorem k_301 : Cond.methodLink RL 74 yX2_walk ∈ wt := wt_t (List.mem_of_getElem? (i := 301) (by decide +kernel)) rfl
theorem k_302 : Cond.instanceMethod yX2_walk ∈ wt := wt_t (List.mem_of_getElem? (i := 302) (by decide +kernel)) rfl
theorem k_303 : Cond.selects RX2 yX2_walk yX2_walk ∈ wt := wt_t (List.mem_of_getElem? (i := 303) (by decide +kernel)) rfl
theorem k_304 : Cond.code yX2_walk cX2_walk 3 (some .int) ∈ wt := wt_t (List.mem_of_getElem? (i := 304) (by decide +kernel)) rfl
theorem k_305 : Cond.methodLink RL 78 yX2_arrives ∈ wt := wt_t (List.mem_of_getElem? (i := 305) (by decide +kernel)) rfl
theorem k_306 : Cond.instanceMethod yX2_arrives ∈ wt := wt_t (List.mem_of_getElem? (i := 306) (by decide +kernel)) rfl
theorem k_307 : Cond.selects RX2 yX2_arrives yX2_arrives ∈ wt := wt_t (List.mem_of_getElem? (i := 307) (by decide +kernel)) rfl
theorem k_308 : Cond.code yX2_arrives cX2_arrives 1 (some .boolean) ∈ wt := wt_t (List.mem_of_getElem? (i := 308) (by decide +kernel)) rfl
theorem ks_0 : Cond.selects RX0 yX0_removeAll yX0_removeAll ∈ wt := wt_s (List.mem_of_getElem? (i := 0) (by decide +kernel)) rfl
theorem ks_1 : Cond.selects RX1 yX1_forgetWhatFollowed yX1_forgetWhatFollowed ∈ wt := wt_s (List.mem_of_getElem? (i := 1) (by decide +kernel)) rfl
theorem ks_2 : Cond.selects RX1 yX1_isSetOf yX1_isSetOf ∈ wt := wt_s (List.mem_of_getElem? (i := 2) (by decide +kernel)) rfl
theorem ks_3 : Cond.selects RX0 yX0_isFull yX0_isFull ∈ wt := wt_s (List.mem_of_getElem? (i := 3) (by decide +kernel)) rfl
theorem ks_4 : Cond.selects RX0 yX0_add yX0_add ∈ wt := wt_s (List.mem_of_getElem? (i := 4) (by decide +kernel)) rfl
theorem ks_5 : Cond.selects RX0 yX0_removeLast yX0_removeLast ∈ wt := wt_s (List.mem_of_getElem? (i := 5) (by decide +kernel)) rfl
theorem ks_6 : Cond.selects RX1 yX1_isState yX1_isState ∈ wt := wt_s (List.mem_of_getElem? (i := 6) (by decide +kernel)) rfl
theorem ks_7 : Cond.selects RX1 yX1_stateCount yX1_stateCount ∈ wt := wt_s (List.mem_of_getElem? (i := 7) (by decide +kernel)) rfl
theorem ks_8 : Cond.selects RX1 yX1_canGo yX1_canGo ∈ wt := wt_s (List.mem_of_getElem? (i := 8) (by decide +kernel)) rfl
theorem ks_9 : Cond.selects RX0 yX0_allHold yX0_allHold ∈ wt := wt_s (List.mem_of_getElem? (i := 9) (by decide +kernel)) rfl
theorem ks_10 : Cond.selects RX1 yX1_isIn yX1_isIn ∈ wt := wt_s (List.mem_of_getElem? (i := 10) (by decide +kernel)) rfl
theorem ks_11 : Cond.selects RX1 yX1_findDepths yX1_findDepths ∈ wt := wt_s (List.mem_of_getElem? (i := 11) (by decide +kernel)) rfl
theorem ks_12 : Cond.selects RX1 yX1_goOnFrom yX1_goOnFrom ∈ wt := wt_s (List.mem_of_getElem? (i := 12) (by decide +kernel)) rfl
theorem ks_13 : Cond.selects RX1 yX1_goOnFromState yX1_goOnFromState ∈ wt := wt_s (List.mem_of_getElem? (i := 13) (by decide +kernel)) rfl
theorem ks_14 : Cond.selects RX1 yX1_isReachedBad yX1_isReachedBad ∈ wt := wt_s (List.mem_of_getElem? (i := 14) (by decide +kernel)) rfl
theorem ks_15 : Cond.selects RX1 yX1_leastBreaking yX1_leastBreaking ∈ wt := wt_s (List.mem_of_getElem? (i := 15) (by decide +kernel)) rfl
theorem ks_16 : Cond.selects RX1 yX1_breaks yX1_breaks ∈ wt := wt_s (List.mem_of_getElem? (i := 16) (by decide +kernel)) rfl
theorem ks_17 : Cond.selects RX1 yX1_canLeaveClaim yX1_canLeaveClaim ∈ wt := wt_s (List.mem_of_getElem? (i := 17) (by decide +kernel)) rfl
theorem ks_18 : Cond.selects RX2 yX2_isState yX2_isState ∈ wt := wt_s (List.mem_of_getElem? (i := 18) (by decide +kernel)) rfl
theorem ks_19 : Cond.selects RX2 yX2_states yX2_states ∈ wt := wt_s (List.mem_of_getElem? (i := 19) (by decide +kernel)) rfl
theorem ks_20 : Cond.selects RX2 yX2_leads yX2_leads ∈ wt := wt_s (List.mem_of_getElem? (i := 20) (by decide +kernel)) rfl
theorem ks_21 : Cond.selects RX2 yX2_isSo yX2_isSo ∈ wt := wt_s (List.mem_of_getElem? (i := 21) (by decide +kernel)) rfl
theorem ks_22 : Cond.selects RX2 yX2_explore yX2_explore ∈ wt := wt_s (List.mem_of_getElem? (i := 22) (by decide +kernel)) rfl
theorem ks_23 : Cond.selects RX2 yX2_least yX2_least ∈ wt := wt_s (List.mem_of_getElem? (i := 23) (by decide +kernel)) rfl
theorem ks_24 : Cond.selects RX2 yX2_escapes yX2_escapes ∈ wt := wt_s (List.mem_of_getElem? (i := 24) (by decide +kernel)) rfl
