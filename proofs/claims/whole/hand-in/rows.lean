section
-- ===== PART A: goes FIRST, ahead of the names: the tables' words, and 'selects' of the private methods out of them =====
/-- a private method of a class that the tables say can be made, by its rows of tables_1 -/
def lw_okq (q : MethodName × Nat) : Prop := (q.1.cls ≠ "java/lang/invoke/MethodHandle" ∧ q.1.cls ≠ "java/lang/invoke/VarHandle") ∧ Cond.instantiable q.1.cls q.2 ∈ tables_1 ∧ Cond.privateMethod q.1 ∈ tables_1 ∧ Cond.instanceMethod q.1 ∈ tables_1
theorem lw_p0 : lw_okq (⟨"ReachProver$ClauseList", "removeAll", "()V"⟩, 3) := ⟨⟨by decide +kernel, by decide +kernel⟩, List.mem_of_getElem? (i := 14) (by decide +kernel), List.mem_of_getElem? (i := 55) (by decide +kernel), List.mem_of_getElem? (i := 56) (by decide +kernel)⟩
theorem lw_p1 : lw_okq (⟨"ReachProver", "forgetWhatFollowed", "()V"⟩, 6) := ⟨⟨by decide +kernel, by decide +kernel⟩, List.mem_of_getElem? (i := 5) (by decide +kernel), List.mem_of_getElem? (i := 59) (by decide +kernel), List.mem_of_getElem? (i := 60) (by decide +kernel)⟩
theorem lw_p2 : lw_okq (⟨"ReachProver", "isSetOf", "(II)Z"⟩, 6) := ⟨⟨by decide +kernel, by decide +kernel⟩, List.mem_of_getElem? (i := 5) (by decide +kernel), List.mem_of_getElem? (i := 70) (by decide +kernel), List.mem_of_getElem? (i := 71) (by decide +kernel)⟩
theorem lw_p3 : lw_okq (⟨"ReachProver$ClauseList", "isFull", "()Z"⟩, 3) := ⟨⟨by decide +kernel, by decide +kernel⟩, List.mem_of_getElem? (i := 14) (by decide +kernel), List.mem_of_getElem? (i := 74) (by decide +kernel), List.mem_of_getElem? (i := 75) (by decide +kernel)⟩
theorem lw_p4 : lw_okq (⟨"ReachProver$ClauseList", "add", "(II)V"⟩, 3) := ⟨⟨by decide +kernel, by decide +kernel⟩, List.mem_of_getElem? (i := 14) (by decide +kernel), List.mem_of_getElem? (i := 78) (by decide +kernel), List.mem_of_getElem? (i := 79) (by decide +kernel)⟩
theorem lw_p5 : lw_okq (⟨"ReachProver$ClauseList", "removeLast", "()V"⟩, 3) := ⟨⟨by decide +kernel, by decide +kernel⟩, List.mem_of_getElem? (i := 14) (by decide +kernel), List.mem_of_getElem? (i := 87) (by decide +kernel), List.mem_of_getElem? (i := 88) (by decide +kernel)⟩
theorem lw_p6 : lw_okq (⟨"ReachProver", "isState", "(I)Z"⟩, 6) := ⟨⟨by decide +kernel, by decide +kernel⟩, List.mem_of_getElem? (i := 5) (by decide +kernel), List.mem_of_getElem? (i := 103) (by decide +kernel), List.mem_of_getElem? (i := 104) (by decide +kernel)⟩
theorem lw_p7 : lw_okq (⟨"ReachProver", "stateCount", "()I"⟩, 6) := ⟨⟨by decide +kernel, by decide +kernel⟩, List.mem_of_getElem? (i := 5) (by decide +kernel), List.mem_of_getElem? (i := 107) (by decide +kernel), List.mem_of_getElem? (i := 108) (by decide +kernel)⟩
theorem lw_p8 : lw_okq (⟨"ReachProver", "canGo", "(II)Z"⟩, 6) := ⟨⟨by decide +kernel, by decide +kernel⟩, List.mem_of_getElem? (i := 5) (by decide +kernel), List.mem_of_getElem? (i := 111) (by decide +kernel), List.mem_of_getElem? (i := 112) (by decide +kernel)⟩
theorem lw_p9 : lw_okq (⟨"ReachProver$ClauseList", "allHold", "(I)Z"⟩, 3) := ⟨⟨by decide +kernel, by decide +kernel⟩, List.mem_of_getElem? (i := 14) (by decide +kernel), List.mem_of_getElem? (i := 115) (by decide +kernel), List.mem_of_getElem? (i := 116) (by decide +kernel)⟩
theorem lw_p10 : lw_okq (⟨"ReachProver", "isIn", "(II)Z"⟩, 6) := ⟨⟨by decide +kernel, by decide +kernel⟩, List.mem_of_getElem? (i := 5) (by decide +kernel), List.mem_of_getElem? (i := 119) (by decide +kernel), List.mem_of_getElem? (i := 120) (by decide +kernel)⟩
theorem lw_p11 : lw_okq (⟨"ReachProver", "findDepths", "()V"⟩, 6) := ⟨⟨by decide +kernel, by decide +kernel⟩, List.mem_of_getElem? (i := 5) (by decide +kernel), List.mem_of_getElem? (i := 131) (by decide +kernel), List.mem_of_getElem? (i := 132) (by decide +kernel)⟩
theorem lw_p12 : lw_okq (⟨"ReachProver", "goOnFrom", "(I)V"⟩, 6) := ⟨⟨by decide +kernel, by decide +kernel⟩, List.mem_of_getElem? (i := 5) (by decide +kernel), List.mem_of_getElem? (i := 135) (by decide +kernel), List.mem_of_getElem? (i := 136) (by decide +kernel)⟩
theorem lw_p13 : lw_okq (⟨"ReachProver", "goOnFromState", "(I)V"⟩, 6) := ⟨⟨by decide +kernel, by decide +kernel⟩, List.mem_of_getElem? (i := 5) (by decide +kernel), List.mem_of_getElem? (i := 139) (by decide +kernel), List.mem_of_getElem? (i := 140) (by decide +kernel)⟩
theorem lw_p14 : lw_okq (⟨"ReachProver", "isReachedBad", "(I)Z"⟩, 6) := ⟨⟨by decide +kernel, by decide +kernel⟩, List.mem_of_getElem? (i := 5) (by decide +kernel), List.mem_of_getElem? (i := 143) (by decide +kernel), List.mem_of_getElem? (i := 144) (by decide +kernel)⟩
theorem lw_p15 : lw_okq (⟨"ReachProver", "leastBreaking", "(I)I"⟩, 6) := ⟨⟨by decide +kernel, by decide +kernel⟩, List.mem_of_getElem? (i := 5) (by decide +kernel), List.mem_of_getElem? (i := 164) (by decide +kernel), List.mem_of_getElem? (i := 165) (by decide +kernel)⟩
def lw_privs_1 : List (MethodName × Nat) := [(⟨"ReachProver$ClauseList", "removeAll", "()V"⟩, 3), (⟨"ReachProver", "forgetWhatFollowed", "()V"⟩, 6), (⟨"ReachProver", "isSetOf", "(II)Z"⟩, 6), (⟨"ReachProver$ClauseList", "isFull", "()Z"⟩, 3), (⟨"ReachProver$ClauseList", "add", "(II)V"⟩, 3), (⟨"ReachProver$ClauseList", "removeLast", "()V"⟩, 3), (⟨"ReachProver", "isState", "(I)Z"⟩, 6), (⟨"ReachProver", "stateCount", "()I"⟩, 6), (⟨"ReachProver", "canGo", "(II)Z"⟩, 6), (⟨"ReachProver$ClauseList", "allHold", "(I)Z"⟩, 3), (⟨"ReachProver", "isIn", "(II)Z"⟩, 6), (⟨"ReachProver", "findDepths", "()V"⟩, 6), (⟨"ReachProver", "goOnFrom", "(I)V"⟩, 6), (⟨"ReachProver", "goOnFromState", "(I)V"⟩, 6), (⟨"ReachProver", "isReachedBad", "(I)Z"⟩, 6), (⟨"ReachProver", "leastBreaking", "(I)I"⟩, 6)]
theorem lw_r1 : ∀ q ∈ lw_privs_1, lw_okq q := List.forall_mem_cons.mpr ⟨lw_p0, List.forall_mem_cons.mpr ⟨lw_p1, List.forall_mem_cons.mpr ⟨lw_p2, List.forall_mem_cons.mpr ⟨lw_p3, List.forall_mem_cons.mpr ⟨lw_p4, List.forall_mem_cons.mpr ⟨lw_p5, List.forall_mem_cons.mpr ⟨lw_p6, List.forall_mem_cons.mpr ⟨lw_p7, List.forall_mem_cons.mpr ⟨lw_p8, List.forall_mem_cons.mpr ⟨lw_p9, List.forall_mem_cons.mpr ⟨lw_p10, List.forall_mem_cons.mpr ⟨lw_p11, List.forall_mem_cons.mpr ⟨lw_p12, List.forall_mem_cons.mpr ⟨lw_p13, List.forall_mem_cons.mpr ⟨lw_p14, List.forall_mem_cons.mpr ⟨lw_p15, fun _ h => absurd h List.not_mem_nil⟩⟩⟩⟩⟩⟩⟩⟩⟩⟩⟩⟩⟩⟩⟩⟩
theorem lw_p16 : lw_okq (⟨"ReachProver", "breaks", "(II)Z"⟩, 6) := ⟨⟨by decide +kernel, by decide +kernel⟩, List.mem_of_getElem? (i := 5) (by decide +kernel), List.mem_of_getElem? (i := 168) (by decide +kernel), List.mem_of_getElem? (i := 169) (by decide +kernel)⟩
theorem lw_p17 : lw_okq (⟨"ReachProver", "canLeaveClaim", "(I)Z"⟩, 6) := ⟨⟨by decide +kernel, by decide +kernel⟩, List.mem_of_getElem? (i := 5) (by decide +kernel), List.mem_of_getElem? (i := 172) (by decide +kernel), List.mem_of_getElem? (i := 173) (by decide +kernel)⟩
theorem lw_p18 : lw_okq (⟨"ReachProverModel", "isState", "(I)Z"⟩, 7) := ⟨⟨by decide +kernel, by decide +kernel⟩, List.mem_of_getElem? (i := 189) (by decide +kernel), List.mem_of_getElem? (i := 244) (by decide +kernel), List.mem_of_getElem? (i := 245) (by decide +kernel)⟩
theorem lw_p19 : lw_okq (⟨"ReachProverModel", "states", "()I"⟩, 7) := ⟨⟨by decide +kernel, by decide +kernel⟩, List.mem_of_getElem? (i := 189) (by decide +kernel), List.mem_of_getElem? (i := 248) (by decide +kernel), List.mem_of_getElem? (i := 249) (by decide +kernel)⟩
theorem lw_p20 : lw_okq (⟨"ReachProverModel", "leads", "(II)Z"⟩, 7) := ⟨⟨by decide +kernel, by decide +kernel⟩, List.mem_of_getElem? (i := 189) (by decide +kernel), List.mem_of_getElem? (i := 252) (by decide +kernel), List.mem_of_getElem? (i := 253) (by decide +kernel)⟩
theorem lw_p21 : lw_okq (⟨"ReachProverModel", "isSo", "(II)Z"⟩, 7) := ⟨⟨by decide +kernel, by decide +kernel⟩, List.mem_of_getElem? (i := 189) (by decide +kernel), List.mem_of_getElem? (i := 256) (by decide +kernel), List.mem_of_getElem? (i := 257) (by decide +kernel)⟩
theorem lw_p22 : lw_okq (⟨"ReachProverModel", "explore", "()V"⟩, 7) := ⟨⟨by decide +kernel, by decide +kernel⟩, List.mem_of_getElem? (i := 189) (by decide +kernel), List.mem_of_getElem? (i := 264) (by decide +kernel), List.mem_of_getElem? (i := 265) (by decide +kernel)⟩
theorem lw_p23 : lw_okq (⟨"ReachProverModel", "least", "(I)I"⟩, 7) := ⟨⟨by decide +kernel, by decide +kernel⟩, List.mem_of_getElem? (i := 189) (by decide +kernel), List.mem_of_getElem? (i := 289) (by decide +kernel), List.mem_of_getElem? (i := 290) (by decide +kernel)⟩
theorem lw_p24 : lw_okq (⟨"ReachProverModel", "escapes", "(I)Z"⟩, 7) := ⟨⟨by decide +kernel, by decide +kernel⟩, List.mem_of_getElem? (i := 189) (by decide +kernel), List.mem_of_getElem? (i := 293) (by decide +kernel), List.mem_of_getElem? (i := 294) (by decide +kernel)⟩
def lw_privs_2 : List (MethodName × Nat) := [(⟨"ReachProver", "breaks", "(II)Z"⟩, 6), (⟨"ReachProver", "canLeaveClaim", "(I)Z"⟩, 6), (⟨"ReachProverModel", "isState", "(I)Z"⟩, 7), (⟨"ReachProverModel", "states", "()I"⟩, 7), (⟨"ReachProverModel", "leads", "(II)Z"⟩, 7), (⟨"ReachProverModel", "isSo", "(II)Z"⟩, 7), (⟨"ReachProverModel", "explore", "()V"⟩, 7), (⟨"ReachProverModel", "least", "(I)I"⟩, 7), (⟨"ReachProverModel", "escapes", "(I)Z"⟩, 7)]
theorem lw_r2 : ∀ q ∈ lw_privs_2, lw_okq q := List.forall_mem_cons.mpr ⟨lw_p16, List.forall_mem_cons.mpr ⟨lw_p17, List.forall_mem_cons.mpr ⟨lw_p18, List.forall_mem_cons.mpr ⟨lw_p19, List.forall_mem_cons.mpr ⟨lw_p20, List.forall_mem_cons.mpr ⟨lw_p21, List.forall_mem_cons.mpr ⟨lw_p22, List.forall_mem_cons.mpr ⟨lw_p23, List.forall_mem_cons.mpr ⟨lw_p24, fun _ h => absurd h List.not_mem_nil⟩⟩⟩⟩⟩⟩⟩⟩⟩
def lw_privs : List (MethodName × Nat) := lw_privs_1 ++ (lw_privs_2)
def lw_tbl : List Cond := k2_sels lw_privs ++ tables_1
theorem lw_privs_ok : ∀ q ∈ lw_privs, lw_okq q := by
  show ∀ q ∈ lw_privs_1 ++ (lw_privs_2), lw_okq q
  exact List.forall_mem_append.mpr ⟨lw_r1, lw_r2⟩

def wt : List Cond := lw_tbl.filter goodWord
theorem wt_in {w : Cond} (h : w ∈ lw_tbl) (g : goodWord w = true) : w ∈ wt := List.mem_filter.mpr ⟨h, g⟩
theorem wt_t {w : Cond} (h : w ∈ tables_1) (g : goodWord w = true) : w ∈ wt := wt_in (List.mem_append_right _ h) g
theorem wt_s {w : Cond} (h : w ∈ k2_sels lw_privs) (g : goodWord w = true) : w ∈ wt := wt_in (List.mem_append_left _ h) g
theorem wt_gd {c : Cond} (h : c ∈ wt) : GoodIn wt (c :: wt) := fun w hw => by
  have h2 : w ∈ wt := by
    rcases List.mem_cons.mp hw with rfl | h3
    · exact h
    · exact h3
  exact ⟨h2, good_of_word (List.mem_filter.mp h2).2⟩
def RX0 : String := "ReachProver$ClauseList"
def TX0 : u_T := fun k => match k with
  | 0 => ("ReachProver$ClauseList", "pluses", "[I", true)
  | 1 => ("ReachProver$ClauseList", "minuses", "[I", true)
  | _ => ("ReachProver$ClauseList", "size", "I", false)
def tyX0 : Nat → FieldType := fun k => match k with
  | 0 => .array .int
  | 1 => .array .int
  | _ => .int
theorem nmX0 : ∀ a, a < 3 → ∀ b, b < 3 → a ≠ b → (TX0 a).2.1 ≠ (TX0 b).2.1 := by decide +kernel
theorem tyX0_ok : ∀ k, k < 3 → parseFieldDescriptor (TX0 k).2.2.1 = some (tyX0 k) := by decide +kernel
def RX1 : String := "ReachProver"
def TX1 : u_T := fun k => match k with
  | 0 => ("ReachProver", "lists", "[LReachProver$ClauseList;", true)
  | 1 => ("ReachProver", "depths", "[I", true)
  | 2 => ("ReachProver", "depthsKnown", "Z", false)
  | 3 => ("ReachProver", "switchCount", "I", false)
  | 4 => ("ReachProver", "pathLength", "I", false)
  | _ => ("ReachProver", "pathEnd", "I", false)
def tyX1 : Nat → FieldType := fun k => match k with
  | 0 => .array (.object "ReachProver$ClauseList")
  | 1 => .array .int
  | 2 => .boolean
  | 3 => .int
  | 4 => .int
  | _ => .int
theorem nmX1 : ∀ a, a < 6 → ∀ b, b < 6 → a ≠ b → (TX1 a).2.1 ≠ (TX1 b).2.1 := by decide +kernel
theorem tyX1_ok : ∀ k, k < 6 → parseFieldDescriptor (TX1 k).2.2.1 = some (tyX1 k) := by decide +kernel
def RX2 : String := "ReachProverModel"
def TX2 : u_T := fun k => match k with
  | 0 => ("ReachProverModel", "n", "I", false)
  | 1 => ("ReachProverModel", "counts", "[I", true)
  | 2 => ("ReachProverModel", "plus", "[I", true)
  | 3 => ("ReachProverModel", "minus", "[I", true)
  | 4 => ("ReachProverModel", "path", "[I", true)
  | 5 => ("ReachProverModel", "length", "I", false)
  | _ => ("ReachProverModel", "depths", "[I", true)
def tyX2 : Nat → FieldType := fun k => match k with
  | 0 => .int
  | 1 => .array .int
  | 2 => .array .int
  | 3 => .array .int
  | 4 => .array .int
  | 5 => .int
  | _ => .array .int
theorem nmX2 : ∀ a, a < 7 → ∀ b, b < 7 → a ≠ b → (TX2 a).2.1 ≠ (TX2 b).2.1 := by decide +kernel
theorem tyX2_ok : ∀ k, k < 7 → parseFieldDescriptor (TX2 k).2.2.1 = some (tyX2 k) := by decide +kernel
def RL : String := "ReachProverLaw"
abbrev cX1_init : ByteArray := prog_1_method_1_code
def yX1_init : MethodName := ⟨RX1, "<init>", "()V"⟩
abbrev cX1_begin : ByteArray := prog_1_method_2_code
def yX1_begin : MethodName := ⟨RX1, "begin", "(I)Z"⟩
abbrev cX1_clause : ByteArray := prog_1_method_3_code
def yX1_clause : MethodName := ⟨RX1, "clause", "(III)I"⟩
abbrev cX1_drop : ByteArray := prog_1_method_4_code
def yX1_drop : MethodName := ⟨RX1, "drop", "(I)I"⟩
abbrev cX1_switches : ByteArray := prog_1_method_5_code
def yX1_switches : MethodName := ⟨RX1, "switches", "()I"⟩
abbrev cX1_count : ByteArray := prog_1_method_6_code
def yX1_count : MethodName := ⟨RX1, "count", "(I)I"⟩
abbrev cX1_holds : ByteArray := prog_1_method_7_code
def yX1_holds : MethodName := ⟨RX1, "holds", "(III)Z"⟩
abbrev cX1_safe : ByteArray := prog_1_method_8_code
def yX1_safe : MethodName := ⟨RX1, "safe", "()Z"⟩
abbrev cX1_steps : ByteArray := prog_1_method_9_code
def yX1_steps : MethodName := ⟨RX1, "steps", "()I"⟩
abbrev cX1_depth : ByteArray := prog_1_method_10_code
def yX1_depth : MethodName := ⟨RX1, "depth", "(I)I"⟩
abbrev cX1_reached : ByteArray := prog_1_method_11_code
def yX1_reached : MethodName := ⟨RX1, "reached", "()I"⟩
abbrev cX1_worst : ByteArray := prog_1_method_12_code
def yX1_worst : MethodName := ⟨RX1, "worst", "()I"⟩
abbrev cX1_check : ByteArray := prog_1_method_13_code
def yX1_check : MethodName := ⟨RX1, "check", "()I"⟩
abbrev cX1_flaw : ByteArray := prog_1_method_14_code
def yX1_flaw : MethodName := ⟨RX1, "flaw", "()I"⟩
abbrev cX1_walk : ByteArray := prog_1_method_15_code
def yX1_walk : MethodName := ⟨RX1, "walk", "(I)I"⟩
abbrev cX1_arrives : ByteArray := prog_1_method_16_code
def yX1_arrives : MethodName := ⟨RX1, "arrives", "()Z"⟩
abbrev cX1_stateCount : ByteArray := prog_1_method_17_code
def yX1_stateCount : MethodName := ⟨RX1, "stateCount", "()I"⟩
abbrev cX1_isState : ByteArray := prog_1_method_18_code
def yX1_isState : MethodName := ⟨RX1, "isState", "(I)Z"⟩
abbrev cX1_isList : ByteArray := prog_1_method_19_code
def yX1_isList : MethodName := ⟨RX1, "isList", "(I)Z"⟩
abbrev cX1_isSetOf : ByteArray := prog_1_method_20_code
def yX1_isSetOf : MethodName := ⟨RX1, "isSetOf", "(II)Z"⟩
abbrev cX1_isIn : ByteArray := prog_1_method_21_code
def yX1_isIn : MethodName := ⟨RX1, "isIn", "(II)Z"⟩
abbrev cX1_canGo : ByteArray := prog_1_method_22_code
def yX1_canGo : MethodName := ⟨RX1, "canGo", "(II)Z"⟩
abbrev cX1_isReachedBad : ByteArray := prog_1_method_23_code
def yX1_isReachedBad : MethodName := ⟨RX1, "isReachedBad", "(I)Z"⟩
abbrev cX1_forgetWhatFollowed : ByteArray := prog_1_method_24_code
def yX1_forgetWhatFollowed : MethodName := ⟨RX1, "forgetWhatFollowed", "()V"⟩
abbrev cX1_findDepths : ByteArray := prog_1_method_25_code
def yX1_findDepths : MethodName := ⟨RX1, "findDepths", "()V"⟩
abbrev cX1_goOnFrom : ByteArray := prog_1_method_26_code
def yX1_goOnFrom : MethodName := ⟨RX1, "goOnFrom", "(I)V"⟩
abbrev cX1_goOnFromState : ByteArray := prog_1_method_27_code
def yX1_goOnFromState : MethodName := ⟨RX1, "goOnFromState", "(I)V"⟩
abbrev cX1_leastBreaking : ByteArray := prog_1_method_28_code
def yX1_leastBreaking : MethodName := ⟨RX1, "leastBreaking", "(I)I"⟩
abbrev cX1_breaks : ByteArray := prog_1_method_29_code
def yX1_breaks : MethodName := ⟨RX1, "breaks", "(II)Z"⟩
abbrev cX1_canLeaveClaim : ByteArray := prog_1_method_30_code
def yX1_canLeaveClaim : MethodName := ⟨RX1, "canLeaveClaim", "(I)Z"⟩
abbrev cX2_init : ByteArray := prog_4_method_1_code
def yX2_init : MethodName := ⟨RX2, "<init>", "()V"⟩
abbrev cX2_states : ByteArray := prog_4_method_3_code
def yX2_states : MethodName := ⟨RX2, "states", "()I"⟩
abbrev cX2_isState : ByteArray := prog_4_method_4_code
def yX2_isState : MethodName := ⟨RX2, "isState", "(I)Z"⟩
abbrev cX2_isList : ByteArray := prog_4_method_5_code
def yX2_isList : MethodName := ⟨RX2, "isList", "(I)Z"⟩
abbrev cX2_begin : ByteArray := prog_4_method_6_code
def yX2_begin : MethodName := ⟨RX2, "begin", "(I)Z"⟩
abbrev cX2_clause : ByteArray := prog_4_method_7_code
def yX2_clause : MethodName := ⟨RX2, "clause", "(III)I"⟩
abbrev cX2_drop : ByteArray := prog_4_method_8_code
def yX2_drop : MethodName := ⟨RX2, "drop", "(I)I"⟩
abbrev cX2_switches : ByteArray := prog_4_method_9_code
def yX2_switches : MethodName := ⟨RX2, "switches", "()I"⟩
abbrev cX2_count : ByteArray := prog_4_method_10_code
def yX2_count : MethodName := ⟨RX2, "count", "(I)I"⟩
abbrev cX2_isSo : ByteArray := prog_4_method_11_code
def yX2_isSo : MethodName := ⟨RX2, "isSo", "(II)Z"⟩
abbrev cX2_leads : ByteArray := prog_4_method_12_code
def yX2_leads : MethodName := ⟨RX2, "leads", "(II)Z"⟩
abbrev cX2_holds : ByteArray := prog_4_method_13_code
def yX2_holds : MethodName := ⟨RX2, "holds", "(III)Z"⟩
abbrev cX2_explore : ByteArray := prog_4_method_14_code
def yX2_explore : MethodName := ⟨RX2, "explore", "()V"⟩
abbrev cX2_steps : ByteArray := prog_4_method_15_code
def yX2_steps : MethodName := ⟨RX2, "steps", "()I"⟩
abbrev cX2_safe : ByteArray := prog_4_method_16_code
def yX2_safe : MethodName := ⟨RX2, "safe", "()Z"⟩
abbrev cX2_depth : ByteArray := prog_4_method_17_code
def yX2_depth : MethodName := ⟨RX2, "depth", "(I)I"⟩
abbrev cX2_reached : ByteArray := prog_4_method_18_code
def yX2_reached : MethodName := ⟨RX2, "reached", "()I"⟩
abbrev cX2_worst : ByteArray := prog_4_method_19_code
def yX2_worst : MethodName := ⟨RX2, "worst", "()I"⟩
abbrev cX2_escapes : ByteArray := prog_4_method_20_code
def yX2_escapes : MethodName := ⟨RX2, "escapes", "(I)Z"⟩
abbrev cX2_least : ByteArray := prog_4_method_21_code
def yX2_least : MethodName := ⟨RX2, "least", "(I)I"⟩
abbrev cX2_check : ByteArray := prog_4_method_22_code
def yX2_check : MethodName := ⟨RX2, "check", "()I"⟩
abbrev cX2_flaw : ByteArray := prog_4_method_23_code
def yX2_flaw : MethodName := ⟨RX2, "flaw", "()I"⟩
abbrev cX2_walk : ByteArray := prog_4_method_24_code
def yX2_walk : MethodName := ⟨RX2, "walk", "(I)I"⟩
abbrev cX2_arrives : ByteArray := prog_4_method_25_code
def yX2_arrives : MethodName := ⟨RX2, "arrives", "()Z"⟩
abbrev cX0_init : ByteArray := prog_2_method_1_code
def yX0_init : MethodName := ⟨RX0, "<init>", "()V"⟩
abbrev cX0_isFull : ByteArray := prog_2_method_2_code
def yX0_isFull : MethodName := ⟨RX0, "isFull", "()Z"⟩
abbrev cX0_add : ByteArray := prog_2_method_3_code
def yX0_add : MethodName := ⟨RX0, "add", "(II)V"⟩
abbrev cX0_removeLast : ByteArray := prog_2_method_4_code
def yX0_removeLast : MethodName := ⟨RX0, "removeLast", "()V"⟩
abbrev cX0_removeAll : ByteArray := prog_2_method_5_code
def yX0_removeAll : MethodName := ⟨RX0, "removeAll", "()V"⟩
abbrev cX0_allHold : ByteArray := prog_2_method_6_code
def yX0_allHold : MethodName := ⟨RX0, "allHold", "(I)Z"⟩
theorem inX0 : ∀ w ∈ u_ws RX0 TX0 3, w ∈ wt := by
  have h : (u_ws RX0 TX0 3).all (fun w => decide (w ∈ tables_1) && goodWord w) = true := by decide +kernel
  intro w hw
  have h1 := List.all_eq_true.mp h w hw
  simp only [Bool.and_eq_true, decide_eq_true_eq] at h1
  exact wt_t h1.1 h1.2
theorem inX1 : ∀ w ∈ u_ws RX1 TX1 6, w ∈ wt := by
  have h : (u_ws RX1 TX1 6).all (fun w => decide (w ∈ tables_1) && goodWord w) = true := by decide +kernel
  intro w hw
  have h1 := List.all_eq_true.mp h w hw
  simp only [Bool.and_eq_true, decide_eq_true_eq] at h1
  exact wt_t h1.1 h1.2
theorem inX2 : ∀ w ∈ u_ws RX2 TX2 7, w ∈ wt := by
  have h : (u_ws RX2 TX2 7).all (fun w => decide (w ∈ tables_1) && goodWord w) = true := by decide +kernel
  intro w hw
  have h1 := List.all_eq_true.mp h w hw
  simp only [Bool.and_eq_true, decide_eq_true_eq] at h1
  exact wt_t h1.1 h1.2
theorem k_0 : Cond.initialized RL ∈ wt := wt_t (List.mem_of_getElem? (i := 0) (by decide +kernel)) rfl
theorem k_1 : Cond.initialized RX1 ∈ wt := wt_t (List.mem_of_getElem? (i := 1) (by decide +kernel)) rfl
theorem k_2 : Cond.initialized RX0 ∈ wt := wt_t (List.mem_of_getElem? (i := 2) (by decide +kernel)) rfl
theorem k_3 : Cond.initialized RX2 ∈ wt := wt_t (List.mem_of_getElem? (i := 3) (by decide +kernel)) rfl
theorem k_4 : Cond.classLink RL 7 RX1 ∈ wt := wt_t (List.mem_of_getElem? (i := 4) (by decide +kernel)) rfl
theorem k_5 : Cond.instantiable RX1 6 ∈ wt := wt_t (List.mem_of_getElem? (i := 5) (by decide +kernel)) rfl
theorem k_6 : Cond.methodLink RL 9 yX1_init ∈ wt := wt_t (List.mem_of_getElem? (i := 6) (by decide +kernel)) rfl
theorem k_7 : Cond.instanceMethod yX1_init ∈ wt := wt_t (List.mem_of_getElem? (i := 7) (by decide +kernel)) rfl
theorem k_8 : Cond.code yX1_init cX1_init 2 none ∈ wt := wt_t (List.mem_of_getElem? (i := 8) (by decide +kernel)) rfl
theorem k_9 : Cond.methodLink RX1 3 objectInit ∈ wt := wt_t (List.mem_of_getElem? (i := 9) (by decide +kernel)) rfl
theorem k_10 : Cond.instanceMethod objectInit ∈ wt := wt_t (List.mem_of_getElem? (i := 10) (by decide +kernel)) rfl
theorem k_11 : Cond.code objectInit ⟨#[0xb1]⟩ 1 none ∈ wt := wt_t (List.mem_of_getElem? (i := 11) (by decide +kernel)) rfl
theorem k_12 : Cond.classLink RX1 9 RX0 ∈ wt := wt_t (List.mem_of_getElem? (i := 12) (by decide +kernel)) rfl
theorem k_14 : Cond.instantiable RX0 3 ∈ wt := wt_t (List.mem_of_getElem? (i := 14) (by decide +kernel)) rfl
theorem k_16 : Cond.instanceMethod yX0_init ∈ wt := wt_t (List.mem_of_getElem? (i := 16) (by decide +kernel)) rfl
theorem k_17 : Cond.code yX0_init cX0_init 1 none ∈ wt := wt_t (List.mem_of_getElem? (i := 17) (by decide +kernel)) rfl
theorem k_18 : Cond.methodLink RX0 1 objectInit ∈ wt := wt_t (List.mem_of_getElem? (i := 18) (by decide +kernel)) rfl
theorem k_19 : Cond.fieldLink RX0 9 "ReachProver$ClauseList" "pluses" "[I" ∈ wt := wt_t (List.mem_of_getElem? (i := 19) (by decide +kernel)) rfl
theorem k_20 : Cond.fieldLink RX0 13 "ReachProver$ClauseList" "minuses" "[I" ∈ wt := wt_t (List.mem_of_getElem? (i := 20) (by decide +kernel)) rfl
theorem k_21 : Cond.fieldLink RX0 16 "ReachProver$ClauseList" "size" "I" ∈ wt := wt_t (List.mem_of_getElem? (i := 21) (by decide +kernel)) rfl
theorem k_30 : Cond.arrayClass .int ∈ wt := wt_t (List.mem_of_getElem? (i := 30) (by decide +kernel)) rfl
theorem k_31 : Cond.fieldLink RX1 11 "ReachProver" "lists" "[LReachProver$ClauseList;" ∈ wt := wt_t (List.mem_of_getElem? (i := 31) (by decide +kernel)) rfl
theorem k_32 : Cond.fieldLink RX1 16 "ReachProver" "depths" "[I" ∈ wt := wt_t (List.mem_of_getElem? (i := 32) (by decide +kernel)) rfl
theorem k_33 : Cond.fieldLink RX1 20 "ReachProver" "depthsKnown" "Z" ∈ wt := wt_t (List.mem_of_getElem? (i := 33) (by decide +kernel)) rfl
theorem k_34 : Cond.fieldLink RX1 24 "ReachProver" "switchCount" "I" ∈ wt := wt_t (List.mem_of_getElem? (i := 34) (by decide +kernel)) rfl
theorem k_35 : Cond.fieldLink RX1 28 "ReachProver" "pathLength" "I" ∈ wt := wt_t (List.mem_of_getElem? (i := 35) (by decide +kernel)) rfl
theorem k_36 : Cond.fieldLink RX1 31 "ReachProver" "pathEnd" "I" ∈ wt := wt_t (List.mem_of_getElem? (i := 36) (by decide +kernel)) rfl
theorem k_50 : Cond.methodLink RL 13 yX1_begin ∈ wt := wt_t (List.mem_of_getElem? (i := 50) (by decide +kernel)) rfl
theorem k_51 : Cond.instanceMethod yX1_begin ∈ wt := wt_t (List.mem_of_getElem? (i := 51) (by decide +kernel)) rfl
theorem k_52 : Cond.selects RX1 yX1_begin yX1_begin ∈ wt := wt_t (List.mem_of_getElem? (i := 52) (by decide +kernel)) rfl
theorem k_53 : Cond.code yX1_begin cX1_begin 3 (some .boolean) ∈ wt := wt_t (List.mem_of_getElem? (i := 53) (by decide +kernel)) rfl
theorem k_56 : Cond.instanceMethod yX0_removeAll ∈ wt := wt_t (List.mem_of_getElem? (i := 56) (by decide +kernel)) rfl
theorem k_57 : Cond.code yX0_removeAll cX0_removeAll 1 none ∈ wt := wt_t (List.mem_of_getElem? (i := 57) (by decide +kernel)) rfl
theorem k_58 : Cond.methodLink RX1 37 yX1_forgetWhatFollowed ∈ wt := wt_t (List.mem_of_getElem? (i := 58) (by decide +kernel)) rfl
theorem k_60 : Cond.instanceMethod yX1_forgetWhatFollowed ∈ wt := wt_t (List.mem_of_getElem? (i := 60) (by decide +kernel)) rfl
theorem k_61 : Cond.code yX1_forgetWhatFollowed cX1_forgetWhatFollowed 1 none ∈ wt := wt_t (List.mem_of_getElem? (i := 61) (by decide +kernel)) rfl
theorem k_62 : Cond.methodLink RL 18 yX1_clause ∈ wt := wt_t (List.mem_of_getElem? (i := 62) (by decide +kernel)) rfl
theorem k_63 : Cond.instanceMethod yX1_clause ∈ wt := wt_t (List.mem_of_getElem? (i := 63) (by decide +kernel)) rfl
theorem k_64 : Cond.selects RX1 yX1_clause yX1_clause ∈ wt := wt_t (List.mem_of_getElem? (i := 64) (by decide +kernel)) rfl
theorem k_65 : Cond.code yX1_clause cX1_clause 4 (some .int) ∈ wt := wt_t (List.mem_of_getElem? (i := 65) (by decide +kernel)) rfl
theorem k_66 : Cond.methodLink RX1 40 yX1_isList ∈ wt := wt_t (List.mem_of_getElem? (i := 66) (by decide +kernel)) rfl
theorem k_67 : Cond.static yX1_isList ∈ wt := wt_t (List.mem_of_getElem? (i := 67) (by decide +kernel)) rfl
theorem k_68 : Cond.code yX1_isList cX1_isList 1 (some .boolean) ∈ wt := wt_t (List.mem_of_getElem? (i := 68) (by decide +kernel)) rfl
theorem k_69 : Cond.methodLink RX1 44 yX1_isSetOf ∈ wt := wt_t (List.mem_of_getElem? (i := 69) (by decide +kernel)) rfl
theorem k_71 : Cond.instanceMethod yX1_isSetOf ∈ wt := wt_t (List.mem_of_getElem? (i := 71) (by decide +kernel)) rfl
theorem k_72 : Cond.code yX1_isSetOf cX1_isSetOf 4 (some .boolean) ∈ wt := wt_t (List.mem_of_getElem? (i := 72) (by decide +kernel)) rfl
theorem k_75 : Cond.instanceMethod yX0_isFull ∈ wt := wt_t (List.mem_of_getElem? (i := 75) (by decide +kernel)) rfl
theorem k_76 : Cond.code yX0_isFull cX0_isFull 1 (some .boolean) ∈ wt := wt_t (List.mem_of_getElem? (i := 76) (by decide +kernel)) rfl
theorem k_79 : Cond.instanceMethod yX0_add ∈ wt := wt_t (List.mem_of_getElem? (i := 79) (by decide +kernel)) rfl
theorem k_80 : Cond.code yX0_add cX0_add 3 none ∈ wt := wt_t (List.mem_of_getElem? (i := 80) (by decide +kernel)) rfl
theorem k_81 : Cond.methodLink RX0 20 yX0_isFull ∈ wt := wt_t (List.mem_of_getElem? (i := 81) (by decide +kernel)) rfl
theorem k_82 : Cond.methodLink RL 23 yX1_drop ∈ wt := wt_t (List.mem_of_getElem? (i := 82) (by decide +kernel)) rfl
theorem k_83 : Cond.instanceMethod yX1_drop ∈ wt := wt_t (List.mem_of_getElem? (i := 83) (by decide +kernel)) rfl
theorem k_84 : Cond.selects RX1 yX1_drop yX1_drop ∈ wt := wt_t (List.mem_of_getElem? (i := 84) (by decide +kernel)) rfl
theorem k_85 : Cond.code yX1_drop cX1_drop 2 (some .int) ∈ wt := wt_t (List.mem_of_getElem? (i := 85) (by decide +kernel)) rfl
theorem k_88 : Cond.instanceMethod yX0_removeLast ∈ wt := wt_t (List.mem_of_getElem? (i := 88) (by decide +kernel)) rfl
theorem k_89 : Cond.code yX0_removeLast cX0_removeLast 1 none ∈ wt := wt_t (List.mem_of_getElem? (i := 89) (by decide +kernel)) rfl
theorem k_90 : Cond.methodLink RL 28 yX1_switches ∈ wt := wt_t (List.mem_of_getElem? (i := 90) (by decide +kernel)) rfl
theorem k_91 : Cond.instanceMethod yX1_switches ∈ wt := wt_t (List.mem_of_getElem? (i := 91) (by decide +kernel)) rfl
theorem k_92 : Cond.selects RX1 yX1_switches yX1_switches ∈ wt := wt_t (List.mem_of_getElem? (i := 92) (by decide +kernel)) rfl
theorem k_93 : Cond.code yX1_switches cX1_switches 1 (some .int) ∈ wt := wt_t (List.mem_of_getElem? (i := 93) (by decide +kernel)) rfl
theorem k_94 : Cond.methodLink RL 33 yX1_count ∈ wt := wt_t (List.mem_of_getElem? (i := 94) (by decide +kernel)) rfl
theorem k_95 : Cond.instanceMethod yX1_count ∈ wt := wt_t (List.mem_of_getElem? (i := 95) (by decide +kernel)) rfl
theorem k_96 : Cond.selects RX1 yX1_count yX1_count ∈ wt := wt_t (List.mem_of_getElem? (i := 96) (by decide +kernel)) rfl
theorem k_97 : Cond.code yX1_count cX1_count 2 (some .int) ∈ wt := wt_t (List.mem_of_getElem? (i := 97) (by decide +kernel)) rfl
theorem k_98 : Cond.methodLink RL 37 yX1_holds ∈ wt := wt_t (List.mem_of_getElem? (i := 98) (by decide +kernel)) rfl
theorem k_99 : Cond.instanceMethod yX1_holds ∈ wt := wt_t (List.mem_of_getElem? (i := 99) (by decide +kernel)) rfl
theorem k_100 : Cond.selects RX1 yX1_holds yX1_holds ∈ wt := wt_t (List.mem_of_getElem? (i := 100) (by decide +kernel)) rfl
theorem k_101 : Cond.code yX1_holds cX1_holds 4 (some .boolean) ∈ wt := wt_t (List.mem_of_getElem? (i := 101) (by decide +kernel)) rfl
theorem k_102 : Cond.methodLink RX1 62 yX1_isState ∈ wt := wt_t (List.mem_of_getElem? (i := 102) (by decide +kernel)) rfl
theorem k_104 : Cond.instanceMethod yX1_isState ∈ wt := wt_t (List.mem_of_getElem? (i := 104) (by decide +kernel)) rfl
theorem k_105 : Cond.code yX1_isState cX1_isState 2 (some .boolean) ∈ wt := wt_t (List.mem_of_getElem? (i := 105) (by decide +kernel)) rfl
theorem k_106 : Cond.methodLink RX1 78 yX1_stateCount ∈ wt := wt_t (List.mem_of_getElem? (i := 106) (by decide +kernel)) rfl
theorem k_108 : Cond.instanceMethod yX1_stateCount ∈ wt := wt_t (List.mem_of_getElem? (i := 108) (by decide +kernel)) rfl
theorem k_109 : Cond.code yX1_stateCount cX1_stateCount 1 (some .int) ∈ wt := wt_t (List.mem_of_getElem? (i := 109) (by decide +kernel)) rfl
theorem k_110 : Cond.methodLink RX1 65 yX1_canGo ∈ wt := wt_t (List.mem_of_getElem? (i := 110) (by decide +kernel)) rfl
theorem k_112 : Cond.instanceMethod yX1_canGo ∈ wt := wt_t (List.mem_of_getElem? (i := 112) (by decide +kernel)) rfl
theorem k_113 : Cond.code yX1_canGo cX1_canGo 3 (some .boolean) ∈ wt := wt_t (List.mem_of_getElem? (i := 113) (by decide +kernel)) rfl
theorem k_116 : Cond.instanceMethod yX0_allHold ∈ wt := wt_t (List.mem_of_getElem? (i := 116) (by decide +kernel)) rfl
theorem k_117 : Cond.code yX0_allHold cX0_allHold 3 (some .boolean) ∈ wt := wt_t (List.mem_of_getElem? (i := 117) (by decide +kernel)) rfl
theorem k_118 : Cond.methodLink RX1 68 yX1_isIn ∈ wt := wt_t (List.mem_of_getElem? (i := 118) (by decide +kernel)) rfl
theorem k_120 : Cond.instanceMethod yX1_isIn ∈ wt := wt_t (List.mem_of_getElem? (i := 120) (by decide +kernel)) rfl
theorem k_121 : Cond.code yX1_isIn cX1_isIn 3 (some .boolean) ∈ wt := wt_t (List.mem_of_getElem? (i := 121) (by decide +kernel)) rfl
theorem k_122 : Cond.methodLink RL 42 yX1_safe ∈ wt := wt_t (List.mem_of_getElem? (i := 122) (by decide +kernel)) rfl
theorem k_123 : Cond.instanceMethod yX1_safe ∈ wt := wt_t (List.mem_of_getElem? (i := 123) (by decide +kernel)) rfl
theorem k_124 : Cond.selects RX1 yX1_safe yX1_safe ∈ wt := wt_t (List.mem_of_getElem? (i := 124) (by decide +kernel)) rfl
theorem k_125 : Cond.code yX1_safe cX1_safe 1 (some .boolean) ∈ wt := wt_t (List.mem_of_getElem? (i := 125) (by decide +kernel)) rfl
theorem k_126 : Cond.methodLink RX1 71 yX1_worst ∈ wt := wt_t (List.mem_of_getElem? (i := 126) (by decide +kernel)) rfl
theorem k_127 : Cond.instanceMethod yX1_worst ∈ wt := wt_t (List.mem_of_getElem? (i := 127) (by decide +kernel)) rfl
theorem k_128 : Cond.selects RX1 yX1_worst yX1_worst ∈ wt := wt_t (List.mem_of_getElem? (i := 128) (by decide +kernel)) rfl
theorem k_129 : Cond.code yX1_worst cX1_worst 2 (some .int) ∈ wt := wt_t (List.mem_of_getElem? (i := 129) (by decide +kernel)) rfl
theorem k_130 : Cond.methodLink RX1 75 yX1_findDepths ∈ wt := wt_t (List.mem_of_getElem? (i := 130) (by decide +kernel)) rfl
theorem k_132 : Cond.instanceMethod yX1_findDepths ∈ wt := wt_t (List.mem_of_getElem? (i := 132) (by decide +kernel)) rfl
theorem k_133 : Cond.code yX1_findDepths cX1_findDepths 2 none ∈ wt := wt_t (List.mem_of_getElem? (i := 133) (by decide +kernel)) rfl
theorem k_134 : Cond.methodLink RX1 94 yX1_goOnFrom ∈ wt := wt_t (List.mem_of_getElem? (i := 134) (by decide +kernel)) rfl
theorem k_136 : Cond.instanceMethod yX1_goOnFrom ∈ wt := wt_t (List.mem_of_getElem? (i := 136) (by decide +kernel)) rfl
theorem k_137 : Cond.code yX1_goOnFrom cX1_goOnFrom 3 none ∈ wt := wt_t (List.mem_of_getElem? (i := 137) (by decide +kernel)) rfl
theorem k_138 : Cond.methodLink RX1 98 yX1_goOnFromState ∈ wt := wt_t (List.mem_of_getElem? (i := 138) (by decide +kernel)) rfl
theorem k_140 : Cond.instanceMethod yX1_goOnFromState ∈ wt := wt_t (List.mem_of_getElem? (i := 140) (by decide +kernel)) rfl
theorem k_141 : Cond.code yX1_goOnFromState cX1_goOnFromState 3 none ∈ wt := wt_t (List.mem_of_getElem? (i := 141) (by decide +kernel)) rfl
theorem k_142 : Cond.methodLink RX1 81 yX1_isReachedBad ∈ wt := wt_t (List.mem_of_getElem? (i := 142) (by decide +kernel)) rfl
theorem k_144 : Cond.instanceMethod yX1_isReachedBad ∈ wt := wt_t (List.mem_of_getElem? (i := 144) (by decide +kernel)) rfl
theorem k_145 : Cond.code yX1_isReachedBad cX1_isReachedBad 2 (some .boolean) ∈ wt := wt_t (List.mem_of_getElem? (i := 145) (by decide +kernel)) rfl
theorem k_146 : Cond.methodLink RL 47 yX1_steps ∈ wt := wt_t (List.mem_of_getElem? (i := 146) (by decide +kernel)) rfl
theorem k_147 : Cond.instanceMethod yX1_steps ∈ wt := wt_t (List.mem_of_getElem? (i := 147) (by decide +kernel)) rfl
theorem k_148 : Cond.selects RX1 yX1_steps yX1_steps ∈ wt := wt_t (List.mem_of_getElem? (i := 148) (by decide +kernel)) rfl
theorem k_149 : Cond.code yX1_steps cX1_steps 3 (some .int) ∈ wt := wt_t (List.mem_of_getElem? (i := 149) (by decide +kernel)) rfl
theorem k_150 : Cond.methodLink RL 51 yX1_depth ∈ wt := wt_t (List.mem_of_getElem? (i := 150) (by decide +kernel)) rfl
theorem k_151 : Cond.instanceMethod yX1_depth ∈ wt := wt_t (List.mem_of_getElem? (i := 151) (by decide +kernel)) rfl
theorem k_152 : Cond.selects RX1 yX1_depth yX1_depth ∈ wt := wt_t (List.mem_of_getElem? (i := 152) (by decide +kernel)) rfl
theorem k_153 : Cond.code yX1_depth cX1_depth 2 (some .int) ∈ wt := wt_t (List.mem_of_getElem? (i := 153) (by decide +kernel)) rfl
theorem k_154 : Cond.methodLink RL 55 yX1_reached ∈ wt := wt_t (List.mem_of_getElem? (i := 154) (by decide +kernel)) rfl
theorem k_155 : Cond.instanceMethod yX1_reached ∈ wt := wt_t (List.mem_of_getElem? (i := 155) (by decide +kernel)) rfl
theorem k_156 : Cond.selects RX1 yX1_reached yX1_reached ∈ wt := wt_t (List.mem_of_getElem? (i := 156) (by decide +kernel)) rfl
theorem k_157 : Cond.code yX1_reached cX1_reached 3 (some .int) ∈ wt := wt_t (List.mem_of_getElem? (i := 157) (by decide +kernel)) rfl
theorem k_158 : Cond.methodLink RL 59 yX1_worst ∈ wt := wt_t (List.mem_of_getElem? (i := 158) (by decide +kernel)) rfl
theorem k_159 : Cond.methodLink RL 63 yX1_check ∈ wt := wt_t (List.mem_of_getElem? (i := 159) (by decide +kernel)) rfl
theorem k_160 : Cond.instanceMethod yX1_check ∈ wt := wt_t (List.mem_of_getElem? (i := 160) (by decide +kernel)) rfl
theorem k_161 : Cond.selects RX1 yX1_check yX1_check ∈ wt := wt_t (List.mem_of_getElem? (i := 161) (by decide +kernel)) rfl
theorem k_162 : Cond.code yX1_check cX1_check 2 (some .int) ∈ wt := wt_t (List.mem_of_getElem? (i := 162) (by decide +kernel)) rfl
theorem k_163 : Cond.methodLink RX1 84 yX1_leastBreaking ∈ wt := wt_t (List.mem_of_getElem? (i := 163) (by decide +kernel)) rfl
theorem k_165 : Cond.instanceMethod yX1_leastBreaking ∈ wt := wt_t (List.mem_of_getElem? (i := 165) (by decide +kernel)) rfl
theorem k_166 : Cond.code yX1_leastBreaking cX1_leastBreaking 3 (some .int) ∈ wt := wt_t (List.mem_of_getElem? (i := 166) (by decide +kernel)) rfl
theorem k_167 : Cond.methodLink RX1 101 yX1_breaks ∈ wt := wt_t (List.mem_of_getElem? (i := 167) (by decide +kernel)) rfl
theorem k_169 : Cond.instanceMethod yX1_breaks ∈ wt := wt_t (List.mem_of_getElem? (i := 169) (by decide +kernel)) rfl
theorem k_170 : Cond.code yX1_breaks cX1_breaks 3 (some .boolean) ∈ wt := wt_t (List.mem_of_getElem? (i := 170) (by decide +kernel)) rfl
theorem k_171 : Cond.methodLink RX1 104 yX1_canLeaveClaim ∈ wt := wt_t (List.mem_of_getElem? (i := 171) (by decide +kernel)) rfl
theorem k_173 : Cond.instanceMethod yX1_canLeaveClaim ∈ wt := wt_t (List.mem_of_getElem? (i := 173) (by decide +kernel)) rfl
theorem k_174 : Cond.code yX1_canLeaveClaim cX1_canLeaveClaim 3 (some .boolean) ∈ wt := wt_t (List.mem_of_getElem? (i := 174) (by decide +kernel)) rfl
theorem k_175 : Cond.methodLink RL 67 yX1_flaw ∈ wt := wt_t (List.mem_of_getElem? (i := 175) (by decide +kernel)) rfl
theorem k_176 : Cond.instanceMethod yX1_flaw ∈ wt := wt_t (List.mem_of_getElem? (i := 176) (by decide +kernel)) rfl
theorem k_177 : Cond.selects RX1 yX1_flaw yX1_flaw ∈ wt := wt_t (List.mem_of_getElem? (i := 177) (by decide +kernel)) rfl
theorem k_178 : Cond.code yX1_flaw cX1_flaw 2 (some .int) ∈ wt := wt_t (List.mem_of_getElem? (i := 178) (by decide +kernel)) rfl
theorem k_179 : Cond.methodLink RX1 88 yX1_check ∈ wt := wt_t (List.mem_of_getElem? (i := 179) (by decide +kernel)) rfl
theorem k_180 : Cond.methodLink RL 71 yX1_walk ∈ wt := wt_t (List.mem_of_getElem? (i := 180) (by decide +kernel)) rfl
theorem k_181 : Cond.instanceMethod yX1_walk ∈ wt := wt_t (List.mem_of_getElem? (i := 181) (by decide +kernel)) rfl
theorem k_182 : Cond.selects RX1 yX1_walk yX1_walk ∈ wt := wt_t (List.mem_of_getElem? (i := 182) (by decide +kernel)) rfl
theorem k_183 : Cond.code yX1_walk cX1_walk 3 (some .int) ∈ wt := wt_t (List.mem_of_getElem? (i := 183) (by decide +kernel)) rfl
theorem k_184 : Cond.methodLink RL 75 yX1_arrives ∈ wt := wt_t (List.mem_of_getElem? (i := 184) (by decide +kernel)) rfl
theorem k_185 : Cond.instanceMethod yX1_arrives ∈ wt := wt_t (List.mem_of_getElem? (i := 185) (by decide +kernel)) rfl
theorem k_186 : Cond.selects RX1 yX1_arrives yX1_arrives ∈ wt := wt_t (List.mem_of_getElem? (i := 186) (by decide +kernel)) rfl
theorem k_187 : Cond.code yX1_arrives cX1_arrives 1 (some .boolean) ∈ wt := wt_t (List.mem_of_getElem? (i := 187) (by decide +kernel)) rfl
theorem k_188 : Cond.classLink RL 10 RX2 ∈ wt := wt_t (List.mem_of_getElem? (i := 188) (by decide +kernel)) rfl
theorem k_189 : Cond.instantiable RX2 7 ∈ wt := wt_t (List.mem_of_getElem? (i := 189) (by decide +kernel)) rfl
theorem k_190 : Cond.methodLink RL 12 yX2_init ∈ wt := wt_t (List.mem_of_getElem? (i := 190) (by decide +kernel)) rfl
theorem k_191 : Cond.instanceMethod yX2_init ∈ wt := wt_t (List.mem_of_getElem? (i := 191) (by decide +kernel)) rfl
theorem k_192 : Cond.code yX2_init cX2_init 1 none ∈ wt := wt_t (List.mem_of_getElem? (i := 192) (by decide +kernel)) rfl
theorem k_193 : Cond.methodLink RX2 1 objectInit ∈ wt := wt_t (List.mem_of_getElem? (i := 193) (by decide +kernel)) rfl
theorem k_194 : Cond.fieldLink RX2 7 "ReachProverModel" "n" "I" ∈ wt := wt_t (List.mem_of_getElem? (i := 194) (by decide +kernel)) rfl
theorem k_195 : Cond.fieldLink RX2 13 "ReachProverModel" "counts" "[I" ∈ wt := wt_t (List.mem_of_getElem? (i := 195) (by decide +kernel)) rfl
theorem k_196 : Cond.fieldLink RX2 17 "ReachProverModel" "plus" "[I" ∈ wt := wt_t (List.mem_of_getElem? (i := 196) (by decide +kernel)) rfl
theorem k_197 : Cond.fieldLink RX2 20 "ReachProverModel" "minus" "[I" ∈ wt := wt_t (List.mem_of_getElem? (i := 197) (by decide +kernel)) rfl
theorem k_198 : Cond.fieldLink RX2 23 "ReachProverModel" "path" "[I" ∈ wt := wt_t (List.mem_of_getElem? (i := 198) (by decide +kernel)) rfl
theorem k_199 : Cond.fieldLink RX2 33 "ReachProverModel" "length" "I" ∈ wt := wt_t (List.mem_of_getElem? (i := 199) (by decide +kernel)) rfl
theorem k_200 : Cond.fieldLink RX2 26 "ReachProverModel" "depths" "[I" ∈ wt := wt_t (List.mem_of_getElem? (i := 200) (by decide +kernel)) rfl
theorem k_216 : Cond.methodLink RL 17 yX2_begin ∈ wt := wt_t (List.mem_of_getElem? (i := 216) (by decide +kernel)) rfl
theorem k_217 : Cond.instanceMethod yX2_begin ∈ wt := wt_t (List.mem_of_getElem? (i := 217) (by decide +kernel)) rfl
theorem k_218 : Cond.selects RX2 yX2_begin yX2_begin ∈ wt := wt_t (List.mem_of_getElem? (i := 218) (by decide +kernel)) rfl
theorem k_219 : Cond.code yX2_begin cX2_begin 3 (some .boolean) ∈ wt := wt_t (List.mem_of_getElem? (i := 219) (by decide +kernel)) rfl
theorem k_220 : Cond.methodLink RL 22 yX2_clause ∈ wt := wt_t (List.mem_of_getElem? (i := 220) (by decide +kernel)) rfl
theorem k_221 : Cond.instanceMethod yX2_clause ∈ wt := wt_t (List.mem_of_getElem? (i := 221) (by decide +kernel)) rfl
theorem k_222 : Cond.selects RX2 yX2_clause yX2_clause ∈ wt := wt_t (List.mem_of_getElem? (i := 222) (by decide +kernel)) rfl
theorem k_223 : Cond.code yX2_clause cX2_clause 6 (some .int) ∈ wt := wt_t (List.mem_of_getElem? (i := 223) (by decide +kernel)) rfl
theorem k_224 : Cond.methodLink RX2 36 yX2_isList ∈ wt := wt_t (List.mem_of_getElem? (i := 224) (by decide +kernel)) rfl
theorem k_225 : Cond.static yX2_isList ∈ wt := wt_t (List.mem_of_getElem? (i := 225) (by decide +kernel)) rfl
theorem k_226 : Cond.code yX2_isList cX2_isList 1 (some .boolean) ∈ wt := wt_t (List.mem_of_getElem? (i := 226) (by decide +kernel)) rfl
theorem k_227 : Cond.methodLink RL 27 yX2_drop ∈ wt := wt_t (List.mem_of_getElem? (i := 227) (by decide +kernel)) rfl
theorem k_228 : Cond.instanceMethod yX2_drop ∈ wt := wt_t (List.mem_of_getElem? (i := 228) (by decide +kernel)) rfl
theorem k_229 : Cond.selects RX2 yX2_drop yX2_drop ∈ wt := wt_t (List.mem_of_getElem? (i := 229) (by decide +kernel)) rfl
theorem k_230 : Cond.code yX2_drop cX2_drop 2 (some .int) ∈ wt := wt_t (List.mem_of_getElem? (i := 230) (by decide +kernel)) rfl
theorem k_231 : Cond.methodLink RL 32 yX2_switches ∈ wt := wt_t (List.mem_of_getElem? (i := 231) (by decide +kernel)) rfl
theorem k_232 : Cond.instanceMethod yX2_switches ∈ wt := wt_t (List.mem_of_getElem? (i := 232) (by decide +kernel)) rfl
theorem k_233 : Cond.selects RX2 yX2_switches yX2_switches ∈ wt := wt_t (List.mem_of_getElem? (i := 233) (by decide +kernel)) rfl
theorem k_234 : Cond.code yX2_switches cX2_switches 1 (some .int) ∈ wt := wt_t (List.mem_of_getElem? (i := 234) (by decide +kernel)) rfl
theorem k_235 : Cond.methodLink RL 36 yX2_count ∈ wt := wt_t (List.mem_of_getElem? (i := 235) (by decide +kernel)) rfl
theorem k_236 : Cond.instanceMethod yX2_count ∈ wt := wt_t (List.mem_of_getElem? (i := 236) (by decide +kernel)) rfl
theorem k_237 : Cond.selects RX2 yX2_count yX2_count ∈ wt := wt_t (List.mem_of_getElem? (i := 237) (by decide +kernel)) rfl
theorem k_238 : Cond.code yX2_count cX2_count 2 (some .int) ∈ wt := wt_t (List.mem_of_getElem? (i := 238) (by decide +kernel)) rfl
theorem k_239 : Cond.methodLink RL 41 yX2_holds ∈ wt := wt_t (List.mem_of_getElem? (i := 239) (by decide +kernel)) rfl
theorem k_240 : Cond.instanceMethod yX2_holds ∈ wt := wt_t (List.mem_of_getElem? (i := 240) (by decide +kernel)) rfl
theorem k_241 : Cond.selects RX2 yX2_holds yX2_holds ∈ wt := wt_t (List.mem_of_getElem? (i := 241) (by decide +kernel)) rfl
theorem k_242 : Cond.code yX2_holds cX2_holds 4 (some .boolean) ∈ wt := wt_t (List.mem_of_getElem? (i := 242) (by decide +kernel)) rfl
theorem k_243 : Cond.methodLink RX2 44 yX2_isState ∈ wt := wt_t (List.mem_of_getElem? (i := 243) (by decide +kernel)) rfl
theorem k_245 : Cond.instanceMethod yX2_isState ∈ wt := wt_t (List.mem_of_getElem? (i := 245) (by decide +kernel)) rfl
theorem k_246 : Cond.code yX2_isState cX2_isState 2 (some .boolean) ∈ wt := wt_t (List.mem_of_getElem? (i := 246) (by decide +kernel)) rfl
theorem k_247 : Cond.methodLink RX2 29 yX2_states ∈ wt := wt_t (List.mem_of_getElem? (i := 247) (by decide +kernel)) rfl
theorem k_249 : Cond.instanceMethod yX2_states ∈ wt := wt_t (List.mem_of_getElem? (i := 249) (by decide +kernel)) rfl
theorem k_250 : Cond.code yX2_states cX2_states 1 (some .int) ∈ wt := wt_t (List.mem_of_getElem? (i := 250) (by decide +kernel)) rfl
theorem k_251 : Cond.methodLink RX2 47 yX2_leads ∈ wt := wt_t (List.mem_of_getElem? (i := 251) (by decide +kernel)) rfl
theorem k_253 : Cond.instanceMethod yX2_leads ∈ wt := wt_t (List.mem_of_getElem? (i := 253) (by decide +kernel)) rfl
theorem k_254 : Cond.code yX2_leads cX2_leads 3 (some .boolean) ∈ wt := wt_t (List.mem_of_getElem? (i := 254) (by decide +kernel)) rfl
theorem k_255 : Cond.methodLink RX2 40 yX2_isSo ∈ wt := wt_t (List.mem_of_getElem? (i := 255) (by decide +kernel)) rfl
theorem k_257 : Cond.instanceMethod yX2_isSo ∈ wt := wt_t (List.mem_of_getElem? (i := 257) (by decide +kernel)) rfl
theorem k_258 : Cond.code yX2_isSo cX2_isSo 8 (some .boolean) ∈ wt := wt_t (List.mem_of_getElem? (i := 258) (by decide +kernel)) rfl
theorem k_259 : Cond.methodLink RL 50 yX2_steps ∈ wt := wt_t (List.mem_of_getElem? (i := 259) (by decide +kernel)) rfl
theorem k_260 : Cond.instanceMethod yX2_steps ∈ wt := wt_t (List.mem_of_getElem? (i := 260) (by decide +kernel)) rfl
theorem k_261 : Cond.selects RX2 yX2_steps yX2_steps ∈ wt := wt_t (List.mem_of_getElem? (i := 261) (by decide +kernel)) rfl
theorem k_262 : Cond.code yX2_steps cX2_steps 3 (some .int) ∈ wt := wt_t (List.mem_of_getElem? (i := 262) (by decide +kernel)) rfl
theorem k_263 : Cond.methodLink RX2 50 yX2_explore ∈ wt := wt_t (List.mem_of_getElem? (i := 263) (by decide +kernel)) rfl
theorem k_265 : Cond.instanceMethod yX2_explore ∈ wt := wt_t (List.mem_of_getElem? (i := 265) (by decide +kernel)) rfl
theorem k_266 : Cond.code yX2_explore cX2_explore 5 none ∈ wt := wt_t (List.mem_of_getElem? (i := 266) (by decide +kernel)) rfl
theorem k_267 : Cond.methodLink RL 46 yX2_safe ∈ wt := wt_t (List.mem_of_getElem? (i := 267) (by decide +kernel)) rfl
theorem k_268 : Cond.instanceMethod yX2_safe ∈ wt := wt_t (List.mem_of_getElem? (i := 268) (by decide +kernel)) rfl
theorem k_269 : Cond.selects RX2 yX2_safe yX2_safe ∈ wt := wt_t (List.mem_of_getElem? (i := 269) (by decide +kernel)) rfl
theorem k_270 : Cond.code yX2_safe cX2_safe 1 (some .boolean) ∈ wt := wt_t (List.mem_of_getElem? (i := 270) (by decide +kernel)) rfl
theorem k_271 : Cond.methodLink RX2 53 yX2_steps ∈ wt := wt_t (List.mem_of_getElem? (i := 271) (by decide +kernel)) rfl
theorem k_272 : Cond.methodLink RL 54 yX2_depth ∈ wt := wt_t (List.mem_of_getElem? (i := 272) (by decide +kernel)) rfl
theorem k_273 : Cond.instanceMethod yX2_depth ∈ wt := wt_t (List.mem_of_getElem? (i := 273) (by decide +kernel)) rfl
theorem k_274 : Cond.selects RX2 yX2_depth yX2_depth ∈ wt := wt_t (List.mem_of_getElem? (i := 274) (by decide +kernel)) rfl
theorem k_275 : Cond.code yX2_depth cX2_depth 2 (some .int) ∈ wt := wt_t (List.mem_of_getElem? (i := 275) (by decide +kernel)) rfl
theorem k_276 : Cond.methodLink RL 58 yX2_reached ∈ wt := wt_t (List.mem_of_getElem? (i := 276) (by decide +kernel)) rfl
theorem k_277 : Cond.instanceMethod yX2_reached ∈ wt := wt_t (List.mem_of_getElem? (i := 277) (by decide +kernel)) rfl
theorem k_278 : Cond.selects RX2 yX2_reached yX2_reached ∈ wt := wt_t (List.mem_of_getElem? (i := 278) (by decide +kernel)) rfl
theorem k_279 : Cond.code yX2_reached cX2_reached 3 (some .int) ∈ wt := wt_t (List.mem_of_getElem? (i := 279) (by decide +kernel)) rfl
theorem k_280 : Cond.methodLink RL 62 yX2_worst ∈ wt := wt_t (List.mem_of_getElem? (i := 280) (by decide +kernel)) rfl
theorem k_281 : Cond.instanceMethod yX2_worst ∈ wt := wt_t (List.mem_of_getElem? (i := 281) (by decide +kernel)) rfl
theorem k_282 : Cond.selects RX2 yX2_worst yX2_worst ∈ wt := wt_t (List.mem_of_getElem? (i := 282) (by decide +kernel)) rfl
theorem k_283 : Cond.code yX2_worst cX2_worst 2 (some .int) ∈ wt := wt_t (List.mem_of_getElem? (i := 283) (by decide +kernel)) rfl
theorem k_284 : Cond.methodLink RL 66 yX2_check ∈ wt := wt_t (List.mem_of_getElem? (i := 284) (by decide +kernel)) rfl
theorem k_285 : Cond.instanceMethod yX2_check ∈ wt := wt_t (List.mem_of_getElem? (i := 285) (by decide +kernel)) rfl
theorem k_286 : Cond.selects RX2 yX2_check yX2_check ∈ wt := wt_t (List.mem_of_getElem? (i := 286) (by decide +kernel)) rfl
theorem k_287 : Cond.code yX2_check cX2_check 2 (some .int) ∈ wt := wt_t (List.mem_of_getElem? (i := 287) (by decide +kernel)) rfl
theorem k_288 : Cond.methodLink RX2 59 yX2_least ∈ wt := wt_t (List.mem_of_getElem? (i := 288) (by decide +kernel)) rfl
theorem k_290 : Cond.instanceMethod yX2_least ∈ wt := wt_t (List.mem_of_getElem? (i := 290) (by decide +kernel)) rfl
theorem k_291 : Cond.code yX2_least cX2_least 5 (some .int) ∈ wt := wt_t (List.mem_of_getElem? (i := 291) (by decide +kernel)) rfl
theorem k_292 : Cond.methodLink RX2 56 yX2_escapes ∈ wt := wt_t (List.mem_of_getElem? (i := 292) (by decide +kernel)) rfl
theorem k_294 : Cond.instanceMethod yX2_escapes ∈ wt := wt_t (List.mem_of_getElem? (i := 294) (by decide +kernel)) rfl
theorem k_295 : Cond.code yX2_escapes cX2_escapes 4 (some .boolean) ∈ wt := wt_t (List.mem_of_getElem? (i := 295) (by decide +kernel)) rfl
theorem k_296 : Cond.methodLink RL 70 yX2_flaw ∈ wt := wt_t (List.mem_of_getElem? (i := 296) (by decide +kernel)) rfl
theorem k_297 : Cond.instanceMethod yX2_flaw ∈ wt := wt_t (List.mem_of_getElem? (i := 297) (by decide +kernel)) rfl
theorem k_298 : Cond.selects RX2 yX2_flaw yX2_flaw ∈ wt := wt_t (List.mem_of_getElem? (i := 298) (by decide +kernel)) rfl
theorem k_299 : Cond.code yX2_flaw cX2_flaw 2 (some .int) ∈ wt := wt_t (List.mem_of_getElem? (i := 299) (by decide +kernel)) rfl
theorem k_300 : Cond.methodLink RX2 63 yX2_check ∈ wt := wt_t (List.mem_of_getElem? (i := 300) (by decide +kernel)) rfl
theorem k_301 : Cond.methodLink RL 74 yX2_walk ∈ wt := wt_t (List.mem_of_getElem? (i := 301) (by decide +kernel)) rfl
theorem k_302 : Cond.instanceMethod yX2_walk ∈ wt := wt_t (List.mem_of_getElem? (i := 302) (by decide +kernel)) rfl
theorem k_303 : Cond.selects RX2 yX2_walk yX2_walk ∈ wt := wt_t (List.mem_of_getElem? (i := 303) (by decide +kernel)) rfl
theorem k_304 : Cond.code yX2_walk cX2_walk 3 (some .int) ∈ wt := wt_t (List.mem_of_getElem? (i := 304) (by decide +kernel)) rfl
theorem k_305 : Cond.methodLink RL 78 yX2_arrives ∈ wt := wt_t (List.mem_of_getElem? (i := 305) (by decide +kernel)) rfl
theorem k_306 : Cond.instanceMethod yX2_arrives ∈ wt := wt_t (List.mem_of_getElem? (i := 306) (by decide +kernel)) rfl
theorem k_307 : Cond.selects RX2 yX2_arrives yX2_arrives ∈ wt := wt_t (List.mem_of_getElem? (i := 307) (by decide +kernel)) rfl
theorem k_308 : Cond.code yX2_arrives cX2_arrives 1 (some .boolean) ∈ wt := wt_t (List.mem_of_getElem? (i := 308) (by decide +kernel)) rfl
theorem ks_0 : Cond.selects RX0 yX0_removeAll yX0_removeAll ∈ wt := wt_s (List.mem_of_getElem? (i := 0) (by decide +kernel)) rfl
theorem ks_1 : Cond.selects RX1 yX1_forgetWhatFollowed yX1_forgetWhatFollowed ∈ wt := wt_s (List.mem_of_getElem? (i := 1) (by decide +kernel)) rfl
theorem ks_2 : Cond.selects RX1 yX1_isSetOf yX1_isSetOf ∈ wt := wt_s (List.mem_of_getElem? (i := 2) (by decide +kernel)) rfl
theorem ks_3 : Cond.selects RX0 yX0_isFull yX0_isFull ∈ wt := wt_s (List.mem_of_getElem? (i := 3) (by decide +kernel)) rfl
theorem ks_4 : Cond.selects RX0 yX0_add yX0_add ∈ wt := wt_s (List.mem_of_getElem? (i := 4) (by decide +kernel)) rfl
theorem ks_5 : Cond.selects RX0 yX0_removeLast yX0_removeLast ∈ wt := wt_s (List.mem_of_getElem? (i := 5) (by decide +kernel)) rfl
theorem ks_6 : Cond.selects RX1 yX1_isState yX1_isState ∈ wt := wt_s (List.mem_of_getElem? (i := 6) (by decide +kernel)) rfl
theorem ks_7 : Cond.selects RX1 yX1_stateCount yX1_stateCount ∈ wt := wt_s (List.mem_of_getElem? (i := 7) (by decide +kernel)) rfl
theorem ks_8 : Cond.selects RX1 yX1_canGo yX1_canGo ∈ wt := wt_s (List.mem_of_getElem? (i := 8) (by decide +kernel)) rfl
theorem ks_9 : Cond.selects RX0 yX0_allHold yX0_allHold ∈ wt := wt_s (List.mem_of_getElem? (i := 9) (by decide +kernel)) rfl
theorem ks_10 : Cond.selects RX1 yX1_isIn yX1_isIn ∈ wt := wt_s (List.mem_of_getElem? (i := 10) (by decide +kernel)) rfl
theorem ks_11 : Cond.selects RX1 yX1_findDepths yX1_findDepths ∈ wt := wt_s (List.mem_of_getElem? (i := 11) (by decide +kernel)) rfl
theorem ks_12 : Cond.selects RX1 yX1_goOnFrom yX1_goOnFrom ∈ wt := wt_s (List.mem_of_getElem? (i := 12) (by decide +kernel)) rfl
theorem ks_13 : Cond.selects RX1 yX1_goOnFromState yX1_goOnFromState ∈ wt := wt_s (List.mem_of_getElem? (i := 13) (by decide +kernel)) rfl
theorem ks_14 : Cond.selects RX1 yX1_isReachedBad yX1_isReachedBad ∈ wt := wt_s (List.mem_of_getElem? (i := 14) (by decide +kernel)) rfl
theorem ks_15 : Cond.selects RX1 yX1_leastBreaking yX1_leastBreaking ∈ wt := wt_s (List.mem_of_getElem? (i := 15) (by decide +kernel)) rfl
theorem ks_16 : Cond.selects RX1 yX1_breaks yX1_breaks ∈ wt := wt_s (List.mem_of_getElem? (i := 16) (by decide +kernel)) rfl
theorem ks_17 : Cond.selects RX1 yX1_canLeaveClaim yX1_canLeaveClaim ∈ wt := wt_s (List.mem_of_getElem? (i := 17) (by decide +kernel)) rfl
theorem ks_18 : Cond.selects RX2 yX2_isState yX2_isState ∈ wt := wt_s (List.mem_of_getElem? (i := 18) (by decide +kernel)) rfl
theorem ks_19 : Cond.selects RX2 yX2_states yX2_states ∈ wt := wt_s (List.mem_of_getElem? (i := 19) (by decide +kernel)) rfl
theorem ks_20 : Cond.selects RX2 yX2_leads yX2_leads ∈ wt := wt_s (List.mem_of_getElem? (i := 20) (by decide +kernel)) rfl
theorem ks_21 : Cond.selects RX2 yX2_isSo yX2_isSo ∈ wt := wt_s (List.mem_of_getElem? (i := 21) (by decide +kernel)) rfl
theorem ks_22 : Cond.selects RX2 yX2_explore yX2_explore ∈ wt := wt_s (List.mem_of_getElem? (i := 22) (by decide +kernel)) rfl
theorem ks_23 : Cond.selects RX2 yX2_least yX2_least ∈ wt := wt_s (List.mem_of_getElem? (i := 23) (by decide +kernel)) rfl
theorem ks_24 : Cond.selects RX2 yX2_escapes yX2_escapes ∈ wt := wt_s (List.mem_of_getElem? (i := 24) (by decide +kernel)) rfl
end
section
theorem dX1_init_0 : decode cX1_init 0 = .ok (.aload_n 0, 1) := by decide +kernel
theorem dX1_init_1 : decode cX1_init 1 = .ok (.invokespecial 3, 3) := by decide +kernel
theorem dX1_init_4 : decode cX1_init 4 = .ok (.aload_n 0, 1) := by decide +kernel
theorem dX1_init_5 : decode cX1_init 5 = .ok (.iconst 4, 1) := by decide +kernel
theorem dX1_init_6 : decode cX1_init 6 = .ok (.anewarray 9, 3) := by decide +kernel
theorem dX1_init_9 : decode cX1_init 9 = .ok (.putfield 11, 3) := by decide +kernel
theorem dX1_init_12 : decode cX1_init 12 = .ok (.iconst 0, 1) := by decide +kernel
theorem dX1_init_13 : decode cX1_init 13 = .ok (.istore_n 1, 1) := by decide +kernel
theorem dX1_init_14 : decode cX1_init 14 = .ok (.iload_n 1, 1) := by decide +kernel
theorem dX1_init_15 : decode cX1_init 15 = .ok (.iconst 4, 1) := by decide +kernel
theorem dX1_init_16 : decode cX1_init 16 = .ok (.if_icmp .ge 22, 3) := by decide +kernel
theorem dX1_init_19 : decode cX1_init 19 = .ok (.aload_n 0, 1) := by decide +kernel
theorem dX1_init_20 : decode cX1_init 20 = .ok (.getfield 11, 3) := by decide +kernel
theorem dX1_init_23 : decode cX1_init 23 = .ok (.iload_n 1, 1) := by decide +kernel
theorem dX1_init_24 : decode cX1_init 24 = .ok (.new 9, 3) := by decide +kernel
theorem dX1_init_27 : decode cX1_init 27 = .ok (.dup, 1) := by decide +kernel
theorem dX1_init_28 : decode cX1_init 28 = .ok (.invokespecial 15, 3) := by decide +kernel
theorem dX1_init_31 : decode cX1_init 31 = .ok (.aastore, 1) := by decide +kernel
theorem dX1_init_32 : decode cX1_init 32 = .ok (.iinc 1 1, 3) := by decide +kernel
theorem dX1_init_35 : decode cX1_init 35 = .ok (.goto (-21), 3) := by decide +kernel
theorem dX1_init_38 : decode cX1_init 38 = .ok (.aload_n 0, 1) := by decide +kernel
theorem dX1_init_39 : decode cX1_init 39 = .ok (.bipush 64, 2) := by decide +kernel
theorem dX1_init_41 : decode cX1_init 41 = .ok (.newarray .int, 2) := by decide +kernel
theorem dX1_init_43 : decode cX1_init 43 = .ok (.putfield 16, 3) := by decide +kernel
theorem dX1_init_46 : decode cX1_init 46 = .ok (.aload_n 0, 1) := by decide +kernel
theorem dX1_init_47 : decode cX1_init 47 = .ok (.iconst 0, 1) := by decide +kernel
theorem dX1_init_48 : decode cX1_init 48 = .ok (.putfield 20, 3) := by decide +kernel
theorem dX1_init_51 : decode cX1_init 51 = .ok (.aload_n 0, 1) := by decide +kernel
theorem dX1_init_52 : decode cX1_init 52 = .ok (.iconst 1, 1) := by decide +kernel
theorem dX1_init_53 : decode cX1_init 53 = .ok (.putfield 24, 3) := by decide +kernel
theorem dX1_init_56 : decode cX1_init 56 = .ok (.aload_n 0, 1) := by decide +kernel
theorem dX1_init_57 : decode cX1_init 57 = .ok (.iconst 0, 1) := by decide +kernel
theorem dX1_init_58 : decode cX1_init 58 = .ok (.putfield 28, 3) := by decide +kernel
theorem dX1_init_61 : decode cX1_init 61 = .ok (.aload_n 0, 1) := by decide +kernel
theorem dX1_init_62 : decode cX1_init 62 = .ok (.iconst 0, 1) := by decide +kernel
theorem dX1_init_63 : decode cX1_init 63 = .ok (.putfield 31, 3) := by decide +kernel
theorem dX1_init_66 : decode cX1_init 66 = .ok (.return_, 1) := by decide +kernel
theorem dX1_begin_0 : decode cX1_begin 0 = .ok (.iload_n 1, 1) := by decide +kernel
theorem dX1_begin_1 : decode cX1_begin 1 = .ok (.iconst 1, 1) := by decide +kernel
theorem dX1_begin_2 : decode cX1_begin 2 = .ok (.if_icmp .lt 9, 3) := by decide +kernel
theorem dX1_begin_5 : decode cX1_begin 5 = .ok (.iload_n 1, 1) := by decide +kernel
theorem dX1_begin_6 : decode cX1_begin 6 = .ok (.bipush 6, 2) := by decide +kernel
theorem dX1_begin_8 : decode cX1_begin 8 = .ok (.if_icmp .le 5, 3) := by decide +kernel
theorem dX1_begin_11 : decode cX1_begin 11 = .ok (.iconst 0, 1) := by decide +kernel
theorem dX1_begin_12 : decode cX1_begin 12 = .ok (.ireturn, 1) := by decide +kernel
theorem dX1_begin_13 : decode cX1_begin 13 = .ok (.aload_n 0, 1) := by decide +kernel
theorem dX1_begin_14 : decode cX1_begin 14 = .ok (.iload_n 1, 1) := by decide +kernel
theorem dX1_begin_15 : decode cX1_begin 15 = .ok (.putfield 24, 3) := by decide +kernel
theorem dX1_begin_18 : decode cX1_begin 18 = .ok (.iconst 0, 1) := by decide +kernel
theorem dX1_begin_19 : decode cX1_begin 19 = .ok (.istore_n 2, 1) := by decide +kernel
theorem dX1_begin_20 : decode cX1_begin 20 = .ok (.iload_n 2, 1) := by decide +kernel
theorem dX1_begin_21 : decode cX1_begin 21 = .ok (.iconst 4, 1) := by decide +kernel
theorem dX1_begin_22 : decode cX1_begin 22 = .ok (.if_icmp .ge 18, 3) := by decide +kernel
theorem dX1_begin_25 : decode cX1_begin 25 = .ok (.aload_n 0, 1) := by decide +kernel
theorem dX1_begin_26 : decode cX1_begin 26 = .ok (.getfield 11, 3) := by decide +kernel
theorem dX1_begin_29 : decode cX1_begin 29 = .ok (.iload_n 2, 1) := by decide +kernel
theorem dX1_begin_30 : decode cX1_begin 30 = .ok (.aaload, 1) := by decide +kernel
theorem dX1_begin_31 : decode cX1_begin 31 = .ok (.invokevirtual 34, 3) := by decide +kernel
theorem dX1_begin_34 : decode cX1_begin 34 = .ok (.iinc 2 1, 3) := by decide +kernel
theorem dX1_begin_37 : decode cX1_begin 37 = .ok (.goto (-17), 3) := by decide +kernel
theorem dX1_begin_40 : decode cX1_begin 40 = .ok (.aload_n 0, 1) := by decide +kernel
theorem dX1_begin_41 : decode cX1_begin 41 = .ok (.invokevirtual 37, 3) := by decide +kernel
theorem dX1_begin_44 : decode cX1_begin 44 = .ok (.iconst 1, 1) := by decide +kernel
theorem dX1_begin_45 : decode cX1_begin 45 = .ok (.ireturn, 1) := by decide +kernel
theorem dX1_clause_0 : decode cX1_clause 0 = .ok (.iload_n 1, 1) := by decide +kernel
theorem dX1_clause_1 : decode cX1_clause 1 = .ok (.invokestatic 40, 3) := by decide +kernel
theorem dX1_clause_4 : decode cX1_clause 4 = .ok (.ifCond .eq 33, 3) := by decide +kernel
theorem dX1_clause_7 : decode cX1_clause 7 = .ok (.aload_n 0, 1) := by decide +kernel
theorem dX1_clause_8 : decode cX1_clause 8 = .ok (.iload_n 1, 1) := by decide +kernel
theorem dX1_clause_9 : decode cX1_clause 9 = .ok (.iload_n 2, 1) := by decide +kernel
theorem dX1_clause_10 : decode cX1_clause 10 = .ok (.invokevirtual 44, 3) := by decide +kernel
theorem dX1_clause_13 : decode cX1_clause 13 = .ok (.ifCond .eq 24, 3) := by decide +kernel
theorem dX1_clause_16 : decode cX1_clause 16 = .ok (.aload_n 0, 1) := by decide +kernel
theorem dX1_clause_17 : decode cX1_clause 17 = .ok (.iload_n 1, 1) := by decide +kernel
theorem dX1_clause_18 : decode cX1_clause 18 = .ok (.iload_n 3, 1) := by decide +kernel
theorem dX1_clause_19 : decode cX1_clause 19 = .ok (.invokevirtual 44, 3) := by decide +kernel
theorem dX1_clause_22 : decode cX1_clause 22 = .ok (.ifCond .eq 15, 3) := by decide +kernel
theorem dX1_clause_25 : decode cX1_clause 25 = .ok (.aload_n 0, 1) := by decide +kernel
theorem dX1_clause_26 : decode cX1_clause 26 = .ok (.getfield 11, 3) := by decide +kernel
theorem dX1_clause_29 : decode cX1_clause 29 = .ok (.iload_n 1, 1) := by decide +kernel
theorem dX1_clause_30 : decode cX1_clause 30 = .ok (.aaload, 1) := by decide +kernel
theorem dX1_clause_31 : decode cX1_clause 31 = .ok (.invokevirtual 48, 3) := by decide +kernel
theorem dX1_clause_34 : decode cX1_clause 34 = .ok (.ifCond .eq 5, 3) := by decide +kernel
theorem dX1_clause_37 : decode cX1_clause 37 = .ok (.iconst (-1), 1) := by decide +kernel
theorem dX1_clause_38 : decode cX1_clause 38 = .ok (.ireturn, 1) := by decide +kernel
theorem dX1_clause_39 : decode cX1_clause 39 = .ok (.aload_n 0, 1) := by decide +kernel
theorem dX1_clause_40 : decode cX1_clause 40 = .ok (.getfield 11, 3) := by decide +kernel
theorem dX1_clause_43 : decode cX1_clause 43 = .ok (.iload_n 1, 1) := by decide +kernel
theorem dX1_clause_44 : decode cX1_clause 44 = .ok (.aaload, 1) := by decide +kernel
theorem dX1_clause_45 : decode cX1_clause 45 = .ok (.iload_n 2, 1) := by decide +kernel
theorem dX1_clause_46 : decode cX1_clause 46 = .ok (.iload_n 3, 1) := by decide +kernel
theorem dX1_clause_47 : decode cX1_clause 47 = .ok (.invokevirtual 52, 3) := by decide +kernel
theorem dX1_clause_50 : decode cX1_clause 50 = .ok (.aload_n 0, 1) := by decide +kernel
theorem dX1_clause_51 : decode cX1_clause 51 = .ok (.invokevirtual 37, 3) := by decide +kernel
theorem dX1_clause_54 : decode cX1_clause 54 = .ok (.aload_n 0, 1) := by decide +kernel
theorem dX1_clause_55 : decode cX1_clause 55 = .ok (.getfield 11, 3) := by decide +kernel
theorem dX1_clause_58 : decode cX1_clause 58 = .ok (.iload_n 1, 1) := by decide +kernel
theorem dX1_clause_59 : decode cX1_clause 59 = .ok (.aaload, 1) := by decide +kernel
theorem dX1_clause_60 : decode cX1_clause 60 = .ok (.getfield 56, 3) := by decide +kernel
theorem dX1_clause_63 : decode cX1_clause 63 = .ok (.iconst 1, 1) := by decide +kernel
theorem dX1_clause_64 : decode cX1_clause 64 = .ok (.isub, 1) := by decide +kernel
theorem dX1_clause_65 : decode cX1_clause 65 = .ok (.ireturn, 1) := by decide +kernel
theorem dX1_drop_0 : decode cX1_drop 0 = .ok (.iload_n 1, 1) := by decide +kernel
theorem dX1_drop_1 : decode cX1_drop 1 = .ok (.invokestatic 40, 3) := by decide +kernel
theorem dX1_drop_4 : decode cX1_drop 4 = .ok (.ifCond .eq 15, 3) := by decide +kernel
theorem dX1_drop_7 : decode cX1_drop 7 = .ok (.aload_n 0, 1) := by decide +kernel
theorem dX1_drop_8 : decode cX1_drop 8 = .ok (.getfield 11, 3) := by decide +kernel
theorem dX1_drop_11 : decode cX1_drop 11 = .ok (.iload_n 1, 1) := by decide +kernel
theorem dX1_drop_12 : decode cX1_drop 12 = .ok (.aaload, 1) := by decide +kernel
theorem dX1_drop_13 : decode cX1_drop 13 = .ok (.getfield 56, 3) := by decide +kernel
theorem dX1_drop_16 : decode cX1_drop 16 = .ok (.ifCond .ne 5, 3) := by decide +kernel
theorem dX1_drop_19 : decode cX1_drop 19 = .ok (.iconst (-1), 1) := by decide +kernel
theorem dX1_drop_20 : decode cX1_drop 20 = .ok (.ireturn, 1) := by decide +kernel
theorem dX1_drop_21 : decode cX1_drop 21 = .ok (.aload_n 0, 1) := by decide +kernel
theorem dX1_drop_22 : decode cX1_drop 22 = .ok (.getfield 11, 3) := by decide +kernel
theorem dX1_drop_25 : decode cX1_drop 25 = .ok (.iload_n 1, 1) := by decide +kernel
theorem dX1_drop_26 : decode cX1_drop 26 = .ok (.aaload, 1) := by decide +kernel
theorem dX1_drop_27 : decode cX1_drop 27 = .ok (.invokevirtual 59, 3) := by decide +kernel
theorem dX1_drop_30 : decode cX1_drop 30 = .ok (.aload_n 0, 1) := by decide +kernel
theorem dX1_drop_31 : decode cX1_drop 31 = .ok (.invokevirtual 37, 3) := by decide +kernel
theorem dX1_drop_34 : decode cX1_drop 34 = .ok (.aload_n 0, 1) := by decide +kernel
theorem dX1_drop_35 : decode cX1_drop 35 = .ok (.getfield 11, 3) := by decide +kernel
theorem dX1_drop_38 : decode cX1_drop 38 = .ok (.iload_n 1, 1) := by decide +kernel
theorem dX1_drop_39 : decode cX1_drop 39 = .ok (.aaload, 1) := by decide +kernel
theorem dX1_drop_40 : decode cX1_drop 40 = .ok (.getfield 56, 3) := by decide +kernel
theorem dX1_drop_43 : decode cX1_drop 43 = .ok (.ireturn, 1) := by decide +kernel
theorem dX1_switches_0 : decode cX1_switches 0 = .ok (.aload_n 0, 1) := by decide +kernel
theorem dX1_switches_1 : decode cX1_switches 1 = .ok (.getfield 24, 3) := by decide +kernel
theorem dX1_switches_4 : decode cX1_switches 4 = .ok (.ireturn, 1) := by decide +kernel
theorem dX1_count_0 : decode cX1_count 0 = .ok (.iload_n 1, 1) := by decide +kernel
theorem dX1_count_1 : decode cX1_count 1 = .ok (.invokestatic 40, 3) := by decide +kernel
theorem dX1_count_4 : decode cX1_count 4 = .ok (.ifCond .eq 15, 3) := by decide +kernel
theorem dX1_count_7 : decode cX1_count 7 = .ok (.aload_n 0, 1) := by decide +kernel
theorem dX1_count_8 : decode cX1_count 8 = .ok (.getfield 11, 3) := by decide +kernel
theorem dX1_count_11 : decode cX1_count 11 = .ok (.iload_n 1, 1) := by decide +kernel
theorem dX1_count_12 : decode cX1_count 12 = .ok (.aaload, 1) := by decide +kernel
theorem dX1_count_13 : decode cX1_count 13 = .ok (.getfield 56, 3) := by decide +kernel
theorem dX1_count_16 : decode cX1_count 16 = .ok (.goto 4, 3) := by decide +kernel
theorem dX1_count_19 : decode cX1_count 19 = .ok (.iconst (-1), 1) := by decide +kernel
theorem dX1_count_20 : decode cX1_count 20 = .ok (.ireturn, 1) := by decide +kernel
theorem dX1_holds_0 : decode cX1_holds 0 = .ok (.iload_n 1, 1) := by decide +kernel
theorem dX1_holds_1 : decode cX1_holds 1 = .ok (.invokestatic 40, 3) := by decide +kernel
theorem dX1_holds_4 : decode cX1_holds 4 = .ok (.ifCond .eq 11, 3) := by decide +kernel
theorem dX1_holds_7 : decode cX1_holds 7 = .ok (.aload_n 0, 1) := by decide +kernel
theorem dX1_holds_8 : decode cX1_holds 8 = .ok (.iload_n 2, 1) := by decide +kernel
theorem dX1_holds_9 : decode cX1_holds 9 = .ok (.invokevirtual 62, 3) := by decide +kernel
theorem dX1_holds_12 : decode cX1_holds 12 = .ok (.ifCond .ne 5, 3) := by decide +kernel
theorem dX1_holds_15 : decode cX1_holds 15 = .ok (.iconst 0, 1) := by decide +kernel
theorem dX1_holds_16 : decode cX1_holds 16 = .ok (.ireturn, 1) := by decide +kernel
theorem dX1_holds_17 : decode cX1_holds 17 = .ok (.iload_n 1, 1) := by decide +kernel
theorem dX1_holds_18 : decode cX1_holds 18 = .ok (.iconst 1, 1) := by decide +kernel
theorem dX1_holds_19 : decode cX1_holds 19 = .ok (.if_icmp .ne 26, 3) := by decide +kernel
theorem dX1_holds_22 : decode cX1_holds 22 = .ok (.aload_n 0, 1) := by decide +kernel
theorem dX1_holds_23 : decode cX1_holds 23 = .ok (.iload_n 3, 1) := by decide +kernel
theorem dX1_holds_24 : decode cX1_holds 24 = .ok (.invokevirtual 62, 3) := by decide +kernel
theorem dX1_holds_27 : decode cX1_holds 27 = .ok (.ifCond .eq 16, 3) := by decide +kernel
theorem dX1_holds_30 : decode cX1_holds 30 = .ok (.aload_n 0, 1) := by decide +kernel
theorem dX1_holds_31 : decode cX1_holds 31 = .ok (.iload_n 2, 1) := by decide +kernel
theorem dX1_holds_32 : decode cX1_holds 32 = .ok (.iload_n 3, 1) := by decide +kernel
theorem dX1_holds_33 : decode cX1_holds 33 = .ok (.invokevirtual 65, 3) := by decide +kernel
theorem dX1_holds_36 : decode cX1_holds 36 = .ok (.ifCond .eq 7, 3) := by decide +kernel
theorem dX1_holds_39 : decode cX1_holds 39 = .ok (.iconst 1, 1) := by decide +kernel
theorem dX1_holds_40 : decode cX1_holds 40 = .ok (.goto 4, 3) := by decide +kernel
theorem dX1_holds_43 : decode cX1_holds 43 = .ok (.iconst 0, 1) := by decide +kernel
theorem dX1_holds_44 : decode cX1_holds 44 = .ok (.ireturn, 1) := by decide +kernel
theorem dX1_holds_45 : decode cX1_holds 45 = .ok (.aload_n 0, 1) := by decide +kernel
theorem dX1_holds_46 : decode cX1_holds 46 = .ok (.iload_n 1, 1) := by decide +kernel
theorem dX1_holds_47 : decode cX1_holds 47 = .ok (.iload_n 2, 1) := by decide +kernel
theorem dX1_holds_48 : decode cX1_holds 48 = .ok (.invokevirtual 68, 3) := by decide +kernel
theorem dX1_holds_51 : decode cX1_holds 51 = .ok (.ireturn, 1) := by decide +kernel
theorem dX1_safe_0 : decode cX1_safe 0 = .ok (.aload_n 0, 1) := by decide +kernel
theorem dX1_safe_1 : decode cX1_safe 1 = .ok (.invokevirtual 71, 3) := by decide +kernel
theorem dX1_safe_4 : decode cX1_safe 4 = .ok (.iconst (-1), 1) := by decide +kernel
theorem dX1_safe_5 : decode cX1_safe 5 = .ok (.if_icmp .ne 7, 3) := by decide +kernel
theorem dX1_safe_8 : decode cX1_safe 8 = .ok (.iconst 1, 1) := by decide +kernel
theorem dX1_safe_9 : decode cX1_safe 9 = .ok (.goto 4, 3) := by decide +kernel
theorem dX1_safe_12 : decode cX1_safe 12 = .ok (.iconst 0, 1) := by decide +kernel
theorem dX1_safe_13 : decode cX1_safe 13 = .ok (.ireturn, 1) := by decide +kernel
theorem dX1_steps_0 : decode cX1_steps 0 = .ok (.aload_n 0, 1) := by decide +kernel
theorem dX1_steps_1 : decode cX1_steps 1 = .ok (.invokevirtual 75, 3) := by decide +kernel
theorem dX1_steps_4 : decode cX1_steps 4 = .ok (.iconst (-1), 1) := by decide +kernel
theorem dX1_steps_5 : decode cX1_steps 5 = .ok (.istore_n 1, 1) := by decide +kernel
theorem dX1_steps_6 : decode cX1_steps 6 = .ok (.iconst 0, 1) := by decide +kernel
theorem dX1_steps_7 : decode cX1_steps 7 = .ok (.istore_n 2, 1) := by decide +kernel
theorem dX1_steps_8 : decode cX1_steps 8 = .ok (.iload_n 2, 1) := by decide +kernel
theorem dX1_steps_9 : decode cX1_steps 9 = .ok (.aload_n 0, 1) := by decide +kernel
theorem dX1_steps_10 : decode cX1_steps 10 = .ok (.invokevirtual 78, 3) := by decide +kernel
theorem dX1_steps_13 : decode cX1_steps 13 = .ok (.if_icmp .ge 39, 3) := by decide +kernel
theorem dX1_steps_16 : decode cX1_steps 16 = .ok (.aload_n 0, 1) := by decide +kernel
theorem dX1_steps_17 : decode cX1_steps 17 = .ok (.iload_n 2, 1) := by decide +kernel
theorem dX1_steps_18 : decode cX1_steps 18 = .ok (.invokevirtual 81, 3) := by decide +kernel
theorem dX1_steps_21 : decode cX1_steps 21 = .ok (.ifCond .eq 25, 3) := by decide +kernel
theorem dX1_steps_24 : decode cX1_steps 24 = .ok (.iload_n 1, 1) := by decide +kernel
theorem dX1_steps_25 : decode cX1_steps 25 = .ok (.iconst (-1), 1) := by decide +kernel
theorem dX1_steps_26 : decode cX1_steps 26 = .ok (.if_icmp .eq 13, 3) := by decide +kernel
theorem dX1_steps_29 : decode cX1_steps 29 = .ok (.aload_n 0, 1) := by decide +kernel
theorem dX1_steps_30 : decode cX1_steps 30 = .ok (.getfield 16, 3) := by decide +kernel
theorem dX1_steps_33 : decode cX1_steps 33 = .ok (.iload_n 2, 1) := by decide +kernel
theorem dX1_steps_34 : decode cX1_steps 34 = .ok (.iaload, 1) := by decide +kernel
theorem dX1_steps_35 : decode cX1_steps 35 = .ok (.iload_n 1, 1) := by decide +kernel
theorem dX1_steps_36 : decode cX1_steps 36 = .ok (.if_icmp .ge 10, 3) := by decide +kernel
theorem dX1_steps_39 : decode cX1_steps 39 = .ok (.aload_n 0, 1) := by decide +kernel
theorem dX1_steps_40 : decode cX1_steps 40 = .ok (.getfield 16, 3) := by decide +kernel
theorem dX1_steps_43 : decode cX1_steps 43 = .ok (.iload_n 2, 1) := by decide +kernel
theorem dX1_steps_44 : decode cX1_steps 44 = .ok (.iaload, 1) := by decide +kernel
theorem dX1_steps_45 : decode cX1_steps 45 = .ok (.istore_n 1, 1) := by decide +kernel
theorem dX1_steps_46 : decode cX1_steps 46 = .ok (.iinc 2 1, 3) := by decide +kernel
theorem dX1_steps_49 : decode cX1_steps 49 = .ok (.goto (-41), 3) := by decide +kernel
theorem dX1_steps_52 : decode cX1_steps 52 = .ok (.iload_n 1, 1) := by decide +kernel
theorem dX1_steps_53 : decode cX1_steps 53 = .ok (.ireturn, 1) := by decide +kernel
theorem dX1_depth_0 : decode cX1_depth 0 = .ok (.aload_n 0, 1) := by decide +kernel
theorem dX1_depth_1 : decode cX1_depth 1 = .ok (.iload_n 1, 1) := by decide +kernel
theorem dX1_depth_2 : decode cX1_depth 2 = .ok (.invokevirtual 62, 3) := by decide +kernel
theorem dX1_depth_5 : decode cX1_depth 5 = .ok (.ifCond .ne 5, 3) := by decide +kernel
theorem dX1_depth_8 : decode cX1_depth 8 = .ok (.iconst (-1), 1) := by decide +kernel
theorem dX1_depth_9 : decode cX1_depth 9 = .ok (.ireturn, 1) := by decide +kernel
theorem dX1_depth_10 : decode cX1_depth 10 = .ok (.aload_n 0, 1) := by decide +kernel
theorem dX1_depth_11 : decode cX1_depth 11 = .ok (.invokevirtual 75, 3) := by decide +kernel
theorem dX1_depth_14 : decode cX1_depth 14 = .ok (.aload_n 0, 1) := by decide +kernel
theorem dX1_depth_15 : decode cX1_depth 15 = .ok (.getfield 16, 3) := by decide +kernel
theorem dX1_depth_18 : decode cX1_depth 18 = .ok (.iload_n 1, 1) := by decide +kernel
theorem dX1_depth_19 : decode cX1_depth 19 = .ok (.iaload, 1) := by decide +kernel
theorem dX1_depth_20 : decode cX1_depth 20 = .ok (.ireturn, 1) := by decide +kernel
theorem dX1_reached_0 : decode cX1_reached 0 = .ok (.aload_n 0, 1) := by decide +kernel
theorem dX1_reached_1 : decode cX1_reached 1 = .ok (.invokevirtual 75, 3) := by decide +kernel
theorem dX1_reached_4 : decode cX1_reached 4 = .ok (.iconst 0, 1) := by decide +kernel
theorem dX1_reached_5 : decode cX1_reached 5 = .ok (.istore_n 1, 1) := by decide +kernel
theorem dX1_reached_6 : decode cX1_reached 6 = .ok (.iconst 0, 1) := by decide +kernel
theorem dX1_reached_7 : decode cX1_reached 7 = .ok (.istore_n 2, 1) := by decide +kernel
theorem dX1_reached_8 : decode cX1_reached 8 = .ok (.iload_n 2, 1) := by decide +kernel
theorem dX1_reached_9 : decode cX1_reached 9 = .ok (.aload_n 0, 1) := by decide +kernel
theorem dX1_reached_10 : decode cX1_reached 10 = .ok (.invokevirtual 78, 3) := by decide +kernel
theorem dX1_reached_13 : decode cX1_reached 13 = .ok (.if_icmp .ge 22, 3) := by decide +kernel
theorem dX1_reached_16 : decode cX1_reached 16 = .ok (.aload_n 0, 1) := by decide +kernel
theorem dX1_reached_17 : decode cX1_reached 17 = .ok (.getfield 16, 3) := by decide +kernel
theorem dX1_reached_20 : decode cX1_reached 20 = .ok (.iload_n 2, 1) := by decide +kernel
theorem dX1_reached_21 : decode cX1_reached 21 = .ok (.iaload, 1) := by decide +kernel
theorem dX1_reached_22 : decode cX1_reached 22 = .ok (.iconst (-1), 1) := by decide +kernel
theorem dX1_reached_23 : decode cX1_reached 23 = .ok (.if_icmp .eq 6, 3) := by decide +kernel
theorem dX1_reached_26 : decode cX1_reached 26 = .ok (.iinc 1 1, 3) := by decide +kernel
theorem dX1_reached_29 : decode cX1_reached 29 = .ok (.iinc 2 1, 3) := by decide +kernel
theorem dX1_reached_32 : decode cX1_reached 32 = .ok (.goto (-24), 3) := by decide +kernel
theorem dX1_reached_35 : decode cX1_reached 35 = .ok (.iload_n 1, 1) := by decide +kernel
theorem dX1_reached_36 : decode cX1_reached 36 = .ok (.ireturn, 1) := by decide +kernel
theorem dX1_worst_0 : decode cX1_worst 0 = .ok (.aload_n 0, 1) := by decide +kernel
theorem dX1_worst_1 : decode cX1_worst 1 = .ok (.invokevirtual 75, 3) := by decide +kernel
theorem dX1_worst_4 : decode cX1_worst 4 = .ok (.iconst 0, 1) := by decide +kernel
theorem dX1_worst_5 : decode cX1_worst 5 = .ok (.istore_n 1, 1) := by decide +kernel
theorem dX1_worst_6 : decode cX1_worst 6 = .ok (.iload_n 1, 1) := by decide +kernel
theorem dX1_worst_7 : decode cX1_worst 7 = .ok (.aload_n 0, 1) := by decide +kernel
theorem dX1_worst_8 : decode cX1_worst 8 = .ok (.invokevirtual 78, 3) := by decide +kernel
theorem dX1_worst_11 : decode cX1_worst 11 = .ok (.if_icmp .ge 19, 3) := by decide +kernel
theorem dX1_worst_14 : decode cX1_worst 14 = .ok (.aload_n 0, 1) := by decide +kernel
theorem dX1_worst_15 : decode cX1_worst 15 = .ok (.iload_n 1, 1) := by decide +kernel
theorem dX1_worst_16 : decode cX1_worst 16 = .ok (.invokevirtual 81, 3) := by decide +kernel
theorem dX1_worst_19 : decode cX1_worst 19 = .ok (.ifCond .eq 5, 3) := by decide +kernel
theorem dX1_worst_22 : decode cX1_worst 22 = .ok (.iload_n 1, 1) := by decide +kernel
theorem dX1_worst_23 : decode cX1_worst 23 = .ok (.ireturn, 1) := by decide +kernel
theorem dX1_worst_24 : decode cX1_worst 24 = .ok (.iinc 1 1, 3) := by decide +kernel
theorem dX1_worst_27 : decode cX1_worst 27 = .ok (.goto (-21), 3) := by decide +kernel
theorem dX1_worst_30 : decode cX1_worst 30 = .ok (.iconst (-1), 1) := by decide +kernel
theorem dX1_worst_31 : decode cX1_worst 31 = .ok (.ireturn, 1) := by decide +kernel
theorem dX1_check_0 : decode cX1_check 0 = .ok (.iconst 1, 1) := by decide +kernel
theorem dX1_check_1 : decode cX1_check 1 = .ok (.istore_n 1, 1) := by decide +kernel
theorem dX1_check_2 : decode cX1_check 2 = .ok (.iload_n 1, 1) := by decide +kernel
theorem dX1_check_3 : decode cX1_check 3 = .ok (.iconst 3, 1) := by decide +kernel
theorem dX1_check_4 : decode cX1_check 4 = .ok (.if_icmp .gt 20, 3) := by decide +kernel
theorem dX1_check_7 : decode cX1_check 7 = .ok (.aload_n 0, 1) := by decide +kernel
theorem dX1_check_8 : decode cX1_check 8 = .ok (.iload_n 1, 1) := by decide +kernel
theorem dX1_check_9 : decode cX1_check 9 = .ok (.invokevirtual 84, 3) := by decide +kernel
theorem dX1_check_12 : decode cX1_check 12 = .ok (.iconst (-1), 1) := by decide +kernel
theorem dX1_check_13 : decode cX1_check 13 = .ok (.if_icmp .eq 5, 3) := by decide +kernel
theorem dX1_check_16 : decode cX1_check 16 = .ok (.iload_n 1, 1) := by decide +kernel
theorem dX1_check_17 : decode cX1_check 17 = .ok (.ireturn, 1) := by decide +kernel
theorem dX1_check_18 : decode cX1_check 18 = .ok (.iinc 1 1, 3) := by decide +kernel
theorem dX1_check_21 : decode cX1_check 21 = .ok (.goto (-19), 3) := by decide +kernel
theorem dX1_check_24 : decode cX1_check 24 = .ok (.iconst 0, 1) := by decide +kernel
theorem dX1_check_25 : decode cX1_check 25 = .ok (.ireturn, 1) := by decide +kernel
theorem dX1_flaw_0 : decode cX1_flaw 0 = .ok (.aload_n 0, 1) := by decide +kernel
theorem dX1_flaw_1 : decode cX1_flaw 1 = .ok (.invokevirtual 88, 3) := by decide +kernel
theorem dX1_flaw_4 : decode cX1_flaw 4 = .ok (.istore_n 1, 1) := by decide +kernel
theorem dX1_flaw_5 : decode cX1_flaw 5 = .ok (.iload_n 1, 1) := by decide +kernel
theorem dX1_flaw_6 : decode cX1_flaw 6 = .ok (.ifCond .ne 7, 3) := by decide +kernel
theorem dX1_flaw_9 : decode cX1_flaw 9 = .ok (.iconst (-1), 1) := by decide +kernel
theorem dX1_flaw_10 : decode cX1_flaw 10 = .ok (.goto 8, 3) := by decide +kernel
theorem dX1_flaw_13 : decode cX1_flaw 13 = .ok (.aload_n 0, 1) := by decide +kernel
theorem dX1_flaw_14 : decode cX1_flaw 14 = .ok (.iload_n 1, 1) := by decide +kernel
theorem dX1_flaw_15 : decode cX1_flaw 15 = .ok (.invokevirtual 84, 3) := by decide +kernel
theorem dX1_flaw_18 : decode cX1_flaw 18 = .ok (.ireturn, 1) := by decide +kernel
theorem dX1_walk_0 : decode cX1_walk 0 = .ok (.aload_n 0, 1) := by decide +kernel
theorem dX1_walk_1 : decode cX1_walk 1 = .ok (.iload_n 1, 1) := by decide +kernel
theorem dX1_walk_2 : decode cX1_walk 2 = .ok (.invokevirtual 62, 3) := by decide +kernel
theorem dX1_walk_5 : decode cX1_walk 5 = .ok (.ifCond .eq 12, 3) := by decide +kernel
theorem dX1_walk_8 : decode cX1_walk 8 = .ok (.aload_n 0, 1) := by decide +kernel
theorem dX1_walk_9 : decode cX1_walk 9 = .ok (.getfield 28, 3) := by decide +kernel
theorem dX1_walk_12 : decode cX1_walk 12 = .ok (.bipush 64, 2) := by decide +kernel
theorem dX1_walk_14 : decode cX1_walk 14 = .ok (.if_icmp .lt 5, 3) := by decide +kernel
theorem dX1_walk_17 : decode cX1_walk 17 = .ok (.iconst (-1), 1) := by decide +kernel
theorem dX1_walk_18 : decode cX1_walk 18 = .ok (.ireturn, 1) := by decide +kernel
theorem dX1_walk_19 : decode cX1_walk 19 = .ok (.aload_n 0, 1) := by decide +kernel
theorem dX1_walk_20 : decode cX1_walk 20 = .ok (.getfield 28, 3) := by decide +kernel
theorem dX1_walk_23 : decode cX1_walk 23 = .ok (.ifCond .ne 12, 3) := by decide +kernel
theorem dX1_walk_26 : decode cX1_walk 26 = .ok (.aload_n 0, 1) := by decide +kernel
theorem dX1_walk_27 : decode cX1_walk 27 = .ok (.iconst 0, 1) := by decide +kernel
theorem dX1_walk_28 : decode cX1_walk 28 = .ok (.iload_n 1, 1) := by decide +kernel
theorem dX1_walk_29 : decode cX1_walk 29 = .ok (.invokevirtual 68, 3) := by decide +kernel
theorem dX1_walk_32 : decode cX1_walk 32 = .ok (.goto 12, 3) := by decide +kernel
theorem dX1_walk_35 : decode cX1_walk 35 = .ok (.aload_n 0, 1) := by decide +kernel
theorem dX1_walk_36 : decode cX1_walk 36 = .ok (.aload_n 0, 1) := by decide +kernel
theorem dX1_walk_37 : decode cX1_walk 37 = .ok (.getfield 31, 3) := by decide +kernel
theorem dX1_walk_40 : decode cX1_walk 40 = .ok (.iload_n 1, 1) := by decide +kernel
theorem dX1_walk_41 : decode cX1_walk 41 = .ok (.invokevirtual 65, 3) := by decide +kernel
theorem dX1_walk_44 : decode cX1_walk 44 = .ok (.istore_n 2, 1) := by decide +kernel
theorem dX1_walk_45 : decode cX1_walk 45 = .ok (.iload_n 2, 1) := by decide +kernel
theorem dX1_walk_46 : decode cX1_walk 46 = .ok (.ifCond .ne 5, 3) := by decide +kernel
theorem dX1_walk_49 : decode cX1_walk 49 = .ok (.iconst (-1), 1) := by decide +kernel
theorem dX1_walk_50 : decode cX1_walk 50 = .ok (.ireturn, 1) := by decide +kernel
theorem dX1_walk_51 : decode cX1_walk 51 = .ok (.aload_n 0, 1) := by decide +kernel
theorem dX1_walk_52 : decode cX1_walk 52 = .ok (.iload_n 1, 1) := by decide +kernel
theorem dX1_walk_53 : decode cX1_walk 53 = .ok (.putfield 31, 3) := by decide +kernel
theorem dX1_walk_56 : decode cX1_walk 56 = .ok (.aload_n 0, 1) := by decide +kernel
theorem dX1_walk_57 : decode cX1_walk 57 = .ok (.dup, 1) := by decide +kernel
theorem dX1_walk_58 : decode cX1_walk 58 = .ok (.getfield 28, 3) := by decide +kernel
theorem dX1_walk_61 : decode cX1_walk 61 = .ok (.iconst 1, 1) := by decide +kernel
theorem dX1_walk_62 : decode cX1_walk 62 = .ok (.iadd, 1) := by decide +kernel
theorem dX1_walk_63 : decode cX1_walk 63 = .ok (.putfield 28, 3) := by decide +kernel
theorem dX1_walk_66 : decode cX1_walk 66 = .ok (.aload_n 0, 1) := by decide +kernel
theorem dX1_walk_67 : decode cX1_walk 67 = .ok (.getfield 28, 3) := by decide +kernel
theorem dX1_walk_70 : decode cX1_walk 70 = .ok (.ireturn, 1) := by decide +kernel
theorem dX1_arrives_0 : decode cX1_arrives 0 = .ok (.aload_n 0, 1) := by decide +kernel
theorem dX1_arrives_1 : decode cX1_arrives 1 = .ok (.getfield 28, 3) := by decide +kernel
theorem dX1_arrives_4 : decode cX1_arrives 4 = .ok (.ifCond .le 19, 3) := by decide +kernel
theorem dX1_arrives_7 : decode cX1_arrives 7 = .ok (.aload_n 0, 1) := by decide +kernel
theorem dX1_arrives_8 : decode cX1_arrives 8 = .ok (.iconst 2, 1) := by decide +kernel
theorem dX1_arrives_9 : decode cX1_arrives 9 = .ok (.aload_n 0, 1) := by decide +kernel
theorem dX1_arrives_10 : decode cX1_arrives 10 = .ok (.getfield 31, 3) := by decide +kernel
theorem dX1_arrives_13 : decode cX1_arrives 13 = .ok (.invokevirtual 68, 3) := by decide +kernel
theorem dX1_arrives_16 : decode cX1_arrives 16 = .ok (.ifCond .eq 7, 3) := by decide +kernel
theorem dX1_arrives_19 : decode cX1_arrives 19 = .ok (.iconst 1, 1) := by decide +kernel
theorem dX1_arrives_20 : decode cX1_arrives 20 = .ok (.goto 4, 3) := by decide +kernel
theorem dX1_arrives_23 : decode cX1_arrives 23 = .ok (.iconst 0, 1) := by decide +kernel
theorem dX1_arrives_24 : decode cX1_arrives 24 = .ok (.ireturn, 1) := by decide +kernel
theorem dX1_stateCount_0 : decode cX1_stateCount 0 = .ok (.iconst 1, 1) := by decide +kernel
theorem dX1_stateCount_1 : decode cX1_stateCount 1 = .ok (.aload_n 0, 1) := by decide +kernel
theorem dX1_stateCount_2 : decode cX1_stateCount 2 = .ok (.getfield 24, 3) := by decide +kernel
theorem dX1_stateCount_5 : decode cX1_stateCount 5 = .ok (.ishl, 1) := by decide +kernel
theorem dX1_stateCount_6 : decode cX1_stateCount 6 = .ok (.ireturn, 1) := by decide +kernel
theorem dX1_isState_0 : decode cX1_isState 0 = .ok (.iload_n 1, 1) := by decide +kernel
theorem dX1_isState_1 : decode cX1_isState 1 = .ok (.ifCond .lt 15, 3) := by decide +kernel
theorem dX1_isState_4 : decode cX1_isState 4 = .ok (.iload_n 1, 1) := by decide +kernel
theorem dX1_isState_5 : decode cX1_isState 5 = .ok (.aload_n 0, 1) := by decide +kernel
theorem dX1_isState_6 : decode cX1_isState 6 = .ok (.invokevirtual 78, 3) := by decide +kernel
theorem dX1_isState_9 : decode cX1_isState 9 = .ok (.if_icmp .ge 7, 3) := by decide +kernel
theorem dX1_isState_12 : decode cX1_isState 12 = .ok (.iconst 1, 1) := by decide +kernel
theorem dX1_isState_13 : decode cX1_isState 13 = .ok (.goto 4, 3) := by decide +kernel
theorem dX1_isState_16 : decode cX1_isState 16 = .ok (.iconst 0, 1) := by decide +kernel
theorem dX1_isState_17 : decode cX1_isState 17 = .ok (.ireturn, 1) := by decide +kernel
theorem dX1_isList_0 : decode cX1_isList 0 = .ok (.iload_n 0, 1) := by decide +kernel
theorem dX1_isList_1 : decode cX1_isList 1 = .ok (.ifCond .lt 12, 3) := by decide +kernel
theorem dX1_isList_4 : decode cX1_isList 4 = .ok (.iload_n 0, 1) := by decide +kernel
theorem dX1_isList_5 : decode cX1_isList 5 = .ok (.iconst 4, 1) := by decide +kernel
theorem dX1_isList_6 : decode cX1_isList 6 = .ok (.if_icmp .ge 7, 3) := by decide +kernel
theorem dX1_isList_9 : decode cX1_isList 9 = .ok (.iconst 1, 1) := by decide +kernel
theorem dX1_isList_10 : decode cX1_isList 10 = .ok (.goto 4, 3) := by decide +kernel
theorem dX1_isList_13 : decode cX1_isList 13 = .ok (.iconst 0, 1) := by decide +kernel
theorem dX1_isList_14 : decode cX1_isList 14 = .ok (.ireturn, 1) := by decide +kernel
theorem dX1_isSetOf_0 : decode cX1_isSetOf 0 = .ok (.iload_n 1, 1) := by decide +kernel
theorem dX1_isSetOf_1 : decode cX1_isSetOf 1 = .ok (.iconst 1, 1) := by decide +kernel
theorem dX1_isSetOf_2 : decode cX1_isSetOf 2 = .ok (.if_icmp .ne 12, 3) := by decide +kernel
theorem dX1_isSetOf_5 : decode cX1_isSetOf 5 = .ok (.iconst 2, 1) := by decide +kernel
theorem dX1_isSetOf_6 : decode cX1_isSetOf 6 = .ok (.aload_n 0, 1) := by decide +kernel
theorem dX1_isSetOf_7 : decode cX1_isSetOf 7 = .ok (.getfield 24, 3) := by decide +kernel
theorem dX1_isSetOf_10 : decode cX1_isSetOf 10 = .ok (.imul, 1) := by decide +kernel
theorem dX1_isSetOf_11 : decode cX1_isSetOf 11 = .ok (.goto 7, 3) := by decide +kernel
theorem dX1_isSetOf_14 : decode cX1_isSetOf 14 = .ok (.aload_n 0, 1) := by decide +kernel
theorem dX1_isSetOf_15 : decode cX1_isSetOf 15 = .ok (.getfield 24, 3) := by decide +kernel
theorem dX1_isSetOf_18 : decode cX1_isSetOf 18 = .ok (.istore_n 3, 1) := by decide +kernel
theorem dX1_isSetOf_19 : decode cX1_isSetOf 19 = .ok (.iload_n 2, 1) := by decide +kernel
theorem dX1_isSetOf_20 : decode cX1_isSetOf 20 = .ok (.ifCond .lt 14, 3) := by decide +kernel
theorem dX1_isSetOf_23 : decode cX1_isSetOf 23 = .ok (.iload_n 2, 1) := by decide +kernel
theorem dX1_isSetOf_24 : decode cX1_isSetOf 24 = .ok (.iconst 1, 1) := by decide +kernel
theorem dX1_isSetOf_25 : decode cX1_isSetOf 25 = .ok (.iload_n 3, 1) := by decide +kernel
theorem dX1_isSetOf_26 : decode cX1_isSetOf 26 = .ok (.ishl, 1) := by decide +kernel
theorem dX1_isSetOf_27 : decode cX1_isSetOf 27 = .ok (.if_icmp .ge 7, 3) := by decide +kernel
theorem dX1_isSetOf_30 : decode cX1_isSetOf 30 = .ok (.iconst 1, 1) := by decide +kernel
theorem dX1_isSetOf_31 : decode cX1_isSetOf 31 = .ok (.goto 4, 3) := by decide +kernel
theorem dX1_isSetOf_34 : decode cX1_isSetOf 34 = .ok (.iconst 0, 1) := by decide +kernel
theorem dX1_isSetOf_35 : decode cX1_isSetOf 35 = .ok (.ireturn, 1) := by decide +kernel
theorem dX1_isIn_0 : decode cX1_isIn 0 = .ok (.aload_n 0, 1) := by decide +kernel
theorem dX1_isIn_1 : decode cX1_isIn 1 = .ok (.getfield 11, 3) := by decide +kernel
theorem dX1_isIn_4 : decode cX1_isIn 4 = .ok (.iload_n 1, 1) := by decide +kernel
theorem dX1_isIn_5 : decode cX1_isIn 5 = .ok (.aaload, 1) := by decide +kernel
theorem dX1_isIn_6 : decode cX1_isIn 6 = .ok (.iload_n 2, 1) := by decide +kernel
theorem dX1_isIn_7 : decode cX1_isIn 7 = .ok (.invokevirtual 91, 3) := by decide +kernel
theorem dX1_isIn_10 : decode cX1_isIn 10 = .ok (.ireturn, 1) := by decide +kernel
theorem dX1_canGo_0 : decode cX1_canGo 0 = .ok (.aload_n 0, 1) := by decide +kernel
theorem dX1_canGo_1 : decode cX1_canGo 1 = .ok (.getfield 11, 3) := by decide +kernel
theorem dX1_canGo_4 : decode cX1_canGo 4 = .ok (.iconst 1, 1) := by decide +kernel
theorem dX1_canGo_5 : decode cX1_canGo 5 = .ok (.aaload, 1) := by decide +kernel
theorem dX1_canGo_6 : decode cX1_canGo 6 = .ok (.iload_n 1, 1) := by decide +kernel
theorem dX1_canGo_7 : decode cX1_canGo 7 = .ok (.iload_n 2, 1) := by decide +kernel
theorem dX1_canGo_8 : decode cX1_canGo 8 = .ok (.aload_n 0, 1) := by decide +kernel
theorem dX1_canGo_9 : decode cX1_canGo 9 = .ok (.getfield 24, 3) := by decide +kernel
theorem dX1_canGo_12 : decode cX1_canGo 12 = .ok (.ishl, 1) := by decide +kernel
theorem dX1_canGo_13 : decode cX1_canGo 13 = .ok (.ior, 1) := by decide +kernel
theorem dX1_canGo_14 : decode cX1_canGo 14 = .ok (.invokevirtual 91, 3) := by decide +kernel
theorem dX1_canGo_17 : decode cX1_canGo 17 = .ok (.ireturn, 1) := by decide +kernel
theorem dX1_isReachedBad_0 : decode cX1_isReachedBad 0 = .ok (.aload_n 0, 1) := by decide +kernel
theorem dX1_isReachedBad_1 : decode cX1_isReachedBad 1 = .ok (.getfield 16, 3) := by decide +kernel
theorem dX1_isReachedBad_4 : decode cX1_isReachedBad 4 = .ok (.iload_n 1, 1) := by decide +kernel
theorem dX1_isReachedBad_5 : decode cX1_isReachedBad 5 = .ok (.iaload, 1) := by decide +kernel
theorem dX1_isReachedBad_6 : decode cX1_isReachedBad 6 = .ok (.iconst (-1), 1) := by decide +kernel
theorem dX1_isReachedBad_7 : decode cX1_isReachedBad 7 = .ok (.if_icmp .eq 16, 3) := by decide +kernel
theorem dX1_isReachedBad_10 : decode cX1_isReachedBad 10 = .ok (.aload_n 0, 1) := by decide +kernel
theorem dX1_isReachedBad_11 : decode cX1_isReachedBad 11 = .ok (.iconst 2, 1) := by decide +kernel
theorem dX1_isReachedBad_12 : decode cX1_isReachedBad 12 = .ok (.iload_n 1, 1) := by decide +kernel
theorem dX1_isReachedBad_13 : decode cX1_isReachedBad 13 = .ok (.invokevirtual 68, 3) := by decide +kernel
theorem dX1_isReachedBad_16 : decode cX1_isReachedBad 16 = .ok (.ifCond .eq 7, 3) := by decide +kernel
theorem dX1_isReachedBad_19 : decode cX1_isReachedBad 19 = .ok (.iconst 1, 1) := by decide +kernel
theorem dX1_isReachedBad_20 : decode cX1_isReachedBad 20 = .ok (.goto 4, 3) := by decide +kernel
theorem dX1_isReachedBad_23 : decode cX1_isReachedBad 23 = .ok (.iconst 0, 1) := by decide +kernel
theorem dX1_isReachedBad_24 : decode cX1_isReachedBad 24 = .ok (.ireturn, 1) := by decide +kernel
theorem dX1_forgetWhatFollowed_0 : decode cX1_forgetWhatFollowed 0 = .ok (.aload_n 0, 1) := by decide +kernel
theorem dX1_forgetWhatFollowed_1 : decode cX1_forgetWhatFollowed 1 = .ok (.iconst 0, 1) := by decide +kernel
theorem dX1_forgetWhatFollowed_2 : decode cX1_forgetWhatFollowed 2 = .ok (.putfield 28, 3) := by decide +kernel
theorem dX1_forgetWhatFollowed_5 : decode cX1_forgetWhatFollowed 5 = .ok (.aload_n 0, 1) := by decide +kernel
theorem dX1_forgetWhatFollowed_6 : decode cX1_forgetWhatFollowed 6 = .ok (.iconst 0, 1) := by decide +kernel
theorem dX1_forgetWhatFollowed_7 : decode cX1_forgetWhatFollowed 7 = .ok (.putfield 20, 3) := by decide +kernel
theorem dX1_forgetWhatFollowed_10 : decode cX1_forgetWhatFollowed 10 = .ok (.return_, 1) := by decide +kernel
theorem dX1_findDepths_0 : decode cX1_findDepths 0 = .ok (.aload_n 0, 1) := by decide +kernel
theorem dX1_findDepths_1 : decode cX1_findDepths 1 = .ok (.getfield 20, 3) := by decide +kernel
theorem dX1_findDepths_4 : decode cX1_findDepths 4 = .ok (.ifCond .eq 4, 3) := by decide +kernel
theorem dX1_findDepths_7 : decode cX1_findDepths 7 = .ok (.return_, 1) := by decide +kernel
theorem dX1_findDepths_8 : decode cX1_findDepths 8 = .ok (.iconst 0, 1) := by decide +kernel
theorem dX1_findDepths_9 : decode cX1_findDepths 9 = .ok (.istore_n 1, 1) := by decide +kernel
theorem dX1_findDepths_10 : decode cX1_findDepths 10 = .ok (.iload_n 1, 1) := by decide +kernel
theorem dX1_findDepths_11 : decode cX1_findDepths 11 = .ok (.aload_n 0, 1) := by decide +kernel
theorem dX1_findDepths_12 : decode cX1_findDepths 12 = .ok (.invokevirtual 78, 3) := by decide +kernel
theorem dX1_findDepths_15 : decode cX1_findDepths 15 = .ok (.if_icmp .ge 29, 3) := by decide +kernel
theorem dX1_findDepths_18 : decode cX1_findDepths 18 = .ok (.aload_n 0, 1) := by decide +kernel
theorem dX1_findDepths_19 : decode cX1_findDepths 19 = .ok (.getfield 16, 3) := by decide +kernel
theorem dX1_findDepths_22 : decode cX1_findDepths 22 = .ok (.iload_n 1, 1) := by decide +kernel
theorem dX1_findDepths_23 : decode cX1_findDepths 23 = .ok (.aload_n 0, 1) := by decide +kernel
theorem dX1_findDepths_24 : decode cX1_findDepths 24 = .ok (.iconst 0, 1) := by decide +kernel
theorem dX1_findDepths_25 : decode cX1_findDepths 25 = .ok (.iload_n 1, 1) := by decide +kernel
theorem dX1_findDepths_26 : decode cX1_findDepths 26 = .ok (.invokevirtual 68, 3) := by decide +kernel
theorem dX1_findDepths_29 : decode cX1_findDepths 29 = .ok (.ifCond .eq 7, 3) := by decide +kernel
theorem dX1_findDepths_32 : decode cX1_findDepths 32 = .ok (.iconst 0, 1) := by decide +kernel
theorem dX1_findDepths_33 : decode cX1_findDepths 33 = .ok (.goto 4, 3) := by decide +kernel
theorem dX1_findDepths_36 : decode cX1_findDepths 36 = .ok (.iconst (-1), 1) := by decide +kernel
theorem dX1_findDepths_37 : decode cX1_findDepths 37 = .ok (.iastore, 1) := by decide +kernel
theorem dX1_findDepths_38 : decode cX1_findDepths 38 = .ok (.iinc 1 1, 3) := by decide +kernel
theorem dX1_findDepths_41 : decode cX1_findDepths 41 = .ok (.goto (-31), 3) := by decide +kernel
theorem dX1_findDepths_44 : decode cX1_findDepths 44 = .ok (.iconst 0, 1) := by decide +kernel
theorem dX1_findDepths_45 : decode cX1_findDepths 45 = .ok (.istore_n 1, 1) := by decide +kernel
theorem dX1_findDepths_46 : decode cX1_findDepths 46 = .ok (.iload_n 1, 1) := by decide +kernel
theorem dX1_findDepths_47 : decode cX1_findDepths 47 = .ok (.aload_n 0, 1) := by decide +kernel
theorem dX1_findDepths_48 : decode cX1_findDepths 48 = .ok (.invokevirtual 78, 3) := by decide +kernel
theorem dX1_findDepths_51 : decode cX1_findDepths 51 = .ok (.if_icmp .ge 14, 3) := by decide +kernel
theorem dX1_findDepths_54 : decode cX1_findDepths 54 = .ok (.aload_n 0, 1) := by decide +kernel
theorem dX1_findDepths_55 : decode cX1_findDepths 55 = .ok (.iload_n 1, 1) := by decide +kernel
theorem dX1_findDepths_56 : decode cX1_findDepths 56 = .ok (.invokevirtual 94, 3) := by decide +kernel
theorem dX1_findDepths_59 : decode cX1_findDepths 59 = .ok (.iinc 1 1, 3) := by decide +kernel
theorem dX1_findDepths_62 : decode cX1_findDepths 62 = .ok (.goto (-16), 3) := by decide +kernel
theorem dX1_findDepths_65 : decode cX1_findDepths 65 = .ok (.aload_n 0, 1) := by decide +kernel
theorem dX1_findDepths_66 : decode cX1_findDepths 66 = .ok (.iconst 1, 1) := by decide +kernel
theorem dX1_findDepths_67 : decode cX1_findDepths 67 = .ok (.putfield 20, 3) := by decide +kernel
theorem dX1_findDepths_70 : decode cX1_findDepths 70 = .ok (.return_, 1) := by decide +kernel
theorem dX1_goOnFrom_0 : decode cX1_goOnFrom 0 = .ok (.iconst 0, 1) := by decide +kernel
theorem dX1_goOnFrom_1 : decode cX1_goOnFrom 1 = .ok (.istore_n 2, 1) := by decide +kernel
theorem dX1_goOnFrom_2 : decode cX1_goOnFrom 2 = .ok (.iload_n 2, 1) := by decide +kernel
theorem dX1_goOnFrom_3 : decode cX1_goOnFrom 3 = .ok (.aload_n 0, 1) := by decide +kernel
theorem dX1_goOnFrom_4 : decode cX1_goOnFrom 4 = .ok (.invokevirtual 78, 3) := by decide +kernel
theorem dX1_goOnFrom_7 : decode cX1_goOnFrom 7 = .ok (.if_icmp .ge 24, 3) := by decide +kernel
theorem dX1_goOnFrom_10 : decode cX1_goOnFrom 10 = .ok (.aload_n 0, 1) := by decide +kernel
theorem dX1_goOnFrom_11 : decode cX1_goOnFrom 11 = .ok (.getfield 16, 3) := by decide +kernel
theorem dX1_goOnFrom_14 : decode cX1_goOnFrom 14 = .ok (.iload_n 2, 1) := by decide +kernel
theorem dX1_goOnFrom_15 : decode cX1_goOnFrom 15 = .ok (.iaload, 1) := by decide +kernel
theorem dX1_goOnFrom_16 : decode cX1_goOnFrom 16 = .ok (.iload_n 1, 1) := by decide +kernel
theorem dX1_goOnFrom_17 : decode cX1_goOnFrom 17 = .ok (.if_icmp .ne 8, 3) := by decide +kernel
theorem dX1_goOnFrom_20 : decode cX1_goOnFrom 20 = .ok (.aload_n 0, 1) := by decide +kernel
theorem dX1_goOnFrom_21 : decode cX1_goOnFrom 21 = .ok (.iload_n 2, 1) := by decide +kernel
theorem dX1_goOnFrom_22 : decode cX1_goOnFrom 22 = .ok (.invokevirtual 98, 3) := by decide +kernel
theorem dX1_goOnFrom_25 : decode cX1_goOnFrom 25 = .ok (.iinc 2 1, 3) := by decide +kernel
theorem dX1_goOnFrom_28 : decode cX1_goOnFrom 28 = .ok (.goto (-26), 3) := by decide +kernel
theorem dX1_goOnFrom_31 : decode cX1_goOnFrom 31 = .ok (.return_, 1) := by decide +kernel
theorem dX1_goOnFromState_0 : decode cX1_goOnFromState 0 = .ok (.iconst 0, 1) := by decide +kernel
theorem dX1_goOnFromState_1 : decode cX1_goOnFromState 1 = .ok (.istore_n 2, 1) := by decide +kernel
theorem dX1_goOnFromState_2 : decode cX1_goOnFromState 2 = .ok (.iload_n 2, 1) := by decide +kernel
theorem dX1_goOnFromState_3 : decode cX1_goOnFromState 3 = .ok (.aload_n 0, 1) := by decide +kernel
theorem dX1_goOnFromState_4 : decode cX1_goOnFromState 4 = .ok (.invokevirtual 78, 3) := by decide +kernel
theorem dX1_goOnFromState_7 : decode cX1_goOnFromState 7 = .ok (.if_icmp .ge 42, 3) := by decide +kernel
theorem dX1_goOnFromState_10 : decode cX1_goOnFromState 10 = .ok (.aload_n 0, 1) := by decide +kernel
theorem dX1_goOnFromState_11 : decode cX1_goOnFromState 11 = .ok (.getfield 16, 3) := by decide +kernel
theorem dX1_goOnFromState_14 : decode cX1_goOnFromState 14 = .ok (.iload_n 2, 1) := by decide +kernel
theorem dX1_goOnFromState_15 : decode cX1_goOnFromState 15 = .ok (.iaload, 1) := by decide +kernel
theorem dX1_goOnFromState_16 : decode cX1_goOnFromState 16 = .ok (.iconst (-1), 1) := by decide +kernel
theorem dX1_goOnFromState_17 : decode cX1_goOnFromState 17 = .ok (.if_icmp .ne 26, 3) := by decide +kernel
theorem dX1_goOnFromState_20 : decode cX1_goOnFromState 20 = .ok (.aload_n 0, 1) := by decide +kernel
theorem dX1_goOnFromState_21 : decode cX1_goOnFromState 21 = .ok (.iload_n 1, 1) := by decide +kernel
theorem dX1_goOnFromState_22 : decode cX1_goOnFromState 22 = .ok (.iload_n 2, 1) := by decide +kernel
theorem dX1_goOnFromState_23 : decode cX1_goOnFromState 23 = .ok (.invokevirtual 65, 3) := by decide +kernel
theorem dX1_goOnFromState_26 : decode cX1_goOnFromState 26 = .ok (.ifCond .eq 17, 3) := by decide +kernel
theorem dX1_goOnFromState_29 : decode cX1_goOnFromState 29 = .ok (.aload_n 0, 1) := by decide +kernel
theorem dX1_goOnFromState_30 : decode cX1_goOnFromState 30 = .ok (.getfield 16, 3) := by decide +kernel
theorem dX1_goOnFromState_33 : decode cX1_goOnFromState 33 = .ok (.iload_n 2, 1) := by decide +kernel
theorem dX1_goOnFromState_34 : decode cX1_goOnFromState 34 = .ok (.aload_n 0, 1) := by decide +kernel
theorem dX1_goOnFromState_35 : decode cX1_goOnFromState 35 = .ok (.getfield 16, 3) := by decide +kernel
theorem dX1_goOnFromState_38 : decode cX1_goOnFromState 38 = .ok (.iload_n 1, 1) := by decide +kernel
theorem dX1_goOnFromState_39 : decode cX1_goOnFromState 39 = .ok (.iaload, 1) := by decide +kernel
theorem dX1_goOnFromState_40 : decode cX1_goOnFromState 40 = .ok (.iconst 1, 1) := by decide +kernel
theorem dX1_goOnFromState_41 : decode cX1_goOnFromState 41 = .ok (.iadd, 1) := by decide +kernel
theorem dX1_goOnFromState_42 : decode cX1_goOnFromState 42 = .ok (.iastore, 1) := by decide +kernel
theorem dX1_goOnFromState_43 : decode cX1_goOnFromState 43 = .ok (.iinc 2 1, 3) := by decide +kernel
theorem dX1_goOnFromState_46 : decode cX1_goOnFromState 46 = .ok (.goto (-44), 3) := by decide +kernel
theorem dX1_goOnFromState_49 : decode cX1_goOnFromState 49 = .ok (.return_, 1) := by decide +kernel
theorem dX1_leastBreaking_0 : decode cX1_leastBreaking 0 = .ok (.iconst 0, 1) := by decide +kernel
theorem dX1_leastBreaking_1 : decode cX1_leastBreaking 1 = .ok (.istore_n 2, 1) := by decide +kernel
theorem dX1_leastBreaking_2 : decode cX1_leastBreaking 2 = .ok (.iload_n 2, 1) := by decide +kernel
theorem dX1_leastBreaking_3 : decode cX1_leastBreaking 3 = .ok (.aload_n 0, 1) := by decide +kernel
theorem dX1_leastBreaking_4 : decode cX1_leastBreaking 4 = .ok (.invokevirtual 78, 3) := by decide +kernel
theorem dX1_leastBreaking_7 : decode cX1_leastBreaking 7 = .ok (.if_icmp .ge 20, 3) := by decide +kernel
theorem dX1_leastBreaking_10 : decode cX1_leastBreaking 10 = .ok (.aload_n 0, 1) := by decide +kernel
theorem dX1_leastBreaking_11 : decode cX1_leastBreaking 11 = .ok (.iload_n 1, 1) := by decide +kernel
theorem dX1_leastBreaking_12 : decode cX1_leastBreaking 12 = .ok (.iload_n 2, 1) := by decide +kernel
theorem dX1_leastBreaking_13 : decode cX1_leastBreaking 13 = .ok (.invokevirtual 101, 3) := by decide +kernel
theorem dX1_leastBreaking_16 : decode cX1_leastBreaking 16 = .ok (.ifCond .eq 5, 3) := by decide +kernel
theorem dX1_leastBreaking_19 : decode cX1_leastBreaking 19 = .ok (.iload_n 2, 1) := by decide +kernel
theorem dX1_leastBreaking_20 : decode cX1_leastBreaking 20 = .ok (.ireturn, 1) := by decide +kernel
theorem dX1_leastBreaking_21 : decode cX1_leastBreaking 21 = .ok (.iinc 2 1, 3) := by decide +kernel
theorem dX1_leastBreaking_24 : decode cX1_leastBreaking 24 = .ok (.goto (-22), 3) := by decide +kernel
theorem dX1_leastBreaking_27 : decode cX1_leastBreaking 27 = .ok (.iconst (-1), 1) := by decide +kernel
theorem dX1_leastBreaking_28 : decode cX1_leastBreaking 28 = .ok (.ireturn, 1) := by decide +kernel
theorem dX1_breaks_0 : decode cX1_breaks 0 = .ok (.iload_n 1, 1) := by decide +kernel
theorem dX1_breaks_1 : decode cX1_breaks 1 = .ok (.tableswitch 98 1 3 #[27, 51, 74], 27) := by decide +kernel
theorem dX1_breaks_28 : decode cX1_breaks 28 = .ok (.aload_n 0, 1) := by decide +kernel
theorem dX1_breaks_29 : decode cX1_breaks 29 = .ok (.iconst 0, 1) := by decide +kernel
theorem dX1_breaks_30 : decode cX1_breaks 30 = .ok (.iload_n 2, 1) := by decide +kernel
theorem dX1_breaks_31 : decode cX1_breaks 31 = .ok (.invokevirtual 68, 3) := by decide +kernel
theorem dX1_breaks_34 : decode cX1_breaks 34 = .ok (.ifCond .eq 16, 3) := by decide +kernel
theorem dX1_breaks_37 : decode cX1_breaks 37 = .ok (.aload_n 0, 1) := by decide +kernel
theorem dX1_breaks_38 : decode cX1_breaks 38 = .ok (.iconst 3, 1) := by decide +kernel
theorem dX1_breaks_39 : decode cX1_breaks 39 = .ok (.iload_n 2, 1) := by decide +kernel
theorem dX1_breaks_40 : decode cX1_breaks 40 = .ok (.invokevirtual 68, 3) := by decide +kernel
theorem dX1_breaks_43 : decode cX1_breaks 43 = .ok (.ifCond .ne 7, 3) := by decide +kernel
theorem dX1_breaks_46 : decode cX1_breaks 46 = .ok (.iconst 1, 1) := by decide +kernel
theorem dX1_breaks_47 : decode cX1_breaks 47 = .ok (.goto 4, 3) := by decide +kernel
theorem dX1_breaks_50 : decode cX1_breaks 50 = .ok (.iconst 0, 1) := by decide +kernel
theorem dX1_breaks_51 : decode cX1_breaks 51 = .ok (.ireturn, 1) := by decide +kernel
theorem dX1_breaks_52 : decode cX1_breaks 52 = .ok (.aload_n 0, 1) := by decide +kernel
theorem dX1_breaks_53 : decode cX1_breaks 53 = .ok (.iconst 3, 1) := by decide +kernel
theorem dX1_breaks_54 : decode cX1_breaks 54 = .ok (.iload_n 2, 1) := by decide +kernel
theorem dX1_breaks_55 : decode cX1_breaks 55 = .ok (.invokevirtual 68, 3) := by decide +kernel
theorem dX1_breaks_58 : decode cX1_breaks 58 = .ok (.ifCond .eq 15, 3) := by decide +kernel
theorem dX1_breaks_61 : decode cX1_breaks 61 = .ok (.aload_n 0, 1) := by decide +kernel
theorem dX1_breaks_62 : decode cX1_breaks 62 = .ok (.iload_n 2, 1) := by decide +kernel
theorem dX1_breaks_63 : decode cX1_breaks 63 = .ok (.invokevirtual 104, 3) := by decide +kernel
theorem dX1_breaks_66 : decode cX1_breaks 66 = .ok (.ifCond .eq 7, 3) := by decide +kernel
theorem dX1_breaks_69 : decode cX1_breaks 69 = .ok (.iconst 1, 1) := by decide +kernel
theorem dX1_breaks_70 : decode cX1_breaks 70 = .ok (.goto 4, 3) := by decide +kernel
theorem dX1_breaks_73 : decode cX1_breaks 73 = .ok (.iconst 0, 1) := by decide +kernel
theorem dX1_breaks_74 : decode cX1_breaks 74 = .ok (.ireturn, 1) := by decide +kernel
theorem dX1_breaks_75 : decode cX1_breaks 75 = .ok (.aload_n 0, 1) := by decide +kernel
theorem dX1_breaks_76 : decode cX1_breaks 76 = .ok (.iconst 3, 1) := by decide +kernel
theorem dX1_breaks_77 : decode cX1_breaks 77 = .ok (.iload_n 2, 1) := by decide +kernel
theorem dX1_breaks_78 : decode cX1_breaks 78 = .ok (.invokevirtual 68, 3) := by decide +kernel
theorem dX1_breaks_81 : decode cX1_breaks 81 = .ok (.ifCond .eq 16, 3) := by decide +kernel
theorem dX1_breaks_84 : decode cX1_breaks 84 = .ok (.aload_n 0, 1) := by decide +kernel
theorem dX1_breaks_85 : decode cX1_breaks 85 = .ok (.iconst 2, 1) := by decide +kernel
theorem dX1_breaks_86 : decode cX1_breaks 86 = .ok (.iload_n 2, 1) := by decide +kernel
theorem dX1_breaks_87 : decode cX1_breaks 87 = .ok (.invokevirtual 68, 3) := by decide +kernel
theorem dX1_breaks_90 : decode cX1_breaks 90 = .ok (.ifCond .eq 7, 3) := by decide +kernel
theorem dX1_breaks_93 : decode cX1_breaks 93 = .ok (.iconst 1, 1) := by decide +kernel
theorem dX1_breaks_94 : decode cX1_breaks 94 = .ok (.goto 4, 3) := by decide +kernel
theorem dX1_breaks_97 : decode cX1_breaks 97 = .ok (.iconst 0, 1) := by decide +kernel
theorem dX1_breaks_98 : decode cX1_breaks 98 = .ok (.ireturn, 1) := by decide +kernel
theorem dX1_breaks_99 : decode cX1_breaks 99 = .ok (.iconst 0, 1) := by decide +kernel
theorem dX1_breaks_100 : decode cX1_breaks 100 = .ok (.ireturn, 1) := by decide +kernel
theorem dX1_canLeaveClaim_0 : decode cX1_canLeaveClaim 0 = .ok (.iconst 0, 1) := by decide +kernel
theorem dX1_canLeaveClaim_1 : decode cX1_canLeaveClaim 1 = .ok (.istore_n 2, 1) := by decide +kernel
theorem dX1_canLeaveClaim_2 : decode cX1_canLeaveClaim 2 = .ok (.iload_n 2, 1) := by decide +kernel
theorem dX1_canLeaveClaim_3 : decode cX1_canLeaveClaim 3 = .ok (.aload_n 0, 1) := by decide +kernel
theorem dX1_canLeaveClaim_4 : decode cX1_canLeaveClaim 4 = .ok (.invokevirtual 78, 3) := by decide +kernel
theorem dX1_canLeaveClaim_7 : decode cX1_canLeaveClaim 7 = .ok (.if_icmp .ge 29, 3) := by decide +kernel
theorem dX1_canLeaveClaim_10 : decode cX1_canLeaveClaim 10 = .ok (.aload_n 0, 1) := by decide +kernel
theorem dX1_canLeaveClaim_11 : decode cX1_canLeaveClaim 11 = .ok (.iconst 3, 1) := by decide +kernel
theorem dX1_canLeaveClaim_12 : decode cX1_canLeaveClaim 12 = .ok (.iload_n 2, 1) := by decide +kernel
theorem dX1_canLeaveClaim_13 : decode cX1_canLeaveClaim 13 = .ok (.invokevirtual 68, 3) := by decide +kernel
theorem dX1_canLeaveClaim_16 : decode cX1_canLeaveClaim 16 = .ok (.ifCond .ne 14, 3) := by decide +kernel
theorem dX1_canLeaveClaim_19 : decode cX1_canLeaveClaim 19 = .ok (.aload_n 0, 1) := by decide +kernel
theorem dX1_canLeaveClaim_20 : decode cX1_canLeaveClaim 20 = .ok (.iload_n 1, 1) := by decide +kernel
theorem dX1_canLeaveClaim_21 : decode cX1_canLeaveClaim 21 = .ok (.iload_n 2, 1) := by decide +kernel
theorem dX1_canLeaveClaim_22 : decode cX1_canLeaveClaim 22 = .ok (.invokevirtual 65, 3) := by decide +kernel
theorem dX1_canLeaveClaim_25 : decode cX1_canLeaveClaim 25 = .ok (.ifCond .eq 5, 3) := by decide +kernel
theorem dX1_canLeaveClaim_28 : decode cX1_canLeaveClaim 28 = .ok (.iconst 1, 1) := by decide +kernel
theorem dX1_canLeaveClaim_29 : decode cX1_canLeaveClaim 29 = .ok (.ireturn, 1) := by decide +kernel
theorem dX1_canLeaveClaim_30 : decode cX1_canLeaveClaim 30 = .ok (.iinc 2 1, 3) := by decide +kernel
theorem dX1_canLeaveClaim_33 : decode cX1_canLeaveClaim 33 = .ok (.goto (-31), 3) := by decide +kernel
theorem dX1_canLeaveClaim_36 : decode cX1_canLeaveClaim 36 = .ok (.iconst 0, 1) := by decide +kernel
theorem dX1_canLeaveClaim_37 : decode cX1_canLeaveClaim 37 = .ok (.ireturn, 1) := by decide +kernel
theorem dX0_init_0 : decode cX0_init 0 = .ok (.aload_n 0, 1) := by decide +kernel
theorem dX0_init_1 : decode cX0_init 1 = .ok (.invokespecial 1, 3) := by decide +kernel
theorem dX0_init_4 : decode cX0_init 4 = .ok (.aload_n 0, 1) := by decide +kernel
theorem dX0_init_5 : decode cX0_init 5 = .ok (.bipush 24, 2) := by decide +kernel
theorem dX0_init_7 : decode cX0_init 7 = .ok (.newarray .int, 2) := by decide +kernel
theorem dX0_init_9 : decode cX0_init 9 = .ok (.putfield 9, 3) := by decide +kernel
theorem dX0_init_12 : decode cX0_init 12 = .ok (.aload_n 0, 1) := by decide +kernel
theorem dX0_init_13 : decode cX0_init 13 = .ok (.bipush 24, 2) := by decide +kernel
theorem dX0_init_15 : decode cX0_init 15 = .ok (.newarray .int, 2) := by decide +kernel
theorem dX0_init_17 : decode cX0_init 17 = .ok (.putfield 13, 3) := by decide +kernel
theorem dX0_init_20 : decode cX0_init 20 = .ok (.aload_n 0, 1) := by decide +kernel
theorem dX0_init_21 : decode cX0_init 21 = .ok (.iconst 0, 1) := by decide +kernel
theorem dX0_init_22 : decode cX0_init 22 = .ok (.putfield 16, 3) := by decide +kernel
theorem dX0_init_25 : decode cX0_init 25 = .ok (.return_, 1) := by decide +kernel
theorem dX0_isFull_0 : decode cX0_isFull 0 = .ok (.aload_n 0, 1) := by decide +kernel
theorem dX0_isFull_1 : decode cX0_isFull 1 = .ok (.getfield 16, 3) := by decide +kernel
theorem dX0_isFull_4 : decode cX0_isFull 4 = .ok (.bipush 24, 2) := by decide +kernel
theorem dX0_isFull_6 : decode cX0_isFull 6 = .ok (.if_icmp .lt 7, 3) := by decide +kernel
theorem dX0_isFull_9 : decode cX0_isFull 9 = .ok (.iconst 1, 1) := by decide +kernel
theorem dX0_isFull_10 : decode cX0_isFull 10 = .ok (.goto 4, 3) := by decide +kernel
theorem dX0_isFull_13 : decode cX0_isFull 13 = .ok (.iconst 0, 1) := by decide +kernel
theorem dX0_isFull_14 : decode cX0_isFull 14 = .ok (.ireturn, 1) := by decide +kernel
theorem dX0_add_0 : decode cX0_add 0 = .ok (.aload_n 0, 1) := by decide +kernel
theorem dX0_add_1 : decode cX0_add 1 = .ok (.invokevirtual 20, 3) := by decide +kernel
theorem dX0_add_4 : decode cX0_add 4 = .ok (.ifCond .eq 4, 3) := by decide +kernel
theorem dX0_add_7 : decode cX0_add 7 = .ok (.return_, 1) := by decide +kernel
theorem dX0_add_8 : decode cX0_add 8 = .ok (.aload_n 0, 1) := by decide +kernel
theorem dX0_add_9 : decode cX0_add 9 = .ok (.getfield 9, 3) := by decide +kernel
theorem dX0_add_12 : decode cX0_add 12 = .ok (.aload_n 0, 1) := by decide +kernel
theorem dX0_add_13 : decode cX0_add 13 = .ok (.getfield 16, 3) := by decide +kernel
theorem dX0_add_16 : decode cX0_add 16 = .ok (.iload_n 1, 1) := by decide +kernel
theorem dX0_add_17 : decode cX0_add 17 = .ok (.iastore, 1) := by decide +kernel
theorem dX0_add_18 : decode cX0_add 18 = .ok (.aload_n 0, 1) := by decide +kernel
theorem dX0_add_19 : decode cX0_add 19 = .ok (.getfield 13, 3) := by decide +kernel
theorem dX0_add_22 : decode cX0_add 22 = .ok (.aload_n 0, 1) := by decide +kernel
theorem dX0_add_23 : decode cX0_add 23 = .ok (.getfield 16, 3) := by decide +kernel
theorem dX0_add_26 : decode cX0_add 26 = .ok (.iload_n 2, 1) := by decide +kernel
theorem dX0_add_27 : decode cX0_add 27 = .ok (.iastore, 1) := by decide +kernel
theorem dX0_add_28 : decode cX0_add 28 = .ok (.aload_n 0, 1) := by decide +kernel
theorem dX0_add_29 : decode cX0_add 29 = .ok (.dup, 1) := by decide +kernel
theorem dX0_add_30 : decode cX0_add 30 = .ok (.getfield 16, 3) := by decide +kernel
theorem dX0_add_33 : decode cX0_add 33 = .ok (.iconst 1, 1) := by decide +kernel
theorem dX0_add_34 : decode cX0_add 34 = .ok (.iadd, 1) := by decide +kernel
theorem dX0_add_35 : decode cX0_add 35 = .ok (.putfield 16, 3) := by decide +kernel
theorem dX0_add_38 : decode cX0_add 38 = .ok (.return_, 1) := by decide +kernel
theorem dX0_removeLast_0 : decode cX0_removeLast 0 = .ok (.aload_n 0, 1) := by decide +kernel
theorem dX0_removeLast_1 : decode cX0_removeLast 1 = .ok (.getfield 16, 3) := by decide +kernel
theorem dX0_removeLast_4 : decode cX0_removeLast 4 = .ok (.ifCond .le 13, 3) := by decide +kernel
theorem dX0_removeLast_7 : decode cX0_removeLast 7 = .ok (.aload_n 0, 1) := by decide +kernel
theorem dX0_removeLast_8 : decode cX0_removeLast 8 = .ok (.dup, 1) := by decide +kernel
theorem dX0_removeLast_9 : decode cX0_removeLast 9 = .ok (.getfield 16, 3) := by decide +kernel
theorem dX0_removeLast_12 : decode cX0_removeLast 12 = .ok (.iconst 1, 1) := by decide +kernel
theorem dX0_removeLast_13 : decode cX0_removeLast 13 = .ok (.isub, 1) := by decide +kernel
theorem dX0_removeLast_14 : decode cX0_removeLast 14 = .ok (.putfield 16, 3) := by decide +kernel
theorem dX0_removeLast_17 : decode cX0_removeLast 17 = .ok (.return_, 1) := by decide +kernel
theorem dX0_removeAll_0 : decode cX0_removeAll 0 = .ok (.aload_n 0, 1) := by decide +kernel
theorem dX0_removeAll_1 : decode cX0_removeAll 1 = .ok (.iconst 0, 1) := by decide +kernel
theorem dX0_removeAll_2 : decode cX0_removeAll 2 = .ok (.putfield 16, 3) := by decide +kernel
theorem dX0_removeAll_5 : decode cX0_removeAll 5 = .ok (.return_, 1) := by decide +kernel
theorem dX0_allHold_0 : decode cX0_allHold 0 = .ok (.iconst 0, 1) := by decide +kernel
theorem dX0_allHold_1 : decode cX0_allHold 1 = .ok (.istore_n 2, 1) := by decide +kernel
theorem dX0_allHold_2 : decode cX0_allHold 2 = .ok (.iload_n 2, 1) := by decide +kernel
theorem dX0_allHold_3 : decode cX0_allHold 3 = .ok (.aload_n 0, 1) := by decide +kernel
theorem dX0_allHold_4 : decode cX0_allHold 4 = .ok (.getfield 16, 3) := by decide +kernel
theorem dX0_allHold_7 : decode cX0_allHold 7 = .ok (.if_icmp .ge 35, 3) := by decide +kernel
theorem dX0_allHold_10 : decode cX0_allHold 10 = .ok (.aload_n 0, 1) := by decide +kernel
theorem dX0_allHold_11 : decode cX0_allHold 11 = .ok (.getfield 9, 3) := by decide +kernel
theorem dX0_allHold_14 : decode cX0_allHold 14 = .ok (.iload_n 2, 1) := by decide +kernel
theorem dX0_allHold_15 : decode cX0_allHold 15 = .ok (.iaload, 1) := by decide +kernel
theorem dX0_allHold_16 : decode cX0_allHold 16 = .ok (.iload_n 1, 1) := by decide +kernel
theorem dX0_allHold_17 : decode cX0_allHold 17 = .ok (.iand, 1) := by decide +kernel
theorem dX0_allHold_18 : decode cX0_allHold 18 = .ok (.ifCond .ne 18, 3) := by decide +kernel
theorem dX0_allHold_21 : decode cX0_allHold 21 = .ok (.aload_n 0, 1) := by decide +kernel
theorem dX0_allHold_22 : decode cX0_allHold 22 = .ok (.getfield 13, 3) := by decide +kernel
theorem dX0_allHold_25 : decode cX0_allHold 25 = .ok (.iload_n 2, 1) := by decide +kernel
theorem dX0_allHold_26 : decode cX0_allHold 26 = .ok (.iaload, 1) := by decide +kernel
theorem dX0_allHold_27 : decode cX0_allHold 27 = .ok (.iload_n 1, 1) := by decide +kernel
theorem dX0_allHold_28 : decode cX0_allHold 28 = .ok (.iconst (-1), 1) := by decide +kernel
theorem dX0_allHold_29 : decode cX0_allHold 29 = .ok (.ixor, 1) := by decide +kernel
theorem dX0_allHold_30 : decode cX0_allHold 30 = .ok (.iand, 1) := by decide +kernel
theorem dX0_allHold_31 : decode cX0_allHold 31 = .ok (.ifCond .ne 5, 3) := by decide +kernel
theorem dX0_allHold_34 : decode cX0_allHold 34 = .ok (.iconst 0, 1) := by decide +kernel
theorem dX0_allHold_35 : decode cX0_allHold 35 = .ok (.ireturn, 1) := by decide +kernel
theorem dX0_allHold_36 : decode cX0_allHold 36 = .ok (.iinc 2 1, 3) := by decide +kernel
theorem dX0_allHold_39 : decode cX0_allHold 39 = .ok (.goto (-37), 3) := by decide +kernel
theorem dX0_allHold_42 : decode cX0_allHold 42 = .ok (.iconst 1, 1) := by decide +kernel
theorem dX0_allHold_43 : decode cX0_allHold 43 = .ok (.ireturn, 1) := by decide +kernel
end
section
theorem dX2_init_0 : decode cX2_init 0 = .ok (.aload_n 0, 1) := by decide +kernel
theorem dX2_init_1 : decode cX2_init 1 = .ok (.invokespecial 1, 3) := by decide +kernel
theorem dX2_init_4 : decode cX2_init 4 = .ok (.aload_n 0, 1) := by decide +kernel
theorem dX2_init_5 : decode cX2_init 5 = .ok (.iconst 1, 1) := by decide +kernel
theorem dX2_init_6 : decode cX2_init 6 = .ok (.putfield 7, 3) := by decide +kernel
theorem dX2_init_9 : decode cX2_init 9 = .ok (.aload_n 0, 1) := by decide +kernel
theorem dX2_init_10 : decode cX2_init 10 = .ok (.iconst 4, 1) := by decide +kernel
theorem dX2_init_11 : decode cX2_init 11 = .ok (.newarray .int, 2) := by decide +kernel
theorem dX2_init_13 : decode cX2_init 13 = .ok (.putfield 13, 3) := by decide +kernel
theorem dX2_init_16 : decode cX2_init 16 = .ok (.aload_n 0, 1) := by decide +kernel
theorem dX2_init_17 : decode cX2_init 17 = .ok (.bipush 96, 2) := by decide +kernel
theorem dX2_init_19 : decode cX2_init 19 = .ok (.newarray .int, 2) := by decide +kernel
theorem dX2_init_21 : decode cX2_init 21 = .ok (.putfield 17, 3) := by decide +kernel
theorem dX2_init_24 : decode cX2_init 24 = .ok (.aload_n 0, 1) := by decide +kernel
theorem dX2_init_25 : decode cX2_init 25 = .ok (.bipush 96, 2) := by decide +kernel
theorem dX2_init_27 : decode cX2_init 27 = .ok (.newarray .int, 2) := by decide +kernel
theorem dX2_init_29 : decode cX2_init 29 = .ok (.putfield 20, 3) := by decide +kernel
theorem dX2_init_32 : decode cX2_init 32 = .ok (.aload_n 0, 1) := by decide +kernel
theorem dX2_init_33 : decode cX2_init 33 = .ok (.bipush 64, 2) := by decide +kernel
theorem dX2_init_35 : decode cX2_init 35 = .ok (.newarray .int, 2) := by decide +kernel
theorem dX2_init_37 : decode cX2_init 37 = .ok (.putfield 23, 3) := by decide +kernel
theorem dX2_init_40 : decode cX2_init 40 = .ok (.aload_n 0, 1) := by decide +kernel
theorem dX2_init_41 : decode cX2_init 41 = .ok (.bipush 64, 2) := by decide +kernel
theorem dX2_init_43 : decode cX2_init 43 = .ok (.newarray .int, 2) := by decide +kernel
theorem dX2_init_45 : decode cX2_init 45 = .ok (.putfield 26, 3) := by decide +kernel
theorem dX2_init_48 : decode cX2_init 48 = .ok (.return_, 1) := by decide +kernel
theorem dX2_states_0 : decode cX2_states 0 = .ok (.iconst 1, 1) := by decide +kernel
theorem dX2_states_1 : decode cX2_states 1 = .ok (.aload_n 0, 1) := by decide +kernel
theorem dX2_states_2 : decode cX2_states 2 = .ok (.getfield 7, 3) := by decide +kernel
theorem dX2_states_5 : decode cX2_states 5 = .ok (.ishl, 1) := by decide +kernel
theorem dX2_states_6 : decode cX2_states 6 = .ok (.ireturn, 1) := by decide +kernel
theorem dX2_isState_0 : decode cX2_isState 0 = .ok (.iload_n 1, 1) := by decide +kernel
theorem dX2_isState_1 : decode cX2_isState 1 = .ok (.ifCond .lt 15, 3) := by decide +kernel
theorem dX2_isState_4 : decode cX2_isState 4 = .ok (.iload_n 1, 1) := by decide +kernel
theorem dX2_isState_5 : decode cX2_isState 5 = .ok (.aload_n 0, 1) := by decide +kernel
theorem dX2_isState_6 : decode cX2_isState 6 = .ok (.invokevirtual 29, 3) := by decide +kernel
theorem dX2_isState_9 : decode cX2_isState 9 = .ok (.if_icmp .ge 7, 3) := by decide +kernel
theorem dX2_isState_12 : decode cX2_isState 12 = .ok (.iconst 1, 1) := by decide +kernel
theorem dX2_isState_13 : decode cX2_isState 13 = .ok (.goto 4, 3) := by decide +kernel
theorem dX2_isState_16 : decode cX2_isState 16 = .ok (.iconst 0, 1) := by decide +kernel
theorem dX2_isState_17 : decode cX2_isState 17 = .ok (.ireturn, 1) := by decide +kernel
theorem dX2_isList_0 : decode cX2_isList 0 = .ok (.iload_n 0, 1) := by decide +kernel
theorem dX2_isList_1 : decode cX2_isList 1 = .ok (.ifCond .lt 12, 3) := by decide +kernel
theorem dX2_isList_4 : decode cX2_isList 4 = .ok (.iload_n 0, 1) := by decide +kernel
theorem dX2_isList_5 : decode cX2_isList 5 = .ok (.iconst 4, 1) := by decide +kernel
theorem dX2_isList_6 : decode cX2_isList 6 = .ok (.if_icmp .ge 7, 3) := by decide +kernel
theorem dX2_isList_9 : decode cX2_isList 9 = .ok (.iconst 1, 1) := by decide +kernel
theorem dX2_isList_10 : decode cX2_isList 10 = .ok (.goto 4, 3) := by decide +kernel
theorem dX2_isList_13 : decode cX2_isList 13 = .ok (.iconst 0, 1) := by decide +kernel
theorem dX2_isList_14 : decode cX2_isList 14 = .ok (.ireturn, 1) := by decide +kernel
theorem dX2_begin_0 : decode cX2_begin 0 = .ok (.iload_n 1, 1) := by decide +kernel
theorem dX2_begin_1 : decode cX2_begin 1 = .ok (.iconst 1, 1) := by decide +kernel
theorem dX2_begin_2 : decode cX2_begin 2 = .ok (.if_icmp .lt 9, 3) := by decide +kernel
theorem dX2_begin_5 : decode cX2_begin 5 = .ok (.iload_n 1, 1) := by decide +kernel
theorem dX2_begin_6 : decode cX2_begin 6 = .ok (.bipush 6, 2) := by decide +kernel
theorem dX2_begin_8 : decode cX2_begin 8 = .ok (.if_icmp .le 5, 3) := by decide +kernel
theorem dX2_begin_11 : decode cX2_begin 11 = .ok (.iconst 0, 1) := by decide +kernel
theorem dX2_begin_12 : decode cX2_begin 12 = .ok (.ireturn, 1) := by decide +kernel
theorem dX2_begin_13 : decode cX2_begin 13 = .ok (.aload_n 0, 1) := by decide +kernel
theorem dX2_begin_14 : decode cX2_begin 14 = .ok (.iload_n 1, 1) := by decide +kernel
theorem dX2_begin_15 : decode cX2_begin 15 = .ok (.putfield 7, 3) := by decide +kernel
theorem dX2_begin_18 : decode cX2_begin 18 = .ok (.iconst 0, 1) := by decide +kernel
theorem dX2_begin_19 : decode cX2_begin 19 = .ok (.istore_n 2, 1) := by decide +kernel
theorem dX2_begin_20 : decode cX2_begin 20 = .ok (.iload_n 2, 1) := by decide +kernel
theorem dX2_begin_21 : decode cX2_begin 21 = .ok (.iconst 4, 1) := by decide +kernel
theorem dX2_begin_22 : decode cX2_begin 22 = .ok (.if_icmp .ge 16, 3) := by decide +kernel
theorem dX2_begin_25 : decode cX2_begin 25 = .ok (.aload_n 0, 1) := by decide +kernel
theorem dX2_begin_26 : decode cX2_begin 26 = .ok (.getfield 13, 3) := by decide +kernel
theorem dX2_begin_29 : decode cX2_begin 29 = .ok (.iload_n 2, 1) := by decide +kernel
theorem dX2_begin_30 : decode cX2_begin 30 = .ok (.iconst 0, 1) := by decide +kernel
theorem dX2_begin_31 : decode cX2_begin 31 = .ok (.iastore, 1) := by decide +kernel
theorem dX2_begin_32 : decode cX2_begin 32 = .ok (.iinc 2 1, 3) := by decide +kernel
theorem dX2_begin_35 : decode cX2_begin 35 = .ok (.goto (-15), 3) := by decide +kernel
theorem dX2_begin_38 : decode cX2_begin 38 = .ok (.aload_n 0, 1) := by decide +kernel
theorem dX2_begin_39 : decode cX2_begin 39 = .ok (.iconst 0, 1) := by decide +kernel
theorem dX2_begin_40 : decode cX2_begin 40 = .ok (.putfield 33, 3) := by decide +kernel
theorem dX2_begin_43 : decode cX2_begin 43 = .ok (.iconst 1, 1) := by decide +kernel
theorem dX2_begin_44 : decode cX2_begin 44 = .ok (.ireturn, 1) := by decide +kernel
theorem dX2_clause_0 : decode cX2_clause 0 = .ok (.iload_n 1, 1) := by decide +kernel
theorem dX2_clause_1 : decode cX2_clause 1 = .ok (.invokestatic 36, 3) := by decide +kernel
theorem dX2_clause_4 : decode cX2_clause 4 = .ok (.ifCond .eq 14, 3) := by decide +kernel
theorem dX2_clause_7 : decode cX2_clause 7 = .ok (.aload_n 0, 1) := by decide +kernel
theorem dX2_clause_8 : decode cX2_clause 8 = .ok (.getfield 13, 3) := by decide +kernel
theorem dX2_clause_11 : decode cX2_clause 11 = .ok (.iload_n 1, 1) := by decide +kernel
theorem dX2_clause_12 : decode cX2_clause 12 = .ok (.iaload, 1) := by decide +kernel
theorem dX2_clause_13 : decode cX2_clause 13 = .ok (.bipush 24, 2) := by decide +kernel
theorem dX2_clause_15 : decode cX2_clause 15 = .ok (.if_icmp .ne 5, 3) := by decide +kernel
theorem dX2_clause_18 : decode cX2_clause 18 = .ok (.iconst (-1), 1) := by decide +kernel
theorem dX2_clause_19 : decode cX2_clause 19 = .ok (.ireturn, 1) := by decide +kernel
theorem dX2_clause_20 : decode cX2_clause 20 = .ok (.iload_n 1, 1) := by decide +kernel
theorem dX2_clause_21 : decode cX2_clause 21 = .ok (.iconst 1, 1) := by decide +kernel
theorem dX2_clause_22 : decode cX2_clause 22 = .ok (.if_icmp .ne 14, 3) := by decide +kernel
theorem dX2_clause_25 : decode cX2_clause 25 = .ok (.iconst 1, 1) := by decide +kernel
theorem dX2_clause_26 : decode cX2_clause 26 = .ok (.iconst 2, 1) := by decide +kernel
theorem dX2_clause_27 : decode cX2_clause 27 = .ok (.aload_n 0, 1) := by decide +kernel
theorem dX2_clause_28 : decode cX2_clause 28 = .ok (.getfield 7, 3) := by decide +kernel
theorem dX2_clause_31 : decode cX2_clause 31 = .ok (.imul, 1) := by decide +kernel
theorem dX2_clause_32 : decode cX2_clause 32 = .ok (.ishl, 1) := by decide +kernel
theorem dX2_clause_33 : decode cX2_clause 33 = .ok (.goto 9, 3) := by decide +kernel
theorem dX2_clause_36 : decode cX2_clause 36 = .ok (.iconst 1, 1) := by decide +kernel
theorem dX2_clause_37 : decode cX2_clause 37 = .ok (.aload_n 0, 1) := by decide +kernel
theorem dX2_clause_38 : decode cX2_clause 38 = .ok (.getfield 7, 3) := by decide +kernel
theorem dX2_clause_41 : decode cX2_clause 41 = .ok (.ishl, 1) := by decide +kernel
theorem dX2_clause_42 : decode cX2_clause 42 = .ok (.istore 4, 2) := by decide +kernel
theorem dX2_clause_44 : decode cX2_clause 44 = .ok (.iload_n 2, 1) := by decide +kernel
theorem dX2_clause_45 : decode cX2_clause 45 = .ok (.ifCond .lt 19, 3) := by decide +kernel
theorem dX2_clause_48 : decode cX2_clause 48 = .ok (.iload_n 3, 1) := by decide +kernel
theorem dX2_clause_49 : decode cX2_clause 49 = .ok (.ifCond .lt 15, 3) := by decide +kernel
theorem dX2_clause_52 : decode cX2_clause 52 = .ok (.iload_n 2, 1) := by decide +kernel
theorem dX2_clause_53 : decode cX2_clause 53 = .ok (.iload 4, 2) := by decide +kernel
theorem dX2_clause_55 : decode cX2_clause 55 = .ok (.if_icmp .ge 9, 3) := by decide +kernel
theorem dX2_clause_58 : decode cX2_clause 58 = .ok (.iload_n 3, 1) := by decide +kernel
theorem dX2_clause_59 : decode cX2_clause 59 = .ok (.iload 4, 2) := by decide +kernel
theorem dX2_clause_61 : decode cX2_clause 61 = .ok (.if_icmp .lt 5, 3) := by decide +kernel
theorem dX2_clause_64 : decode cX2_clause 64 = .ok (.iconst (-1), 1) := by decide +kernel
theorem dX2_clause_65 : decode cX2_clause 65 = .ok (.ireturn, 1) := by decide +kernel
theorem dX2_clause_66 : decode cX2_clause 66 = .ok (.aload_n 0, 1) := by decide +kernel
theorem dX2_clause_67 : decode cX2_clause 67 = .ok (.getfield 13, 3) := by decide +kernel
theorem dX2_clause_70 : decode cX2_clause 70 = .ok (.iload_n 1, 1) := by decide +kernel
theorem dX2_clause_71 : decode cX2_clause 71 = .ok (.iaload, 1) := by decide +kernel
theorem dX2_clause_72 : decode cX2_clause 72 = .ok (.istore 5, 2) := by decide +kernel
theorem dX2_clause_74 : decode cX2_clause 74 = .ok (.aload_n 0, 1) := by decide +kernel
theorem dX2_clause_75 : decode cX2_clause 75 = .ok (.getfield 17, 3) := by decide +kernel
theorem dX2_clause_78 : decode cX2_clause 78 = .ok (.bipush 24, 2) := by decide +kernel
theorem dX2_clause_80 : decode cX2_clause 80 = .ok (.iload_n 1, 1) := by decide +kernel
theorem dX2_clause_81 : decode cX2_clause 81 = .ok (.imul, 1) := by decide +kernel
theorem dX2_clause_82 : decode cX2_clause 82 = .ok (.iload 5, 2) := by decide +kernel
theorem dX2_clause_84 : decode cX2_clause 84 = .ok (.iadd, 1) := by decide +kernel
theorem dX2_clause_85 : decode cX2_clause 85 = .ok (.iload_n 2, 1) := by decide +kernel
theorem dX2_clause_86 : decode cX2_clause 86 = .ok (.iastore, 1) := by decide +kernel
theorem dX2_clause_87 : decode cX2_clause 87 = .ok (.aload_n 0, 1) := by decide +kernel
theorem dX2_clause_88 : decode cX2_clause 88 = .ok (.getfield 20, 3) := by decide +kernel
theorem dX2_clause_91 : decode cX2_clause 91 = .ok (.bipush 24, 2) := by decide +kernel
theorem dX2_clause_93 : decode cX2_clause 93 = .ok (.iload_n 1, 1) := by decide +kernel
theorem dX2_clause_94 : decode cX2_clause 94 = .ok (.imul, 1) := by decide +kernel
theorem dX2_clause_95 : decode cX2_clause 95 = .ok (.iload 5, 2) := by decide +kernel
theorem dX2_clause_97 : decode cX2_clause 97 = .ok (.iadd, 1) := by decide +kernel
theorem dX2_clause_98 : decode cX2_clause 98 = .ok (.iload_n 3, 1) := by decide +kernel
theorem dX2_clause_99 : decode cX2_clause 99 = .ok (.iastore, 1) := by decide +kernel
theorem dX2_clause_100 : decode cX2_clause 100 = .ok (.aload_n 0, 1) := by decide +kernel
theorem dX2_clause_101 : decode cX2_clause 101 = .ok (.getfield 13, 3) := by decide +kernel
theorem dX2_clause_104 : decode cX2_clause 104 = .ok (.iload_n 1, 1) := by decide +kernel
theorem dX2_clause_105 : decode cX2_clause 105 = .ok (.iload 5, 2) := by decide +kernel
theorem dX2_clause_107 : decode cX2_clause 107 = .ok (.iconst 1, 1) := by decide +kernel
theorem dX2_clause_108 : decode cX2_clause 108 = .ok (.iadd, 1) := by decide +kernel
theorem dX2_clause_109 : decode cX2_clause 109 = .ok (.iastore, 1) := by decide +kernel
theorem dX2_clause_110 : decode cX2_clause 110 = .ok (.aload_n 0, 1) := by decide +kernel
theorem dX2_clause_111 : decode cX2_clause 111 = .ok (.iconst 0, 1) := by decide +kernel
theorem dX2_clause_112 : decode cX2_clause 112 = .ok (.putfield 33, 3) := by decide +kernel
theorem dX2_clause_115 : decode cX2_clause 115 = .ok (.iload 5, 2) := by decide +kernel
theorem dX2_clause_117 : decode cX2_clause 117 = .ok (.ireturn, 1) := by decide +kernel
theorem dX2_drop_0 : decode cX2_drop 0 = .ok (.iload_n 1, 1) := by decide +kernel
theorem dX2_drop_1 : decode cX2_drop 1 = .ok (.invokestatic 36, 3) := by decide +kernel
theorem dX2_drop_4 : decode cX2_drop 4 = .ok (.ifCond .eq 12, 3) := by decide +kernel
theorem dX2_drop_7 : decode cX2_drop 7 = .ok (.aload_n 0, 1) := by decide +kernel
theorem dX2_drop_8 : decode cX2_drop 8 = .ok (.getfield 13, 3) := by decide +kernel
theorem dX2_drop_11 : decode cX2_drop 11 = .ok (.iload_n 1, 1) := by decide +kernel
theorem dX2_drop_12 : decode cX2_drop 12 = .ok (.iaload, 1) := by decide +kernel
theorem dX2_drop_13 : decode cX2_drop 13 = .ok (.ifCond .ne 5, 3) := by decide +kernel
theorem dX2_drop_16 : decode cX2_drop 16 = .ok (.iconst (-1), 1) := by decide +kernel
theorem dX2_drop_17 : decode cX2_drop 17 = .ok (.ireturn, 1) := by decide +kernel
theorem dX2_drop_18 : decode cX2_drop 18 = .ok (.aload_n 0, 1) := by decide +kernel
theorem dX2_drop_19 : decode cX2_drop 19 = .ok (.getfield 13, 3) := by decide +kernel
theorem dX2_drop_22 : decode cX2_drop 22 = .ok (.iload_n 1, 1) := by decide +kernel
theorem dX2_drop_23 : decode cX2_drop 23 = .ok (.dup2, 1) := by decide +kernel
theorem dX2_drop_24 : decode cX2_drop 24 = .ok (.iaload, 1) := by decide +kernel
theorem dX2_drop_25 : decode cX2_drop 25 = .ok (.iconst 1, 1) := by decide +kernel
theorem dX2_drop_26 : decode cX2_drop 26 = .ok (.isub, 1) := by decide +kernel
theorem dX2_drop_27 : decode cX2_drop 27 = .ok (.iastore, 1) := by decide +kernel
theorem dX2_drop_28 : decode cX2_drop 28 = .ok (.aload_n 0, 1) := by decide +kernel
theorem dX2_drop_29 : decode cX2_drop 29 = .ok (.iconst 0, 1) := by decide +kernel
theorem dX2_drop_30 : decode cX2_drop 30 = .ok (.putfield 33, 3) := by decide +kernel
theorem dX2_drop_33 : decode cX2_drop 33 = .ok (.aload_n 0, 1) := by decide +kernel
theorem dX2_drop_34 : decode cX2_drop 34 = .ok (.getfield 13, 3) := by decide +kernel
theorem dX2_drop_37 : decode cX2_drop 37 = .ok (.iload_n 1, 1) := by decide +kernel
theorem dX2_drop_38 : decode cX2_drop 38 = .ok (.iaload, 1) := by decide +kernel
theorem dX2_drop_39 : decode cX2_drop 39 = .ok (.ireturn, 1) := by decide +kernel
theorem dX2_switches_0 : decode cX2_switches 0 = .ok (.aload_n 0, 1) := by decide +kernel
theorem dX2_switches_1 : decode cX2_switches 1 = .ok (.getfield 7, 3) := by decide +kernel
theorem dX2_switches_4 : decode cX2_switches 4 = .ok (.ireturn, 1) := by decide +kernel
theorem dX2_count_0 : decode cX2_count 0 = .ok (.iload_n 1, 1) := by decide +kernel
theorem dX2_count_1 : decode cX2_count 1 = .ok (.invokestatic 36, 3) := by decide +kernel
theorem dX2_count_4 : decode cX2_count 4 = .ok (.ifCond .eq 12, 3) := by decide +kernel
theorem dX2_count_7 : decode cX2_count 7 = .ok (.aload_n 0, 1) := by decide +kernel
theorem dX2_count_8 : decode cX2_count 8 = .ok (.getfield 13, 3) := by decide +kernel
theorem dX2_count_11 : decode cX2_count 11 = .ok (.iload_n 1, 1) := by decide +kernel
theorem dX2_count_12 : decode cX2_count 12 = .ok (.iaload, 1) := by decide +kernel
theorem dX2_count_13 : decode cX2_count 13 = .ok (.goto 4, 3) := by decide +kernel
theorem dX2_count_16 : decode cX2_count 16 = .ok (.iconst (-1), 1) := by decide +kernel
theorem dX2_count_17 : decode cX2_count 17 = .ok (.ireturn, 1) := by decide +kernel
theorem dX2_isSo_0 : decode cX2_isSo 0 = .ok (.iconst 0, 1) := by decide +kernel
theorem dX2_isSo_1 : decode cX2_isSo 1 = .ok (.istore_n 3, 1) := by decide +kernel
theorem dX2_isSo_2 : decode cX2_isSo 2 = .ok (.iload_n 3, 1) := by decide +kernel
theorem dX2_isSo_3 : decode cX2_isSo 3 = .ok (.aload_n 0, 1) := by decide +kernel
theorem dX2_isSo_4 : decode cX2_isSo 4 = .ok (.getfield 13, 3) := by decide +kernel
theorem dX2_isSo_7 : decode cX2_isSo 7 = .ok (.iload_n 1, 1) := by decide +kernel
theorem dX2_isSo_8 : decode cX2_isSo 8 = .ok (.iaload, 1) := by decide +kernel
theorem dX2_isSo_9 : decode cX2_isSo 9 = .ok (.if_icmp .ge 118, 3) := by decide +kernel
theorem dX2_isSo_12 : decode cX2_isSo 12 = .ok (.bipush 24, 2) := by decide +kernel
theorem dX2_isSo_14 : decode cX2_isSo 14 = .ok (.iload_n 1, 1) := by decide +kernel
theorem dX2_isSo_15 : decode cX2_isSo 15 = .ok (.imul, 1) := by decide +kernel
theorem dX2_isSo_16 : decode cX2_isSo 16 = .ok (.iload_n 3, 1) := by decide +kernel
theorem dX2_isSo_17 : decode cX2_isSo 17 = .ok (.iadd, 1) := by decide +kernel
theorem dX2_isSo_18 : decode cX2_isSo 18 = .ok (.istore 4, 2) := by decide +kernel
theorem dX2_isSo_20 : decode cX2_isSo 20 = .ok (.iconst 0, 1) := by decide +kernel
theorem dX2_isSo_21 : decode cX2_isSo 21 = .ok (.istore 5, 2) := by decide +kernel
theorem dX2_isSo_23 : decode cX2_isSo 23 = .ok (.iconst 0, 1) := by decide +kernel
theorem dX2_isSo_24 : decode cX2_isSo 24 = .ok (.istore 6, 2) := by decide +kernel
theorem dX2_isSo_26 : decode cX2_isSo 26 = .ok (.iload 6, 2) := by decide +kernel
theorem dX2_isSo_28 : decode cX2_isSo 28 = .ok (.iconst 2, 1) := by decide +kernel
theorem dX2_isSo_29 : decode cX2_isSo 29 = .ok (.aload_n 0, 1) := by decide +kernel
theorem dX2_isSo_30 : decode cX2_isSo 30 = .ok (.getfield 7, 3) := by decide +kernel
theorem dX2_isSo_33 : decode cX2_isSo 33 = .ok (.imul, 1) := by decide +kernel
theorem dX2_isSo_34 : decode cX2_isSo 34 = .ok (.if_icmp .ge 80, 3) := by decide +kernel
theorem dX2_isSo_37 : decode cX2_isSo 37 = .ok (.iload_n 2, 1) := by decide +kernel
theorem dX2_isSo_38 : decode cX2_isSo 38 = .ok (.iload 6, 2) := by decide +kernel
theorem dX2_isSo_40 : decode cX2_isSo 40 = .ok (.ishr, 1) := by decide +kernel
theorem dX2_isSo_41 : decode cX2_isSo 41 = .ok (.iconst 1, 1) := by decide +kernel
theorem dX2_isSo_42 : decode cX2_isSo 42 = .ok (.iand, 1) := by decide +kernel
theorem dX2_isSo_43 : decode cX2_isSo 43 = .ok (.iconst 1, 1) := by decide +kernel
theorem dX2_isSo_44 : decode cX2_isSo 44 = .ok (.if_icmp .ne 7, 3) := by decide +kernel
theorem dX2_isSo_47 : decode cX2_isSo 47 = .ok (.iconst 1, 1) := by decide +kernel
theorem dX2_isSo_48 : decode cX2_isSo 48 = .ok (.goto 4, 3) := by decide +kernel
theorem dX2_isSo_51 : decode cX2_isSo 51 = .ok (.iconst 0, 1) := by decide +kernel
theorem dX2_isSo_52 : decode cX2_isSo 52 = .ok (.istore 7, 2) := by decide +kernel
theorem dX2_isSo_54 : decode cX2_isSo 54 = .ok (.iload 5, 2) := by decide +kernel
theorem dX2_isSo_56 : decode cX2_isSo 56 = .ok (.ifCond .ne 45, 3) := by decide +kernel
theorem dX2_isSo_59 : decode cX2_isSo 59 = .ok (.aload_n 0, 1) := by decide +kernel
theorem dX2_isSo_60 : decode cX2_isSo 60 = .ok (.getfield 17, 3) := by decide +kernel
theorem dX2_isSo_63 : decode cX2_isSo 63 = .ok (.iload 4, 2) := by decide +kernel
theorem dX2_isSo_65 : decode cX2_isSo 65 = .ok (.iaload, 1) := by decide +kernel
theorem dX2_isSo_66 : decode cX2_isSo 66 = .ok (.iload 6, 2) := by decide +kernel
theorem dX2_isSo_68 : decode cX2_isSo 68 = .ok (.ishr, 1) := by decide +kernel
theorem dX2_isSo_69 : decode cX2_isSo 69 = .ok (.iconst 1, 1) := by decide +kernel
theorem dX2_isSo_70 : decode cX2_isSo 70 = .ok (.iand, 1) := by decide +kernel
theorem dX2_isSo_71 : decode cX2_isSo 71 = .ok (.iconst 1, 1) := by decide +kernel
theorem dX2_isSo_72 : decode cX2_isSo 72 = .ok (.if_icmp .ne 8, 3) := by decide +kernel
theorem dX2_isSo_75 : decode cX2_isSo 75 = .ok (.iload 7, 2) := by decide +kernel
theorem dX2_isSo_77 : decode cX2_isSo 77 = .ok (.ifCond .ne 24, 3) := by decide +kernel
theorem dX2_isSo_80 : decode cX2_isSo 80 = .ok (.aload_n 0, 1) := by decide +kernel
theorem dX2_isSo_81 : decode cX2_isSo 81 = .ok (.getfield 20, 3) := by decide +kernel
theorem dX2_isSo_84 : decode cX2_isSo 84 = .ok (.iload 4, 2) := by decide +kernel
theorem dX2_isSo_86 : decode cX2_isSo 86 = .ok (.iaload, 1) := by decide +kernel
theorem dX2_isSo_87 : decode cX2_isSo 87 = .ok (.iload 6, 2) := by decide +kernel
theorem dX2_isSo_89 : decode cX2_isSo 89 = .ok (.ishr, 1) := by decide +kernel
theorem dX2_isSo_90 : decode cX2_isSo 90 = .ok (.iconst 1, 1) := by decide +kernel
theorem dX2_isSo_91 : decode cX2_isSo 91 = .ok (.iand, 1) := by decide +kernel
theorem dX2_isSo_92 : decode cX2_isSo 92 = .ok (.iconst 1, 1) := by decide +kernel
theorem dX2_isSo_93 : decode cX2_isSo 93 = .ok (.if_icmp .ne 12, 3) := by decide +kernel
theorem dX2_isSo_96 : decode cX2_isSo 96 = .ok (.iload 7, 2) := by decide +kernel
theorem dX2_isSo_98 : decode cX2_isSo 98 = .ok (.ifCond .ne 7, 3) := by decide +kernel
theorem dX2_isSo_101 : decode cX2_isSo 101 = .ok (.iconst 1, 1) := by decide +kernel
theorem dX2_isSo_102 : decode cX2_isSo 102 = .ok (.goto 4, 3) := by decide +kernel
theorem dX2_isSo_105 : decode cX2_isSo 105 = .ok (.iconst 0, 1) := by decide +kernel
theorem dX2_isSo_106 : decode cX2_isSo 106 = .ok (.istore 5, 2) := by decide +kernel
theorem dX2_isSo_108 : decode cX2_isSo 108 = .ok (.iinc 6 1, 3) := by decide +kernel
theorem dX2_isSo_111 : decode cX2_isSo 111 = .ok (.goto (-85), 3) := by decide +kernel
theorem dX2_isSo_114 : decode cX2_isSo 114 = .ok (.iload 5, 2) := by decide +kernel
theorem dX2_isSo_116 : decode cX2_isSo 116 = .ok (.ifCond .ne 5, 3) := by decide +kernel
theorem dX2_isSo_119 : decode cX2_isSo 119 = .ok (.iconst 0, 1) := by decide +kernel
theorem dX2_isSo_120 : decode cX2_isSo 120 = .ok (.ireturn, 1) := by decide +kernel
theorem dX2_isSo_121 : decode cX2_isSo 121 = .ok (.iinc 3 1, 3) := by decide +kernel
theorem dX2_isSo_124 : decode cX2_isSo 124 = .ok (.goto (-122), 3) := by decide +kernel
theorem dX2_isSo_127 : decode cX2_isSo 127 = .ok (.iconst 1, 1) := by decide +kernel
theorem dX2_isSo_128 : decode cX2_isSo 128 = .ok (.ireturn, 1) := by decide +kernel
theorem dX2_leads_0 : decode cX2_leads 0 = .ok (.aload_n 0, 1) := by decide +kernel
theorem dX2_leads_1 : decode cX2_leads 1 = .ok (.iconst 1, 1) := by decide +kernel
theorem dX2_leads_2 : decode cX2_leads 2 = .ok (.iload_n 1, 1) := by decide +kernel
theorem dX2_leads_3 : decode cX2_leads 3 = .ok (.iload_n 2, 1) := by decide +kernel
theorem dX2_leads_4 : decode cX2_leads 4 = .ok (.aload_n 0, 1) := by decide +kernel
theorem dX2_leads_5 : decode cX2_leads 5 = .ok (.getfield 7, 3) := by decide +kernel
theorem dX2_leads_8 : decode cX2_leads 8 = .ok (.ishl, 1) := by decide +kernel
theorem dX2_leads_9 : decode cX2_leads 9 = .ok (.ior, 1) := by decide +kernel
theorem dX2_leads_10 : decode cX2_leads 10 = .ok (.invokevirtual 40, 3) := by decide +kernel
theorem dX2_leads_13 : decode cX2_leads 13 = .ok (.ireturn, 1) := by decide +kernel
theorem dX2_holds_0 : decode cX2_holds 0 = .ok (.iload_n 1, 1) := by decide +kernel
theorem dX2_holds_1 : decode cX2_holds 1 = .ok (.invokestatic 36, 3) := by decide +kernel
theorem dX2_holds_4 : decode cX2_holds 4 = .ok (.ifCond .eq 24, 3) := by decide +kernel
theorem dX2_holds_7 : decode cX2_holds 7 = .ok (.aload_n 0, 1) := by decide +kernel
theorem dX2_holds_8 : decode cX2_holds 8 = .ok (.iload_n 2, 1) := by decide +kernel
theorem dX2_holds_9 : decode cX2_holds 9 = .ok (.invokevirtual 44, 3) := by decide +kernel
theorem dX2_holds_12 : decode cX2_holds 12 = .ok (.ifCond .eq 16, 3) := by decide +kernel
theorem dX2_holds_15 : decode cX2_holds 15 = .ok (.iload_n 1, 1) := by decide +kernel
theorem dX2_holds_16 : decode cX2_holds 16 = .ok (.iconst 1, 1) := by decide +kernel
theorem dX2_holds_17 : decode cX2_holds 17 = .ok (.if_icmp .ne 13, 3) := by decide +kernel
theorem dX2_holds_20 : decode cX2_holds 20 = .ok (.aload_n 0, 1) := by decide +kernel
theorem dX2_holds_21 : decode cX2_holds 21 = .ok (.iload_n 3, 1) := by decide +kernel
theorem dX2_holds_22 : decode cX2_holds 22 = .ok (.invokevirtual 44, 3) := by decide +kernel
theorem dX2_holds_25 : decode cX2_holds 25 = .ok (.ifCond .ne 5, 3) := by decide +kernel
theorem dX2_holds_28 : decode cX2_holds 28 = .ok (.iconst 0, 1) := by decide +kernel
theorem dX2_holds_29 : decode cX2_holds 29 = .ok (.ireturn, 1) := by decide +kernel
theorem dX2_holds_30 : decode cX2_holds 30 = .ok (.iload_n 1, 1) := by decide +kernel
theorem dX2_holds_31 : decode cX2_holds 31 = .ok (.iconst 1, 1) := by decide +kernel
theorem dX2_holds_32 : decode cX2_holds 32 = .ok (.if_icmp .ne 12, 3) := by decide +kernel
theorem dX2_holds_35 : decode cX2_holds 35 = .ok (.aload_n 0, 1) := by decide +kernel
theorem dX2_holds_36 : decode cX2_holds 36 = .ok (.iload_n 2, 1) := by decide +kernel
theorem dX2_holds_37 : decode cX2_holds 37 = .ok (.iload_n 3, 1) := by decide +kernel
theorem dX2_holds_38 : decode cX2_holds 38 = .ok (.invokevirtual 47, 3) := by decide +kernel
theorem dX2_holds_41 : decode cX2_holds 41 = .ok (.goto 9, 3) := by decide +kernel
theorem dX2_holds_44 : decode cX2_holds 44 = .ok (.aload_n 0, 1) := by decide +kernel
theorem dX2_holds_45 : decode cX2_holds 45 = .ok (.iload_n 1, 1) := by decide +kernel
theorem dX2_holds_46 : decode cX2_holds 46 = .ok (.iload_n 2, 1) := by decide +kernel
theorem dX2_holds_47 : decode cX2_holds 47 = .ok (.invokevirtual 40, 3) := by decide +kernel
theorem dX2_holds_50 : decode cX2_holds 50 = .ok (.ireturn, 1) := by decide +kernel
theorem dX2_explore_0 : decode cX2_explore 0 = .ok (.iconst 0, 1) := by decide +kernel
theorem dX2_explore_1 : decode cX2_explore 1 = .ok (.istore_n 1, 1) := by decide +kernel
theorem dX2_explore_2 : decode cX2_explore 2 = .ok (.iload_n 1, 1) := by decide +kernel
theorem dX2_explore_3 : decode cX2_explore 3 = .ok (.aload_n 0, 1) := by decide +kernel
theorem dX2_explore_4 : decode cX2_explore 4 = .ok (.invokevirtual 29, 3) := by decide +kernel
theorem dX2_explore_7 : decode cX2_explore 7 = .ok (.if_icmp .ge 29, 3) := by decide +kernel
theorem dX2_explore_10 : decode cX2_explore 10 = .ok (.aload_n 0, 1) := by decide +kernel
theorem dX2_explore_11 : decode cX2_explore 11 = .ok (.getfield 26, 3) := by decide +kernel
theorem dX2_explore_14 : decode cX2_explore 14 = .ok (.iload_n 1, 1) := by decide +kernel
theorem dX2_explore_15 : decode cX2_explore 15 = .ok (.aload_n 0, 1) := by decide +kernel
theorem dX2_explore_16 : decode cX2_explore 16 = .ok (.iconst 0, 1) := by decide +kernel
theorem dX2_explore_17 : decode cX2_explore 17 = .ok (.iload_n 1, 1) := by decide +kernel
theorem dX2_explore_18 : decode cX2_explore 18 = .ok (.invokevirtual 40, 3) := by decide +kernel
theorem dX2_explore_21 : decode cX2_explore 21 = .ok (.ifCond .eq 7, 3) := by decide +kernel
theorem dX2_explore_24 : decode cX2_explore 24 = .ok (.iconst 0, 1) := by decide +kernel
theorem dX2_explore_25 : decode cX2_explore 25 = .ok (.goto 4, 3) := by decide +kernel
theorem dX2_explore_28 : decode cX2_explore 28 = .ok (.iconst (-1), 1) := by decide +kernel
theorem dX2_explore_29 : decode cX2_explore 29 = .ok (.iastore, 1) := by decide +kernel
theorem dX2_explore_30 : decode cX2_explore 30 = .ok (.iinc 1 1, 3) := by decide +kernel
theorem dX2_explore_33 : decode cX2_explore 33 = .ok (.goto (-31), 3) := by decide +kernel
theorem dX2_explore_36 : decode cX2_explore 36 = .ok (.iconst 1, 1) := by decide +kernel
theorem dX2_explore_37 : decode cX2_explore 37 = .ok (.istore_n 1, 1) := by decide +kernel
theorem dX2_explore_38 : decode cX2_explore 38 = .ok (.iconst 0, 1) := by decide +kernel
theorem dX2_explore_39 : decode cX2_explore 39 = .ok (.istore_n 2, 1) := by decide +kernel
theorem dX2_explore_40 : decode cX2_explore 40 = .ok (.iload_n 1, 1) := by decide +kernel
theorem dX2_explore_41 : decode cX2_explore 41 = .ok (.ifCond .eq 87, 3) := by decide +kernel
theorem dX2_explore_44 : decode cX2_explore 44 = .ok (.iconst 0, 1) := by decide +kernel
theorem dX2_explore_45 : decode cX2_explore 45 = .ok (.istore_n 1, 1) := by decide +kernel
theorem dX2_explore_46 : decode cX2_explore 46 = .ok (.iconst 0, 1) := by decide +kernel
theorem dX2_explore_47 : decode cX2_explore 47 = .ok (.istore_n 3, 1) := by decide +kernel
theorem dX2_explore_48 : decode cX2_explore 48 = .ok (.iload_n 3, 1) := by decide +kernel
theorem dX2_explore_49 : decode cX2_explore 49 = .ok (.aload_n 0, 1) := by decide +kernel
theorem dX2_explore_50 : decode cX2_explore 50 = .ok (.invokevirtual 29, 3) := by decide +kernel
theorem dX2_explore_53 : decode cX2_explore 53 = .ok (.if_icmp .ge 69, 3) := by decide +kernel
theorem dX2_explore_56 : decode cX2_explore 56 = .ok (.iconst 0, 1) := by decide +kernel
theorem dX2_explore_57 : decode cX2_explore 57 = .ok (.istore 4, 2) := by decide +kernel
theorem dX2_explore_59 : decode cX2_explore 59 = .ok (.iload 4, 2) := by decide +kernel
theorem dX2_explore_61 : decode cX2_explore 61 = .ok (.aload_n 0, 1) := by decide +kernel
theorem dX2_explore_62 : decode cX2_explore 62 = .ok (.invokevirtual 29, 3) := by decide +kernel
theorem dX2_explore_65 : decode cX2_explore 65 = .ok (.if_icmp .ge 51, 3) := by decide +kernel
theorem dX2_explore_68 : decode cX2_explore 68 = .ok (.aload_n 0, 1) := by decide +kernel
theorem dX2_explore_69 : decode cX2_explore 69 = .ok (.getfield 26, 3) := by decide +kernel
theorem dX2_explore_72 : decode cX2_explore 72 = .ok (.iload_n 3, 1) := by decide +kernel
theorem dX2_explore_73 : decode cX2_explore 73 = .ok (.iaload, 1) := by decide +kernel
theorem dX2_explore_74 : decode cX2_explore 74 = .ok (.iload_n 2, 1) := by decide +kernel
theorem dX2_explore_75 : decode cX2_explore 75 = .ok (.if_icmp .ne 41, 3) := by decide +kernel
theorem dX2_explore_78 : decode cX2_explore 78 = .ok (.aload_n 0, 1) := by decide +kernel
theorem dX2_explore_79 : decode cX2_explore 79 = .ok (.getfield 26, 3) := by decide +kernel
theorem dX2_explore_82 : decode cX2_explore 82 = .ok (.iload 4, 2) := by decide +kernel
theorem dX2_explore_84 : decode cX2_explore 84 = .ok (.iaload, 1) := by decide +kernel
theorem dX2_explore_85 : decode cX2_explore 85 = .ok (.ifCond .ge 25, 3) := by decide +kernel
theorem dX2_explore_88 : decode cX2_explore 88 = .ok (.aload_n 0, 1) := by decide +kernel
theorem dX2_explore_89 : decode cX2_explore 89 = .ok (.iload_n 3, 1) := by decide +kernel
theorem dX2_explore_90 : decode cX2_explore 90 = .ok (.iload 4, 2) := by decide +kernel
theorem dX2_explore_92 : decode cX2_explore 92 = .ok (.invokevirtual 47, 3) := by decide +kernel
theorem dX2_explore_95 : decode cX2_explore 95 = .ok (.ifCond .eq 15, 3) := by decide +kernel
theorem dX2_explore_98 : decode cX2_explore 98 = .ok (.aload_n 0, 1) := by decide +kernel
theorem dX2_explore_99 : decode cX2_explore 99 = .ok (.getfield 26, 3) := by decide +kernel
theorem dX2_explore_102 : decode cX2_explore 102 = .ok (.iload 4, 2) := by decide +kernel
theorem dX2_explore_104 : decode cX2_explore 104 = .ok (.iload_n 2, 1) := by decide +kernel
theorem dX2_explore_105 : decode cX2_explore 105 = .ok (.iconst 1, 1) := by decide +kernel
theorem dX2_explore_106 : decode cX2_explore 106 = .ok (.iadd, 1) := by decide +kernel
theorem dX2_explore_107 : decode cX2_explore 107 = .ok (.iastore, 1) := by decide +kernel
theorem dX2_explore_108 : decode cX2_explore 108 = .ok (.iconst 1, 1) := by decide +kernel
theorem dX2_explore_109 : decode cX2_explore 109 = .ok (.istore_n 1, 1) := by decide +kernel
theorem dX2_explore_110 : decode cX2_explore 110 = .ok (.iinc 4 1, 3) := by decide +kernel
theorem dX2_explore_113 : decode cX2_explore 113 = .ok (.goto (-54), 3) := by decide +kernel
theorem dX2_explore_116 : decode cX2_explore 116 = .ok (.iinc 3 1, 3) := by decide +kernel
theorem dX2_explore_119 : decode cX2_explore 119 = .ok (.goto (-71), 3) := by decide +kernel
theorem dX2_explore_122 : decode cX2_explore 122 = .ok (.iinc 2 1, 3) := by decide +kernel
theorem dX2_explore_125 : decode cX2_explore 125 = .ok (.goto (-85), 3) := by decide +kernel
theorem dX2_explore_128 : decode cX2_explore 128 = .ok (.return_, 1) := by decide +kernel
theorem dX2_steps_0 : decode cX2_steps 0 = .ok (.aload_n 0, 1) := by decide +kernel
theorem dX2_steps_1 : decode cX2_steps 1 = .ok (.invokevirtual 50, 3) := by decide +kernel
theorem dX2_steps_4 : decode cX2_steps 4 = .ok (.iconst (-1), 1) := by decide +kernel
theorem dX2_steps_5 : decode cX2_steps 5 = .ok (.istore_n 1, 1) := by decide +kernel
theorem dX2_steps_6 : decode cX2_steps 6 = .ok (.iconst 0, 1) := by decide +kernel
theorem dX2_steps_7 : decode cX2_steps 7 = .ok (.istore_n 2, 1) := by decide +kernel
theorem dX2_steps_8 : decode cX2_steps 8 = .ok (.iload_n 2, 1) := by decide +kernel
theorem dX2_steps_9 : decode cX2_steps 9 = .ok (.aload_n 0, 1) := by decide +kernel
theorem dX2_steps_10 : decode cX2_steps 10 = .ok (.invokevirtual 29, 3) := by decide +kernel
theorem dX2_steps_13 : decode cX2_steps 13 = .ok (.if_icmp .ge 48, 3) := by decide +kernel
theorem dX2_steps_16 : decode cX2_steps 16 = .ok (.aload_n 0, 1) := by decide +kernel
theorem dX2_steps_17 : decode cX2_steps 17 = .ok (.getfield 26, 3) := by decide +kernel
theorem dX2_steps_20 : decode cX2_steps 20 = .ok (.iload_n 2, 1) := by decide +kernel
theorem dX2_steps_21 : decode cX2_steps 21 = .ok (.iaload, 1) := by decide +kernel
theorem dX2_steps_22 : decode cX2_steps 22 = .ok (.ifCond .lt 33, 3) := by decide +kernel
theorem dX2_steps_25 : decode cX2_steps 25 = .ok (.iload_n 1, 1) := by decide +kernel
theorem dX2_steps_26 : decode cX2_steps 26 = .ok (.ifCond .lt 13, 3) := by decide +kernel
theorem dX2_steps_29 : decode cX2_steps 29 = .ok (.aload_n 0, 1) := by decide +kernel
theorem dX2_steps_30 : decode cX2_steps 30 = .ok (.getfield 26, 3) := by decide +kernel
theorem dX2_steps_33 : decode cX2_steps 33 = .ok (.iload_n 2, 1) := by decide +kernel
theorem dX2_steps_34 : decode cX2_steps 34 = .ok (.iaload, 1) := by decide +kernel
theorem dX2_steps_35 : decode cX2_steps 35 = .ok (.iload_n 1, 1) := by decide +kernel
theorem dX2_steps_36 : decode cX2_steps 36 = .ok (.if_icmp .ge 19, 3) := by decide +kernel
theorem dX2_steps_39 : decode cX2_steps 39 = .ok (.aload_n 0, 1) := by decide +kernel
theorem dX2_steps_40 : decode cX2_steps 40 = .ok (.iconst 2, 1) := by decide +kernel
theorem dX2_steps_41 : decode cX2_steps 41 = .ok (.iload_n 2, 1) := by decide +kernel
theorem dX2_steps_42 : decode cX2_steps 42 = .ok (.invokevirtual 40, 3) := by decide +kernel
theorem dX2_steps_45 : decode cX2_steps 45 = .ok (.ifCond .eq 10, 3) := by decide +kernel
theorem dX2_steps_48 : decode cX2_steps 48 = .ok (.aload_n 0, 1) := by decide +kernel
theorem dX2_steps_49 : decode cX2_steps 49 = .ok (.getfield 26, 3) := by decide +kernel
theorem dX2_steps_52 : decode cX2_steps 52 = .ok (.iload_n 2, 1) := by decide +kernel
theorem dX2_steps_53 : decode cX2_steps 53 = .ok (.iaload, 1) := by decide +kernel
theorem dX2_steps_54 : decode cX2_steps 54 = .ok (.istore_n 1, 1) := by decide +kernel
theorem dX2_steps_55 : decode cX2_steps 55 = .ok (.iinc 2 1, 3) := by decide +kernel
theorem dX2_steps_58 : decode cX2_steps 58 = .ok (.goto (-50), 3) := by decide +kernel
theorem dX2_steps_61 : decode cX2_steps 61 = .ok (.iload_n 1, 1) := by decide +kernel
theorem dX2_steps_62 : decode cX2_steps 62 = .ok (.ireturn, 1) := by decide +kernel
theorem dX2_safe_0 : decode cX2_safe 0 = .ok (.aload_n 0, 1) := by decide +kernel
theorem dX2_safe_1 : decode cX2_safe 1 = .ok (.invokevirtual 53, 3) := by decide +kernel
theorem dX2_safe_4 : decode cX2_safe 4 = .ok (.ifCond .ge 7, 3) := by decide +kernel
theorem dX2_safe_7 : decode cX2_safe 7 = .ok (.iconst 1, 1) := by decide +kernel
theorem dX2_safe_8 : decode cX2_safe 8 = .ok (.goto 4, 3) := by decide +kernel
theorem dX2_safe_11 : decode cX2_safe 11 = .ok (.iconst 0, 1) := by decide +kernel
theorem dX2_safe_12 : decode cX2_safe 12 = .ok (.ireturn, 1) := by decide +kernel
theorem dX2_depth_0 : decode cX2_depth 0 = .ok (.aload_n 0, 1) := by decide +kernel
theorem dX2_depth_1 : decode cX2_depth 1 = .ok (.iload_n 1, 1) := by decide +kernel
theorem dX2_depth_2 : decode cX2_depth 2 = .ok (.invokevirtual 44, 3) := by decide +kernel
theorem dX2_depth_5 : decode cX2_depth 5 = .ok (.ifCond .ne 5, 3) := by decide +kernel
theorem dX2_depth_8 : decode cX2_depth 8 = .ok (.iconst (-1), 1) := by decide +kernel
theorem dX2_depth_9 : decode cX2_depth 9 = .ok (.ireturn, 1) := by decide +kernel
theorem dX2_depth_10 : decode cX2_depth 10 = .ok (.aload_n 0, 1) := by decide +kernel
theorem dX2_depth_11 : decode cX2_depth 11 = .ok (.invokevirtual 50, 3) := by decide +kernel
theorem dX2_depth_14 : decode cX2_depth 14 = .ok (.aload_n 0, 1) := by decide +kernel
theorem dX2_depth_15 : decode cX2_depth 15 = .ok (.getfield 26, 3) := by decide +kernel
theorem dX2_depth_18 : decode cX2_depth 18 = .ok (.iload_n 1, 1) := by decide +kernel
theorem dX2_depth_19 : decode cX2_depth 19 = .ok (.iaload, 1) := by decide +kernel
theorem dX2_depth_20 : decode cX2_depth 20 = .ok (.ireturn, 1) := by decide +kernel
theorem dX2_reached_0 : decode cX2_reached 0 = .ok (.aload_n 0, 1) := by decide +kernel
theorem dX2_reached_1 : decode cX2_reached 1 = .ok (.invokevirtual 50, 3) := by decide +kernel
theorem dX2_reached_4 : decode cX2_reached 4 = .ok (.iconst 0, 1) := by decide +kernel
theorem dX2_reached_5 : decode cX2_reached 5 = .ok (.istore_n 1, 1) := by decide +kernel
theorem dX2_reached_6 : decode cX2_reached 6 = .ok (.iconst 0, 1) := by decide +kernel
theorem dX2_reached_7 : decode cX2_reached 7 = .ok (.istore_n 2, 1) := by decide +kernel
theorem dX2_reached_8 : decode cX2_reached 8 = .ok (.iload_n 2, 1) := by decide +kernel
theorem dX2_reached_9 : decode cX2_reached 9 = .ok (.aload_n 0, 1) := by decide +kernel
theorem dX2_reached_10 : decode cX2_reached 10 = .ok (.invokevirtual 29, 3) := by decide +kernel
theorem dX2_reached_13 : decode cX2_reached 13 = .ok (.if_icmp .ge 26, 3) := by decide +kernel
theorem dX2_reached_16 : decode cX2_reached 16 = .ok (.aload_n 0, 1) := by decide +kernel
theorem dX2_reached_17 : decode cX2_reached 17 = .ok (.getfield 26, 3) := by decide +kernel
theorem dX2_reached_20 : decode cX2_reached 20 = .ok (.iload_n 2, 1) := by decide +kernel
theorem dX2_reached_21 : decode cX2_reached 21 = .ok (.iaload, 1) := by decide +kernel
theorem dX2_reached_22 : decode cX2_reached 22 = .ok (.ifCond .lt 9, 3) := by decide +kernel
theorem dX2_reached_25 : decode cX2_reached 25 = .ok (.iload_n 1, 1) := by decide +kernel
theorem dX2_reached_26 : decode cX2_reached 26 = .ok (.iconst 1, 1) := by decide +kernel
theorem dX2_reached_27 : decode cX2_reached 27 = .ok (.iadd, 1) := by decide +kernel
theorem dX2_reached_28 : decode cX2_reached 28 = .ok (.goto 4, 3) := by decide +kernel
theorem dX2_reached_31 : decode cX2_reached 31 = .ok (.iload_n 1, 1) := by decide +kernel
theorem dX2_reached_32 : decode cX2_reached 32 = .ok (.istore_n 1, 1) := by decide +kernel
theorem dX2_reached_33 : decode cX2_reached 33 = .ok (.iinc 2 1, 3) := by decide +kernel
theorem dX2_reached_36 : decode cX2_reached 36 = .ok (.goto (-28), 3) := by decide +kernel
theorem dX2_reached_39 : decode cX2_reached 39 = .ok (.iload_n 1, 1) := by decide +kernel
theorem dX2_reached_40 : decode cX2_reached 40 = .ok (.ireturn, 1) := by decide +kernel
theorem dX2_worst_0 : decode cX2_worst 0 = .ok (.aload_n 0, 1) := by decide +kernel
theorem dX2_worst_1 : decode cX2_worst 1 = .ok (.invokevirtual 50, 3) := by decide +kernel
theorem dX2_worst_4 : decode cX2_worst 4 = .ok (.iconst 0, 1) := by decide +kernel
theorem dX2_worst_5 : decode cX2_worst 5 = .ok (.istore_n 1, 1) := by decide +kernel
theorem dX2_worst_6 : decode cX2_worst 6 = .ok (.iload_n 1, 1) := by decide +kernel
theorem dX2_worst_7 : decode cX2_worst 7 = .ok (.aload_n 0, 1) := by decide +kernel
theorem dX2_worst_8 : decode cX2_worst 8 = .ok (.invokevirtual 29, 3) := by decide +kernel
theorem dX2_worst_11 : decode cX2_worst 11 = .ok (.if_icmp .ge 29, 3) := by decide +kernel
theorem dX2_worst_14 : decode cX2_worst 14 = .ok (.aload_n 0, 1) := by decide +kernel
theorem dX2_worst_15 : decode cX2_worst 15 = .ok (.getfield 26, 3) := by decide +kernel
theorem dX2_worst_18 : decode cX2_worst 18 = .ok (.iload_n 1, 1) := by decide +kernel
theorem dX2_worst_19 : decode cX2_worst 19 = .ok (.iaload, 1) := by decide +kernel
theorem dX2_worst_20 : decode cX2_worst 20 = .ok (.ifCond .lt 14, 3) := by decide +kernel
theorem dX2_worst_23 : decode cX2_worst 23 = .ok (.aload_n 0, 1) := by decide +kernel
theorem dX2_worst_24 : decode cX2_worst 24 = .ok (.iconst 2, 1) := by decide +kernel
theorem dX2_worst_25 : decode cX2_worst 25 = .ok (.iload_n 1, 1) := by decide +kernel
theorem dX2_worst_26 : decode cX2_worst 26 = .ok (.invokevirtual 40, 3) := by decide +kernel
theorem dX2_worst_29 : decode cX2_worst 29 = .ok (.ifCond .eq 5, 3) := by decide +kernel
theorem dX2_worst_32 : decode cX2_worst 32 = .ok (.iload_n 1, 1) := by decide +kernel
theorem dX2_worst_33 : decode cX2_worst 33 = .ok (.ireturn, 1) := by decide +kernel
theorem dX2_worst_34 : decode cX2_worst 34 = .ok (.iinc 1 1, 3) := by decide +kernel
theorem dX2_worst_37 : decode cX2_worst 37 = .ok (.goto (-31), 3) := by decide +kernel
theorem dX2_worst_40 : decode cX2_worst 40 = .ok (.iconst (-1), 1) := by decide +kernel
theorem dX2_worst_41 : decode cX2_worst 41 = .ok (.ireturn, 1) := by decide +kernel
theorem dX2_escapes_0 : decode cX2_escapes 0 = .ok (.iconst 0, 1) := by decide +kernel
theorem dX2_escapes_1 : decode cX2_escapes 1 = .ok (.istore_n 2, 1) := by decide +kernel
theorem dX2_escapes_2 : decode cX2_escapes 2 = .ok (.iconst 0, 1) := by decide +kernel
theorem dX2_escapes_3 : decode cX2_escapes 3 = .ok (.istore_n 3, 1) := by decide +kernel
theorem dX2_escapes_4 : decode cX2_escapes 4 = .ok (.iload_n 3, 1) := by decide +kernel
theorem dX2_escapes_5 : decode cX2_escapes 5 = .ok (.aload_n 0, 1) := by decide +kernel
theorem dX2_escapes_6 : decode cX2_escapes 6 = .ok (.invokevirtual 29, 3) := by decide +kernel
theorem dX2_escapes_9 : decode cX2_escapes 9 = .ok (.if_icmp .ge 37, 3) := by decide +kernel
theorem dX2_escapes_12 : decode cX2_escapes 12 = .ok (.iload_n 2, 1) := by decide +kernel
theorem dX2_escapes_13 : decode cX2_escapes 13 = .ok (.ifCond .ne 33, 3) := by decide +kernel
theorem dX2_escapes_16 : decode cX2_escapes 16 = .ok (.aload_n 0, 1) := by decide +kernel
theorem dX2_escapes_17 : decode cX2_escapes 17 = .ok (.iconst 3, 1) := by decide +kernel
theorem dX2_escapes_18 : decode cX2_escapes 18 = .ok (.iload_n 3, 1) := by decide +kernel
theorem dX2_escapes_19 : decode cX2_escapes 19 = .ok (.invokevirtual 40, 3) := by decide +kernel
theorem dX2_escapes_22 : decode cX2_escapes 22 = .ok (.ifCond .ne 16, 3) := by decide +kernel
theorem dX2_escapes_25 : decode cX2_escapes 25 = .ok (.aload_n 0, 1) := by decide +kernel
theorem dX2_escapes_26 : decode cX2_escapes 26 = .ok (.iload_n 1, 1) := by decide +kernel
theorem dX2_escapes_27 : decode cX2_escapes 27 = .ok (.iload_n 3, 1) := by decide +kernel
theorem dX2_escapes_28 : decode cX2_escapes 28 = .ok (.invokevirtual 47, 3) := by decide +kernel
theorem dX2_escapes_31 : decode cX2_escapes 31 = .ok (.ifCond .eq 7, 3) := by decide +kernel
theorem dX2_escapes_34 : decode cX2_escapes 34 = .ok (.iconst 1, 1) := by decide +kernel
theorem dX2_escapes_35 : decode cX2_escapes 35 = .ok (.goto 4, 3) := by decide +kernel
theorem dX2_escapes_38 : decode cX2_escapes 38 = .ok (.iconst 0, 1) := by decide +kernel
theorem dX2_escapes_39 : decode cX2_escapes 39 = .ok (.istore_n 2, 1) := by decide +kernel
theorem dX2_escapes_40 : decode cX2_escapes 40 = .ok (.iinc 3 1, 3) := by decide +kernel
theorem dX2_escapes_43 : decode cX2_escapes 43 = .ok (.goto (-39), 3) := by decide +kernel
theorem dX2_escapes_46 : decode cX2_escapes 46 = .ok (.iload_n 2, 1) := by decide +kernel
theorem dX2_escapes_47 : decode cX2_escapes 47 = .ok (.ireturn, 1) := by decide +kernel
theorem dX2_least_0 : decode cX2_least 0 = .ok (.iconst 0, 1) := by decide +kernel
theorem dX2_least_1 : decode cX2_least 1 = .ok (.istore_n 2, 1) := by decide +kernel
theorem dX2_least_2 : decode cX2_least 2 = .ok (.iload_n 2, 1) := by decide +kernel
theorem dX2_least_3 : decode cX2_least 3 = .ok (.aload_n 0, 1) := by decide +kernel
theorem dX2_least_4 : decode cX2_least 4 = .ok (.invokevirtual 29, 3) := by decide +kernel
theorem dX2_least_7 : decode cX2_least 7 = .ok (.if_icmp .ge 94, 3) := by decide +kernel
theorem dX2_least_10 : decode cX2_least 10 = .ok (.aload_n 0, 1) := by decide +kernel
theorem dX2_least_11 : decode cX2_least 11 = .ok (.iconst 3, 1) := by decide +kernel
theorem dX2_least_12 : decode cX2_least 12 = .ok (.iload_n 2, 1) := by decide +kernel
theorem dX2_least_13 : decode cX2_least 13 = .ok (.invokevirtual 40, 3) := by decide +kernel
theorem dX2_least_16 : decode cX2_least 16 = .ok (.istore_n 3, 1) := by decide +kernel
theorem dX2_least_17 : decode cX2_least 17 = .ok (.iload_n 1, 1) := by decide +kernel
theorem dX2_least_18 : decode cX2_least 18 = .ok (.iconst 1, 1) := by decide +kernel
theorem dX2_least_19 : decode cX2_least 19 = .ok (.if_icmp .ne 24, 3) := by decide +kernel
theorem dX2_least_22 : decode cX2_least 22 = .ok (.iload_n 3, 1) := by decide +kernel
theorem dX2_least_23 : decode cX2_least 23 = .ok (.ifCond .ne 16, 3) := by decide +kernel
theorem dX2_least_26 : decode cX2_least 26 = .ok (.aload_n 0, 1) := by decide +kernel
theorem dX2_least_27 : decode cX2_least 27 = .ok (.iconst 0, 1) := by decide +kernel
theorem dX2_least_28 : decode cX2_least 28 = .ok (.iload_n 2, 1) := by decide +kernel
theorem dX2_least_29 : decode cX2_least 29 = .ok (.invokevirtual 40, 3) := by decide +kernel
theorem dX2_least_32 : decode cX2_least 32 = .ok (.ifCond .eq 7, 3) := by decide +kernel
theorem dX2_least_35 : decode cX2_least 35 = .ok (.iconst 1, 1) := by decide +kernel
theorem dX2_least_36 : decode cX2_least 36 = .ok (.goto 50, 3) := by decide +kernel
theorem dX2_least_39 : decode cX2_least 39 = .ok (.iconst 0, 1) := by decide +kernel
theorem dX2_least_40 : decode cX2_least 40 = .ok (.goto 46, 3) := by decide +kernel
theorem dX2_least_43 : decode cX2_least 43 = .ok (.iload_n 1, 1) := by decide +kernel
theorem dX2_least_44 : decode cX2_least 44 = .ok (.iconst 2, 1) := by decide +kernel
theorem dX2_least_45 : decode cX2_least 45 = .ok (.if_icmp .ne 23, 3) := by decide +kernel
theorem dX2_least_48 : decode cX2_least 48 = .ok (.iload_n 3, 1) := by decide +kernel
theorem dX2_least_49 : decode cX2_least 49 = .ok (.ifCond .eq 15, 3) := by decide +kernel
theorem dX2_least_52 : decode cX2_least 52 = .ok (.aload_n 0, 1) := by decide +kernel
theorem dX2_least_53 : decode cX2_least 53 = .ok (.iload_n 2, 1) := by decide +kernel
theorem dX2_least_54 : decode cX2_least 54 = .ok (.invokevirtual 56, 3) := by decide +kernel
theorem dX2_least_57 : decode cX2_least 57 = .ok (.ifCond .eq 7, 3) := by decide +kernel
theorem dX2_least_60 : decode cX2_least 60 = .ok (.iconst 1, 1) := by decide +kernel
theorem dX2_least_61 : decode cX2_least 61 = .ok (.goto 25, 3) := by decide +kernel
theorem dX2_least_64 : decode cX2_least 64 = .ok (.iconst 0, 1) := by decide +kernel
theorem dX2_least_65 : decode cX2_least 65 = .ok (.goto 21, 3) := by decide +kernel
theorem dX2_least_68 : decode cX2_least 68 = .ok (.iload_n 3, 1) := by decide +kernel
theorem dX2_least_69 : decode cX2_least 69 = .ok (.ifCond .eq 16, 3) := by decide +kernel
theorem dX2_least_72 : decode cX2_least 72 = .ok (.aload_n 0, 1) := by decide +kernel
theorem dX2_least_73 : decode cX2_least 73 = .ok (.iconst 2, 1) := by decide +kernel
theorem dX2_least_74 : decode cX2_least 74 = .ok (.iload_n 2, 1) := by decide +kernel
theorem dX2_least_75 : decode cX2_least 75 = .ok (.invokevirtual 40, 3) := by decide +kernel
theorem dX2_least_78 : decode cX2_least 78 = .ok (.ifCond .eq 7, 3) := by decide +kernel
theorem dX2_least_81 : decode cX2_least 81 = .ok (.iconst 1, 1) := by decide +kernel
theorem dX2_least_82 : decode cX2_least 82 = .ok (.goto 4, 3) := by decide +kernel
theorem dX2_least_85 : decode cX2_least 85 = .ok (.iconst 0, 1) := by decide +kernel
theorem dX2_least_86 : decode cX2_least 86 = .ok (.istore 4, 2) := by decide +kernel
theorem dX2_least_88 : decode cX2_least 88 = .ok (.iload 4, 2) := by decide +kernel
theorem dX2_least_90 : decode cX2_least 90 = .ok (.ifCond .eq 5, 3) := by decide +kernel
theorem dX2_least_93 : decode cX2_least 93 = .ok (.iload_n 2, 1) := by decide +kernel
theorem dX2_least_94 : decode cX2_least 94 = .ok (.ireturn, 1) := by decide +kernel
theorem dX2_least_95 : decode cX2_least 95 = .ok (.iinc 2 1, 3) := by decide +kernel
theorem dX2_least_98 : decode cX2_least 98 = .ok (.goto (-96), 3) := by decide +kernel
theorem dX2_least_101 : decode cX2_least 101 = .ok (.iconst (-1), 1) := by decide +kernel
theorem dX2_least_102 : decode cX2_least 102 = .ok (.ireturn, 1) := by decide +kernel
theorem dX2_check_0 : decode cX2_check 0 = .ok (.iconst 1, 1) := by decide +kernel
theorem dX2_check_1 : decode cX2_check 1 = .ok (.istore_n 1, 1) := by decide +kernel
theorem dX2_check_2 : decode cX2_check 2 = .ok (.iload_n 1, 1) := by decide +kernel
theorem dX2_check_3 : decode cX2_check 3 = .ok (.iconst 3, 1) := by decide +kernel
theorem dX2_check_4 : decode cX2_check 4 = .ok (.if_icmp .gt 19, 3) := by decide +kernel
theorem dX2_check_7 : decode cX2_check 7 = .ok (.aload_n 0, 1) := by decide +kernel
theorem dX2_check_8 : decode cX2_check 8 = .ok (.iload_n 1, 1) := by decide +kernel
theorem dX2_check_9 : decode cX2_check 9 = .ok (.invokevirtual 59, 3) := by decide +kernel
theorem dX2_check_12 : decode cX2_check 12 = .ok (.ifCond .lt 5, 3) := by decide +kernel
theorem dX2_check_15 : decode cX2_check 15 = .ok (.iload_n 1, 1) := by decide +kernel
theorem dX2_check_16 : decode cX2_check 16 = .ok (.ireturn, 1) := by decide +kernel
theorem dX2_check_17 : decode cX2_check 17 = .ok (.iinc 1 1, 3) := by decide +kernel
theorem dX2_check_20 : decode cX2_check 20 = .ok (.goto (-18), 3) := by decide +kernel
theorem dX2_check_23 : decode cX2_check 23 = .ok (.iconst 0, 1) := by decide +kernel
theorem dX2_check_24 : decode cX2_check 24 = .ok (.ireturn, 1) := by decide +kernel
theorem dX2_flaw_0 : decode cX2_flaw 0 = .ok (.aload_n 0, 1) := by decide +kernel
theorem dX2_flaw_1 : decode cX2_flaw 1 = .ok (.invokevirtual 63, 3) := by decide +kernel
theorem dX2_flaw_4 : decode cX2_flaw 4 = .ok (.istore_n 1, 1) := by decide +kernel
theorem dX2_flaw_5 : decode cX2_flaw 5 = .ok (.iload_n 1, 1) := by decide +kernel
theorem dX2_flaw_6 : decode cX2_flaw 6 = .ok (.ifCond .ne 7, 3) := by decide +kernel
theorem dX2_flaw_9 : decode cX2_flaw 9 = .ok (.iconst (-1), 1) := by decide +kernel
theorem dX2_flaw_10 : decode cX2_flaw 10 = .ok (.goto 8, 3) := by decide +kernel
theorem dX2_flaw_13 : decode cX2_flaw 13 = .ok (.aload_n 0, 1) := by decide +kernel
theorem dX2_flaw_14 : decode cX2_flaw 14 = .ok (.iload_n 1, 1) := by decide +kernel
theorem dX2_flaw_15 : decode cX2_flaw 15 = .ok (.invokevirtual 59, 3) := by decide +kernel
theorem dX2_flaw_18 : decode cX2_flaw 18 = .ok (.ireturn, 1) := by decide +kernel
theorem dX2_walk_0 : decode cX2_walk 0 = .ok (.aload_n 0, 1) := by decide +kernel
theorem dX2_walk_1 : decode cX2_walk 1 = .ok (.getfield 33, 3) := by decide +kernel
theorem dX2_walk_4 : decode cX2_walk 4 = .ok (.bipush 64, 2) := by decide +kernel
theorem dX2_walk_6 : decode cX2_walk 6 = .ok (.if_icmp .eq 11, 3) := by decide +kernel
theorem dX2_walk_9 : decode cX2_walk 9 = .ok (.aload_n 0, 1) := by decide +kernel
theorem dX2_walk_10 : decode cX2_walk 10 = .ok (.iload_n 1, 1) := by decide +kernel
theorem dX2_walk_11 : decode cX2_walk 11 = .ok (.invokevirtual 44, 3) := by decide +kernel
theorem dX2_walk_14 : decode cX2_walk 14 = .ok (.ifCond .ne 5, 3) := by decide +kernel
theorem dX2_walk_17 : decode cX2_walk 17 = .ok (.iconst (-1), 1) := by decide +kernel
theorem dX2_walk_18 : decode cX2_walk 18 = .ok (.ireturn, 1) := by decide +kernel
theorem dX2_walk_19 : decode cX2_walk 19 = .ok (.aload_n 0, 1) := by decide +kernel
theorem dX2_walk_20 : decode cX2_walk 20 = .ok (.getfield 33, 3) := by decide +kernel
theorem dX2_walk_23 : decode cX2_walk 23 = .ok (.ifCond .ne 12, 3) := by decide +kernel
theorem dX2_walk_26 : decode cX2_walk 26 = .ok (.aload_n 0, 1) := by decide +kernel
theorem dX2_walk_27 : decode cX2_walk 27 = .ok (.iconst 0, 1) := by decide +kernel
theorem dX2_walk_28 : decode cX2_walk 28 = .ok (.iload_n 1, 1) := by decide +kernel
theorem dX2_walk_29 : decode cX2_walk 29 = .ok (.invokevirtual 40, 3) := by decide +kernel
theorem dX2_walk_32 : decode cX2_walk 32 = .ok (.goto 19, 3) := by decide +kernel
theorem dX2_walk_35 : decode cX2_walk 35 = .ok (.aload_n 0, 1) := by decide +kernel
theorem dX2_walk_36 : decode cX2_walk 36 = .ok (.aload_n 0, 1) := by decide +kernel
theorem dX2_walk_37 : decode cX2_walk 37 = .ok (.getfield 23, 3) := by decide +kernel
theorem dX2_walk_40 : decode cX2_walk 40 = .ok (.aload_n 0, 1) := by decide +kernel
theorem dX2_walk_41 : decode cX2_walk 41 = .ok (.getfield 33, 3) := by decide +kernel
theorem dX2_walk_44 : decode cX2_walk 44 = .ok (.iconst 1, 1) := by decide +kernel
theorem dX2_walk_45 : decode cX2_walk 45 = .ok (.isub, 1) := by decide +kernel
theorem dX2_walk_46 : decode cX2_walk 46 = .ok (.iaload, 1) := by decide +kernel
theorem dX2_walk_47 : decode cX2_walk 47 = .ok (.iload_n 1, 1) := by decide +kernel
theorem dX2_walk_48 : decode cX2_walk 48 = .ok (.invokevirtual 47, 3) := by decide +kernel
theorem dX2_walk_51 : decode cX2_walk 51 = .ok (.istore_n 2, 1) := by decide +kernel
theorem dX2_walk_52 : decode cX2_walk 52 = .ok (.iload_n 2, 1) := by decide +kernel
theorem dX2_walk_53 : decode cX2_walk 53 = .ok (.ifCond .ne 5, 3) := by decide +kernel
theorem dX2_walk_56 : decode cX2_walk 56 = .ok (.iconst (-1), 1) := by decide +kernel
theorem dX2_walk_57 : decode cX2_walk 57 = .ok (.ireturn, 1) := by decide +kernel
theorem dX2_walk_58 : decode cX2_walk 58 = .ok (.aload_n 0, 1) := by decide +kernel
theorem dX2_walk_59 : decode cX2_walk 59 = .ok (.getfield 23, 3) := by decide +kernel
theorem dX2_walk_62 : decode cX2_walk 62 = .ok (.aload_n 0, 1) := by decide +kernel
theorem dX2_walk_63 : decode cX2_walk 63 = .ok (.getfield 33, 3) := by decide +kernel
theorem dX2_walk_66 : decode cX2_walk 66 = .ok (.iload_n 1, 1) := by decide +kernel
theorem dX2_walk_67 : decode cX2_walk 67 = .ok (.iastore, 1) := by decide +kernel
theorem dX2_walk_68 : decode cX2_walk 68 = .ok (.aload_n 0, 1) := by decide +kernel
theorem dX2_walk_69 : decode cX2_walk 69 = .ok (.dup, 1) := by decide +kernel
theorem dX2_walk_70 : decode cX2_walk 70 = .ok (.getfield 33, 3) := by decide +kernel
theorem dX2_walk_73 : decode cX2_walk 73 = .ok (.iconst 1, 1) := by decide +kernel
theorem dX2_walk_74 : decode cX2_walk 74 = .ok (.iadd, 1) := by decide +kernel
theorem dX2_walk_75 : decode cX2_walk 75 = .ok (.putfield 33, 3) := by decide +kernel
theorem dX2_walk_78 : decode cX2_walk 78 = .ok (.aload_n 0, 1) := by decide +kernel
theorem dX2_walk_79 : decode cX2_walk 79 = .ok (.getfield 33, 3) := by decide +kernel
theorem dX2_walk_82 : decode cX2_walk 82 = .ok (.ireturn, 1) := by decide +kernel
theorem dX2_arrives_0 : decode cX2_arrives 0 = .ok (.aload_n 0, 1) := by decide +kernel
theorem dX2_arrives_1 : decode cX2_arrives 1 = .ok (.getfield 33, 3) := by decide +kernel
theorem dX2_arrives_4 : decode cX2_arrives 4 = .ok (.ifCond .le 26, 3) := by decide +kernel
theorem dX2_arrives_7 : decode cX2_arrives 7 = .ok (.aload_n 0, 1) := by decide +kernel
theorem dX2_arrives_8 : decode cX2_arrives 8 = .ok (.iconst 2, 1) := by decide +kernel
theorem dX2_arrives_9 : decode cX2_arrives 9 = .ok (.aload_n 0, 1) := by decide +kernel
theorem dX2_arrives_10 : decode cX2_arrives 10 = .ok (.getfield 23, 3) := by decide +kernel
theorem dX2_arrives_13 : decode cX2_arrives 13 = .ok (.aload_n 0, 1) := by decide +kernel
theorem dX2_arrives_14 : decode cX2_arrives 14 = .ok (.getfield 33, 3) := by decide +kernel
theorem dX2_arrives_17 : decode cX2_arrives 17 = .ok (.iconst 1, 1) := by decide +kernel
theorem dX2_arrives_18 : decode cX2_arrives 18 = .ok (.isub, 1) := by decide +kernel
theorem dX2_arrives_19 : decode cX2_arrives 19 = .ok (.iaload, 1) := by decide +kernel
theorem dX2_arrives_20 : decode cX2_arrives 20 = .ok (.invokevirtual 40, 3) := by decide +kernel
theorem dX2_arrives_23 : decode cX2_arrives 23 = .ok (.ifCond .eq 7, 3) := by decide +kernel
theorem dX2_arrives_26 : decode cX2_arrives 26 = .ok (.iconst 1, 1) := by decide +kernel
theorem dX2_arrives_27 : decode cX2_arrives 27 = .ok (.goto 4, 3) := by decide +kernel
theorem dX2_arrives_30 : decode cX2_arrives 30 = .ok (.iconst 0, 1) := by decide +kernel
theorem dX2_arrives_31 : decode cX2_arrives 31 = .ok (.ireturn, 1) := by decide +kernel
end
section
theorem dL_law_0 : decode code 0 = .ok (.new 7, 3) := by decide +kernel
theorem dL_law_3 : decode code 3 = .ok (.dup, 1) := by decide +kernel
theorem dL_law_4 : decode code 4 = .ok (.invokespecial 9, 3) := by decide +kernel
theorem dL_law_7 : decode code 7 = .ok (.astore_n 1, 1) := by decide +kernel
theorem dL_law_8 : decode code 8 = .ok (.new 10, 3) := by decide +kernel
theorem dL_law_11 : decode code 11 = .ok (.dup, 1) := by decide +kernel
theorem dL_law_12 : decode code 12 = .ok (.invokespecial 12, 3) := by decide +kernel
theorem dL_law_15 : decode code 15 = .ok (.astore_n 2, 1) := by decide +kernel
theorem dL_law_16 : decode code 16 = .ok (.iconst 0, 1) := by decide +kernel
theorem dL_law_17 : decode code 17 = .ok (.istore_n 3, 1) := by decide +kernel
theorem dL_law_18 : decode code 18 = .ok (.iload_n 3, 1) := by decide +kernel
theorem dL_law_19 : decode code 19 = .ok (.aload_n 0, 1) := by decide +kernel
theorem dL_law_20 : decode code 20 = .ok (.arraylength, 1) := by decide +kernel
theorem dL_law_21 : decode code 21 = .ok (.iconst 4, 1) := by decide +kernel
theorem dL_law_22 : decode code 22 = .ok (.isub, 1) := by decide +kernel
theorem dL_law_23 : decode code 23 = .ok (.if_icmp .gt 396, 3) := by decide +kernel
theorem dL_law_26 : decode code 26 = .ok (.aload_n 0, 1) := by decide +kernel
theorem dL_law_27 : decode code 27 = .ok (.iload_n 3, 1) := by decide +kernel
theorem dL_law_28 : decode code 28 = .ok (.iaload, 1) := by decide +kernel
theorem dL_law_29 : decode code 29 = .ok (.bipush 15, 2) := by decide +kernel
theorem dL_law_31 : decode code 31 = .ok (.iand, 1) := by decide +kernel
theorem dL_law_32 : decode code 32 = .ok (.tableswitch 381 0 14 #[76, 99, 142, 165, 178, 201, 244, 257, 270, 293, 306, 319, 332, 345, 368], 76) := by decide +kernel
theorem dL_law_108 : decode code 108 = .ok (.aload_n 1, 1) := by decide +kernel
theorem dL_law_109 : decode code 109 = .ok (.aload_n 0, 1) := by decide +kernel
theorem dL_law_110 : decode code 110 = .ok (.iload_n 3, 1) := by decide +kernel
theorem dL_law_111 : decode code 111 = .ok (.iconst 1, 1) := by decide +kernel
theorem dL_law_112 : decode code 112 = .ok (.iadd, 1) := by decide +kernel
theorem dL_law_113 : decode code 113 = .ok (.iaload, 1) := by decide +kernel
theorem dL_law_114 : decode code 114 = .ok (.invokevirtual 13, 3) := by decide +kernel
theorem dL_law_117 : decode code 117 = .ok (.aload_n 2, 1) := by decide +kernel
theorem dL_law_118 : decode code 118 = .ok (.aload_n 0, 1) := by decide +kernel
theorem dL_law_119 : decode code 119 = .ok (.iload_n 3, 1) := by decide +kernel
theorem dL_law_120 : decode code 120 = .ok (.iconst 1, 1) := by decide +kernel
theorem dL_law_121 : decode code 121 = .ok (.iadd, 1) := by decide +kernel
theorem dL_law_122 : decode code 122 = .ok (.iaload, 1) := by decide +kernel
theorem dL_law_123 : decode code 123 = .ok (.invokevirtual 17, 3) := by decide +kernel
theorem dL_law_126 : decode code 126 = .ok (.if_icmp .eq 287, 3) := by decide +kernel
theorem dL_law_129 : decode code 129 = .ok (.iconst 0, 1) := by decide +kernel
theorem dL_law_130 : decode code 130 = .ok (.ireturn, 1) := by decide +kernel
theorem dL_law_131 : decode code 131 = .ok (.aload_n 1, 1) := by decide +kernel
theorem dL_law_132 : decode code 132 = .ok (.aload_n 0, 1) := by decide +kernel
theorem dL_law_133 : decode code 133 = .ok (.iload_n 3, 1) := by decide +kernel
theorem dL_law_134 : decode code 134 = .ok (.iconst 1, 1) := by decide +kernel
theorem dL_law_135 : decode code 135 = .ok (.iadd, 1) := by decide +kernel
theorem dL_law_136 : decode code 136 = .ok (.iaload, 1) := by decide +kernel
theorem dL_law_137 : decode code 137 = .ok (.aload_n 0, 1) := by decide +kernel
theorem dL_law_138 : decode code 138 = .ok (.iload_n 3, 1) := by decide +kernel
theorem dL_law_139 : decode code 139 = .ok (.iconst 2, 1) := by decide +kernel
theorem dL_law_140 : decode code 140 = .ok (.iadd, 1) := by decide +kernel
theorem dL_law_141 : decode code 141 = .ok (.iaload, 1) := by decide +kernel
theorem dL_law_142 : decode code 142 = .ok (.aload_n 0, 1) := by decide +kernel
theorem dL_law_143 : decode code 143 = .ok (.iload_n 3, 1) := by decide +kernel
theorem dL_law_144 : decode code 144 = .ok (.iconst 3, 1) := by decide +kernel
theorem dL_law_145 : decode code 145 = .ok (.iadd, 1) := by decide +kernel
theorem dL_law_146 : decode code 146 = .ok (.iaload, 1) := by decide +kernel
theorem dL_law_147 : decode code 147 = .ok (.invokevirtual 18, 3) := by decide +kernel
theorem dL_law_150 : decode code 150 = .ok (.aload_n 2, 1) := by decide +kernel
theorem dL_law_151 : decode code 151 = .ok (.aload_n 0, 1) := by decide +kernel
theorem dL_law_152 : decode code 152 = .ok (.iload_n 3, 1) := by decide +kernel
theorem dL_law_153 : decode code 153 = .ok (.iconst 1, 1) := by decide +kernel
theorem dL_law_154 : decode code 154 = .ok (.iadd, 1) := by decide +kernel
theorem dL_law_155 : decode code 155 = .ok (.iaload, 1) := by decide +kernel
theorem dL_law_156 : decode code 156 = .ok (.aload_n 0, 1) := by decide +kernel
theorem dL_law_157 : decode code 157 = .ok (.iload_n 3, 1) := by decide +kernel
theorem dL_law_158 : decode code 158 = .ok (.iconst 2, 1) := by decide +kernel
theorem dL_law_159 : decode code 159 = .ok (.iadd, 1) := by decide +kernel
theorem dL_law_160 : decode code 160 = .ok (.iaload, 1) := by decide +kernel
theorem dL_law_161 : decode code 161 = .ok (.aload_n 0, 1) := by decide +kernel
theorem dL_law_162 : decode code 162 = .ok (.iload_n 3, 1) := by decide +kernel
theorem dL_law_163 : decode code 163 = .ok (.iconst 3, 1) := by decide +kernel
theorem dL_law_164 : decode code 164 = .ok (.iadd, 1) := by decide +kernel
theorem dL_law_165 : decode code 165 = .ok (.iaload, 1) := by decide +kernel
theorem dL_law_166 : decode code 166 = .ok (.invokevirtual 22, 3) := by decide +kernel
theorem dL_law_169 : decode code 169 = .ok (.if_icmp .eq 244, 3) := by decide +kernel
theorem dL_law_172 : decode code 172 = .ok (.iconst 0, 1) := by decide +kernel
theorem dL_law_173 : decode code 173 = .ok (.ireturn, 1) := by decide +kernel
theorem dL_law_174 : decode code 174 = .ok (.aload_n 1, 1) := by decide +kernel
theorem dL_law_175 : decode code 175 = .ok (.aload_n 0, 1) := by decide +kernel
theorem dL_law_176 : decode code 176 = .ok (.iload_n 3, 1) := by decide +kernel
theorem dL_law_177 : decode code 177 = .ok (.iconst 1, 1) := by decide +kernel
theorem dL_law_178 : decode code 178 = .ok (.iadd, 1) := by decide +kernel
theorem dL_law_179 : decode code 179 = .ok (.iaload, 1) := by decide +kernel
theorem dL_law_180 : decode code 180 = .ok (.invokevirtual 23, 3) := by decide +kernel
theorem dL_law_183 : decode code 183 = .ok (.aload_n 2, 1) := by decide +kernel
theorem dL_law_184 : decode code 184 = .ok (.aload_n 0, 1) := by decide +kernel
theorem dL_law_185 : decode code 185 = .ok (.iload_n 3, 1) := by decide +kernel
theorem dL_law_186 : decode code 186 = .ok (.iconst 1, 1) := by decide +kernel
theorem dL_law_187 : decode code 187 = .ok (.iadd, 1) := by decide +kernel
theorem dL_law_188 : decode code 188 = .ok (.iaload, 1) := by decide +kernel
theorem dL_law_189 : decode code 189 = .ok (.invokevirtual 27, 3) := by decide +kernel
theorem dL_law_192 : decode code 192 = .ok (.if_icmp .eq 221, 3) := by decide +kernel
theorem dL_law_195 : decode code 195 = .ok (.iconst 0, 1) := by decide +kernel
theorem dL_law_196 : decode code 196 = .ok (.ireturn, 1) := by decide +kernel
theorem dL_law_197 : decode code 197 = .ok (.aload_n 1, 1) := by decide +kernel
theorem dL_law_198 : decode code 198 = .ok (.invokevirtual 28, 3) := by decide +kernel
theorem dL_law_201 : decode code 201 = .ok (.aload_n 2, 1) := by decide +kernel
theorem dL_law_202 : decode code 202 = .ok (.invokevirtual 32, 3) := by decide +kernel
theorem dL_law_205 : decode code 205 = .ok (.if_icmp .eq 208, 3) := by decide +kernel
theorem dL_law_208 : decode code 208 = .ok (.iconst 0, 1) := by decide +kernel
theorem dL_law_209 : decode code 209 = .ok (.ireturn, 1) := by decide +kernel
theorem dL_law_210 : decode code 210 = .ok (.aload_n 1, 1) := by decide +kernel
theorem dL_law_211 : decode code 211 = .ok (.aload_n 0, 1) := by decide +kernel
theorem dL_law_212 : decode code 212 = .ok (.iload_n 3, 1) := by decide +kernel
theorem dL_law_213 : decode code 213 = .ok (.iconst 1, 1) := by decide +kernel
theorem dL_law_214 : decode code 214 = .ok (.iadd, 1) := by decide +kernel
theorem dL_law_215 : decode code 215 = .ok (.iaload, 1) := by decide +kernel
theorem dL_law_216 : decode code 216 = .ok (.invokevirtual 33, 3) := by decide +kernel
theorem dL_law_219 : decode code 219 = .ok (.aload_n 2, 1) := by decide +kernel
theorem dL_law_220 : decode code 220 = .ok (.aload_n 0, 1) := by decide +kernel
theorem dL_law_221 : decode code 221 = .ok (.iload_n 3, 1) := by decide +kernel
theorem dL_law_222 : decode code 222 = .ok (.iconst 1, 1) := by decide +kernel
theorem dL_law_223 : decode code 223 = .ok (.iadd, 1) := by decide +kernel
theorem dL_law_224 : decode code 224 = .ok (.iaload, 1) := by decide +kernel
theorem dL_law_225 : decode code 225 = .ok (.invokevirtual 36, 3) := by decide +kernel
theorem dL_law_228 : decode code 228 = .ok (.if_icmp .eq 185, 3) := by decide +kernel
theorem dL_law_231 : decode code 231 = .ok (.iconst 0, 1) := by decide +kernel
theorem dL_law_232 : decode code 232 = .ok (.ireturn, 1) := by decide +kernel
theorem dL_law_233 : decode code 233 = .ok (.aload_n 1, 1) := by decide +kernel
theorem dL_law_234 : decode code 234 = .ok (.aload_n 0, 1) := by decide +kernel
theorem dL_law_235 : decode code 235 = .ok (.iload_n 3, 1) := by decide +kernel
theorem dL_law_236 : decode code 236 = .ok (.iconst 1, 1) := by decide +kernel
theorem dL_law_237 : decode code 237 = .ok (.iadd, 1) := by decide +kernel
theorem dL_law_238 : decode code 238 = .ok (.iaload, 1) := by decide +kernel
theorem dL_law_239 : decode code 239 = .ok (.aload_n 0, 1) := by decide +kernel
theorem dL_law_240 : decode code 240 = .ok (.iload_n 3, 1) := by decide +kernel
theorem dL_law_241 : decode code 241 = .ok (.iconst 2, 1) := by decide +kernel
theorem dL_law_242 : decode code 242 = .ok (.iadd, 1) := by decide +kernel
theorem dL_law_243 : decode code 243 = .ok (.iaload, 1) := by decide +kernel
theorem dL_law_244 : decode code 244 = .ok (.aload_n 0, 1) := by decide +kernel
theorem dL_law_245 : decode code 245 = .ok (.iload_n 3, 1) := by decide +kernel
theorem dL_law_246 : decode code 246 = .ok (.iconst 3, 1) := by decide +kernel
theorem dL_law_247 : decode code 247 = .ok (.iadd, 1) := by decide +kernel
theorem dL_law_248 : decode code 248 = .ok (.iaload, 1) := by decide +kernel
theorem dL_law_249 : decode code 249 = .ok (.invokevirtual 37, 3) := by decide +kernel
theorem dL_law_252 : decode code 252 = .ok (.aload_n 2, 1) := by decide +kernel
theorem dL_law_253 : decode code 253 = .ok (.aload_n 0, 1) := by decide +kernel
theorem dL_law_254 : decode code 254 = .ok (.iload_n 3, 1) := by decide +kernel
theorem dL_law_255 : decode code 255 = .ok (.iconst 1, 1) := by decide +kernel
theorem dL_law_256 : decode code 256 = .ok (.iadd, 1) := by decide +kernel
theorem dL_law_257 : decode code 257 = .ok (.iaload, 1) := by decide +kernel
theorem dL_law_258 : decode code 258 = .ok (.aload_n 0, 1) := by decide +kernel
theorem dL_law_259 : decode code 259 = .ok (.iload_n 3, 1) := by decide +kernel
theorem dL_law_260 : decode code 260 = .ok (.iconst 2, 1) := by decide +kernel
theorem dL_law_261 : decode code 261 = .ok (.iadd, 1) := by decide +kernel
theorem dL_law_262 : decode code 262 = .ok (.iaload, 1) := by decide +kernel
theorem dL_law_263 : decode code 263 = .ok (.aload_n 0, 1) := by decide +kernel
theorem dL_law_264 : decode code 264 = .ok (.iload_n 3, 1) := by decide +kernel
theorem dL_law_265 : decode code 265 = .ok (.iconst 3, 1) := by decide +kernel
theorem dL_law_266 : decode code 266 = .ok (.iadd, 1) := by decide +kernel
theorem dL_law_267 : decode code 267 = .ok (.iaload, 1) := by decide +kernel
theorem dL_law_268 : decode code 268 = .ok (.invokevirtual 41, 3) := by decide +kernel
theorem dL_law_271 : decode code 271 = .ok (.if_icmp .eq 142, 3) := by decide +kernel
theorem dL_law_274 : decode code 274 = .ok (.iconst 0, 1) := by decide +kernel
theorem dL_law_275 : decode code 275 = .ok (.ireturn, 1) := by decide +kernel
theorem dL_law_276 : decode code 276 = .ok (.aload_n 1, 1) := by decide +kernel
theorem dL_law_277 : decode code 277 = .ok (.invokevirtual 42, 3) := by decide +kernel
theorem dL_law_280 : decode code 280 = .ok (.aload_n 2, 1) := by decide +kernel
theorem dL_law_281 : decode code 281 = .ok (.invokevirtual 46, 3) := by decide +kernel
theorem dL_law_284 : decode code 284 = .ok (.if_icmp .eq 129, 3) := by decide +kernel
theorem dL_law_287 : decode code 287 = .ok (.iconst 0, 1) := by decide +kernel
theorem dL_law_288 : decode code 288 = .ok (.ireturn, 1) := by decide +kernel
theorem dL_law_289 : decode code 289 = .ok (.aload_n 1, 1) := by decide +kernel
theorem dL_law_290 : decode code 290 = .ok (.invokevirtual 47, 3) := by decide +kernel
theorem dL_law_293 : decode code 293 = .ok (.aload_n 2, 1) := by decide +kernel
theorem dL_law_294 : decode code 294 = .ok (.invokevirtual 50, 3) := by decide +kernel
theorem dL_law_297 : decode code 297 = .ok (.if_icmp .eq 116, 3) := by decide +kernel
theorem dL_law_300 : decode code 300 = .ok (.iconst 0, 1) := by decide +kernel
theorem dL_law_301 : decode code 301 = .ok (.ireturn, 1) := by decide +kernel
theorem dL_law_302 : decode code 302 = .ok (.aload_n 1, 1) := by decide +kernel
theorem dL_law_303 : decode code 303 = .ok (.aload_n 0, 1) := by decide +kernel
theorem dL_law_304 : decode code 304 = .ok (.iload_n 3, 1) := by decide +kernel
theorem dL_law_305 : decode code 305 = .ok (.iconst 1, 1) := by decide +kernel
theorem dL_law_306 : decode code 306 = .ok (.iadd, 1) := by decide +kernel
theorem dL_law_307 : decode code 307 = .ok (.iaload, 1) := by decide +kernel
theorem dL_law_308 : decode code 308 = .ok (.invokevirtual 51, 3) := by decide +kernel
theorem dL_law_311 : decode code 311 = .ok (.aload_n 2, 1) := by decide +kernel
theorem dL_law_312 : decode code 312 = .ok (.aload_n 0, 1) := by decide +kernel
theorem dL_law_313 : decode code 313 = .ok (.iload_n 3, 1) := by decide +kernel
theorem dL_law_314 : decode code 314 = .ok (.iconst 1, 1) := by decide +kernel
theorem dL_law_315 : decode code 315 = .ok (.iadd, 1) := by decide +kernel
theorem dL_law_316 : decode code 316 = .ok (.iaload, 1) := by decide +kernel
theorem dL_law_317 : decode code 317 = .ok (.invokevirtual 54, 3) := by decide +kernel
theorem dL_law_320 : decode code 320 = .ok (.if_icmp .eq 93, 3) := by decide +kernel
theorem dL_law_323 : decode code 323 = .ok (.iconst 0, 1) := by decide +kernel
theorem dL_law_324 : decode code 324 = .ok (.ireturn, 1) := by decide +kernel
theorem dL_law_325 : decode code 325 = .ok (.aload_n 1, 1) := by decide +kernel
theorem dL_law_326 : decode code 326 = .ok (.invokevirtual 55, 3) := by decide +kernel
theorem dL_law_329 : decode code 329 = .ok (.aload_n 2, 1) := by decide +kernel
theorem dL_law_330 : decode code 330 = .ok (.invokevirtual 58, 3) := by decide +kernel
theorem dL_law_333 : decode code 333 = .ok (.if_icmp .eq 80, 3) := by decide +kernel
theorem dL_law_336 : decode code 336 = .ok (.iconst 0, 1) := by decide +kernel
theorem dL_law_337 : decode code 337 = .ok (.ireturn, 1) := by decide +kernel
theorem dL_law_338 : decode code 338 = .ok (.aload_n 1, 1) := by decide +kernel
theorem dL_law_339 : decode code 339 = .ok (.invokevirtual 59, 3) := by decide +kernel
theorem dL_law_342 : decode code 342 = .ok (.aload_n 2, 1) := by decide +kernel
theorem dL_law_343 : decode code 343 = .ok (.invokevirtual 62, 3) := by decide +kernel
theorem dL_law_346 : decode code 346 = .ok (.if_icmp .eq 67, 3) := by decide +kernel
theorem dL_law_349 : decode code 349 = .ok (.iconst 0, 1) := by decide +kernel
theorem dL_law_350 : decode code 350 = .ok (.ireturn, 1) := by decide +kernel
theorem dL_law_351 : decode code 351 = .ok (.aload_n 1, 1) := by decide +kernel
theorem dL_law_352 : decode code 352 = .ok (.invokevirtual 63, 3) := by decide +kernel
theorem dL_law_355 : decode code 355 = .ok (.aload_n 2, 1) := by decide +kernel
theorem dL_law_356 : decode code 356 = .ok (.invokevirtual 66, 3) := by decide +kernel
theorem dL_law_359 : decode code 359 = .ok (.if_icmp .eq 54, 3) := by decide +kernel
theorem dL_law_362 : decode code 362 = .ok (.iconst 0, 1) := by decide +kernel
theorem dL_law_363 : decode code 363 = .ok (.ireturn, 1) := by decide +kernel
theorem dL_law_364 : decode code 364 = .ok (.aload_n 1, 1) := by decide +kernel
theorem dL_law_365 : decode code 365 = .ok (.invokevirtual 67, 3) := by decide +kernel
theorem dL_law_368 : decode code 368 = .ok (.aload_n 2, 1) := by decide +kernel
theorem dL_law_369 : decode code 369 = .ok (.invokevirtual 70, 3) := by decide +kernel
theorem dL_law_372 : decode code 372 = .ok (.if_icmp .eq 41, 3) := by decide +kernel
theorem dL_law_375 : decode code 375 = .ok (.iconst 0, 1) := by decide +kernel
theorem dL_law_376 : decode code 376 = .ok (.ireturn, 1) := by decide +kernel
theorem dL_law_377 : decode code 377 = .ok (.aload_n 1, 1) := by decide +kernel
theorem dL_law_378 : decode code 378 = .ok (.aload_n 0, 1) := by decide +kernel
theorem dL_law_379 : decode code 379 = .ok (.iload_n 3, 1) := by decide +kernel
theorem dL_law_380 : decode code 380 = .ok (.iconst 1, 1) := by decide +kernel
theorem dL_law_381 : decode code 381 = .ok (.iadd, 1) := by decide +kernel
theorem dL_law_382 : decode code 382 = .ok (.iaload, 1) := by decide +kernel
theorem dL_law_383 : decode code 383 = .ok (.invokevirtual 71, 3) := by decide +kernel
theorem dL_law_386 : decode code 386 = .ok (.aload_n 2, 1) := by decide +kernel
theorem dL_law_387 : decode code 387 = .ok (.aload_n 0, 1) := by decide +kernel
theorem dL_law_388 : decode code 388 = .ok (.iload_n 3, 1) := by decide +kernel
theorem dL_law_389 : decode code 389 = .ok (.iconst 1, 1) := by decide +kernel
theorem dL_law_390 : decode code 390 = .ok (.iadd, 1) := by decide +kernel
theorem dL_law_391 : decode code 391 = .ok (.iaload, 1) := by decide +kernel
theorem dL_law_392 : decode code 392 = .ok (.invokevirtual 74, 3) := by decide +kernel
theorem dL_law_395 : decode code 395 = .ok (.if_icmp .eq 18, 3) := by decide +kernel
theorem dL_law_398 : decode code 398 = .ok (.iconst 0, 1) := by decide +kernel
theorem dL_law_399 : decode code 399 = .ok (.ireturn, 1) := by decide +kernel
theorem dL_law_400 : decode code 400 = .ok (.aload_n 1, 1) := by decide +kernel
theorem dL_law_401 : decode code 401 = .ok (.invokevirtual 75, 3) := by decide +kernel
theorem dL_law_404 : decode code 404 = .ok (.aload_n 2, 1) := by decide +kernel
theorem dL_law_405 : decode code 405 = .ok (.invokevirtual 78, 3) := by decide +kernel
theorem dL_law_408 : decode code 408 = .ok (.if_icmp .eq 5, 3) := by decide +kernel
theorem dL_law_411 : decode code 411 = .ok (.iconst 0, 1) := by decide +kernel
theorem dL_law_412 : decode code 412 = .ok (.ireturn, 1) := by decide +kernel
theorem dL_law_413 : decode code 413 = .ok (.iinc 3 4, 3) := by decide +kernel
theorem dL_law_416 : decode code 416 = .ok (.goto (-398), 3) := by decide +kernel
theorem dL_law_419 : decode code 419 = .ok (.iconst 1, 1) := by decide +kernel
theorem dL_law_420 : decode code 420 = .ok (.ireturn, 1) := by decide +kernel
end
section
/-! own rows: worlds of the class and of the reference, contracts, calls -/
abbrev classes : List vw_C := [(RX0, TX0, 3), (RX1, TX1, 6), (RX2, TX2, 7)]
def rmd (d : Nat) : Room := { frames := d, cells := 0, slots := 0, locals := 30 * d }
def bI (b : Bool) : Int32 := match b with
  | true => 1
  | false => 0
theorem bI_f {b : Bool} (h : bI b = 0) : b = false := by
  cases b
  · rfl
  · exact absurd h (by decide)
theorem bI_t {b : Bool} (h : ¬ bI b = 0) : b = true := by
  cases b
  · exact absurd rfl h
  · rfl
theorem bI_nar (b : Bool) : narrow .boolean (.int (bI b)) = .int (bI b) := by cases b <;> decide
theorem bI_fit (b : Bool) : fits .boolean (.int (bI b)) = true := by cases b <;> decide
theorem bI_d (q : Prop) [Decidable q] : bI (decide q) = if q then 1 else 0 := by
  by_cases h : q <;> simp [h, bI]
def NS (U : State) : Prop := va_Nw (.methodLinkNest RX1 15 yX0_init RX1) U ∧ va_Nw (.methodLinkNest RX1 34 yX0_removeAll RX1) U ∧ va_Nw (.methodLinkNest RX1 48 yX0_isFull RX1) U ∧ va_Nw (.methodLinkNest RX1 52 yX0_add RX1) U ∧ va_Nw (.methodLinkNest RX1 59 yX0_removeLast RX1) U ∧ va_Nw (.methodLinkNest RX1 91 yX0_allHold RX1) U ∧ va_Nw (.fieldLinkNest RX1 56 "ReachProver$ClauseList" "size" "I" RX1) U ∧ va_AO RX0 U
theorem NS.warm {s U : State} (hW : s.WarmedH U.vm) (h : NS s) : NS U := by
  obtain ⟨h1, h2, h3, h4, h5, h6, h7, h8⟩ := h
  exact ⟨va_Nw.warmM hW h1, va_Nw.warmM hW h2, va_Nw.warmM hW h3, va_Nw.warmM hW h4, va_Nw.warmM hW h5, va_Nw.warmM hW h6, va_Nw.warmF hW h7, va_AO.moved hW.alike h8⟩
theorem NS.call {U : State} {g : JFrame} {mk : MethodId} {a : Array Value} (h : NS U) : NS (U.calling g mk a) := by
  obtain ⟨h1, h2, h3, h4, h5, h6, h7, h8⟩ := h
  exact ⟨va_Nw.same rfl (rfl : U.vm = (U.calling g mk a).vm) h1, va_Nw.same rfl (rfl : U.vm = (U.calling g mk a).vm) h2, va_Nw.same rfl (rfl : U.vm = (U.calling g mk a).vm) h3, va_Nw.same rfl (rfl : U.vm = (U.calling g mk a).vm) h4, va_Nw.same rfl (rfl : U.vm = (U.calling g mk a).vm) h5, va_Nw.same rfl (rfl : U.vm = (U.calling g mk a).vm) h6, va_Nw.same rfl (rfl : U.vm = (U.calling g mk a).vm) h7, va_AO.moved (u := U) (U := U.calling g mk a) (Vm.Alike.refl U.vm) h8⟩
abbrev tyl (cI cL : ClassId) : List (ClassId × FieldType) := [(cI, .int), (cL, .object RX0)]
/-- which cells a world has -/
def adr (w : va_W) : Nat → Prop := fun q => ∃ (k : Nat) (e : va_E), w[k]? = some (q, e)
theorem adr_D {B : Nat → Prop} {w : va_W} (h : va_D B w) : va_D (adr w) w := ⟨h.1, fun k q hk => ⟨k, q.2, hk⟩⟩
theorem D_adr {B : Nat → Prop} {w : va_W} (h : va_D B w) : ∀ q, adr w q → B q := fun _ hq => by
  obtain ⟨k, e, hk⟩ := hq
  exact h.2 k _ hk
theorem D_same {B : Nat → Prop} {w w' : va_W} (h : va_D B w) (e : w.map Prod.fst = w'.map Prod.fst) : va_D B w' := by
  have key : ∀ (k : Nat) (q : Nat × va_E), w'[k]? = some q → ∃ q0, w[k]? = some q0 ∧ q0.1 = q.1 := by
    intro k q hk
    have h1 : (w'.map Prod.fst)[k]? = some q.1 := by rw [List.getElem?_map, hk]; rfl
    rw [← e, List.getElem?_map] at h1
    cases hw : w[k]? with
    | none => rw [hw] at h1; cases h1
    | some q0 => rw [hw] at h1; exact ⟨q0, rfl, Option.some.inj h1⟩
  refine ⟨fun i j x y hi hj hxy => ?_, fun k q hk => ?_⟩
  · obtain ⟨x0, a1, a2⟩ := key i x hi
    obtain ⟨y0, b1, b2⟩ := key j y hj
    exact h.1 i j x0 y0 a1 b1 (a2.trans (hxy.trans b2.symm))
  · obtain ⟨q0, a1, a2⟩ := key k q hk
    rw [← a2]
    exact h.2 k q0 a1
abbrev RI (D : va_G) (cI cL : ClassId) (w : va_W) (U : State) : Prop := va_P D classes w U.heap ∧ va_K D classes (tyl cI cL) U ∧ NS U
def QW (D : va_G) (rv : Option Value) (w' : va_W) (A : Nat → Prop) : Array Value → State → Outcome → State → Prop := fun _ st oc t => oc = .returned rv ∧ va_P D classes w' t.heap ∧ va_F A st t
abbrev MetR (l : Launch) (y : MethodName) (b : ByteArray) (n : Nat) (r : Option FieldType) (d : Nat) (as : List Value) (D : va_G) (cI cL : ClassId) (w : va_W) (v : Int32) : Prop :=
  Met l y (.code y b n r :: wt) (rmd d) (va_Pc as (RI D cI cL w)) (QcRead v) 0 0 (fun _ => False)
abbrev MetW (l : Launch) (y : MethodName) (b : ByteArray) (n : Nat) (r : Option FieldType) (d : Nat) (as : List Value) (D : va_G) (cI cL : ClassId) (w : va_W) (rv : Option Value) (w' : va_W) : Prop :=
  Met l y (.code y b n r :: wt) (rmd d) (va_Pc as (fun U => RI D cI cL w U ∧ va_D (fun _ => True) w)) (QW D rv w' (adr w)) 0 0 (adr w)
theorem MetR.mk {l : Launch} {y : MethodName} {b : ByteArray} {n : Nat} {r : Option FieldType} {d : Nat} {as : List Value} {D : va_G} {cI cL : ClassId} {w : va_W} {v : Int32} (hy : plainName y.cls = true) (hn : (lg_sl as).length ≤ n)
    (body : ∀ (p : Program) (e : Env) (s : State) (m : MethodId) (args : Array Value) (below : List Frame) (meth : Method) (c : Code) (Q : State → Prop), Q = MQ below (QcRead v) args s 0 0 (fun _ => False) → CallFix p m c b n s args wt y.cls → meth.sig.returnType = r → meth.locks = false → NS s → va_K D classes (tyl cI cL) s → va_P D classes w s.heap → ∀ ls : Array Slot, lv_has ls n (lv_args 0 as) →
      W p l e (rmd d) s m args below meth c s.heap [] 0 0 Q (F0 m 0 ls [])) : MetR l y b n r d as D cI cL w v := by
  refine Met.ofW (cc := b) (maxL := n) (ret := r) hy rfl ?_
  intro p e s m args below meth c s₁ B hml hv
  obtain ⟨rfl, hP, hK, hN⟩ := hv
  have hts := atoms_spec (ws := .code y b n r :: wt) B.pre
  have hown : s.vm.findClass y.cls = some m.cls := findClass_of_methodNamed B.named
  have hl := lv_entry as (n := n) hn
  rw [lg_entry_eq]
  exact body p e s m _ below meth c _ rfl ⟨B.exec, B.bytes, hml, hown, fun w h => hts w (List.mem_cons_of_mem _ h)⟩ B.returns B.notSynchronized hN hK hP _ hl
theorem MetW.mk {l : Launch} {y : MethodName} {b : ByteArray} {n : Nat} {r : Option FieldType} {d : Nat} {as : List Value} {D : va_G} {cI cL : ClassId} {w w' : va_W} {rv : Option Value} (hy : plainName y.cls = true) (hn : (lg_sl as).length ≤ n)
    (body : ∀ (p : Program) (e : Env) (s : State) (m : MethodId) (args : Array Value) (below : List Frame) (meth : Method) (c : Code) (Q : State → Prop) (A : Nat → Prop), Q = MQ below (QW D rv w' A) args s 0 0 A → CallFix p m c b n s args wt y.cls → meth.sig.returnType = r → meth.locks = false → NS s → va_K D classes (tyl cI cL) s → va_P D classes w s.heap → va_D A w → va_S A s.heap s.heap [] → ∀ ls : Array Slot, lv_has ls n (lv_args 0 as) →
      W p l e (rmd d) s m args below meth c s.heap [] 0 0 Q (F0 m 0 ls [])) : MetW l y b n r d as D cI cL w rv w' := by
  refine Met.ofW (cc := b) (maxL := n) (ret := r) hy rfl ?_
  intro p e s m args below meth c s₁ B hml hv
  obtain ⟨rfl, ⟨hP, hK, hN⟩, hD⟩ := hv
  have hts := atoms_spec (ws := .code y b n r :: wt) B.pre
  have hown : s.vm.findClass y.cls = some m.cls := findClass_of_methodNamed B.named
  have hl := lv_entry as (n := n) hn
  rw [lg_entry_eq]
  exact body p e s m _ below meth c _ _ rfl ⟨B.exec, B.bytes, hml, hown, fun w h => hts w (List.mem_cons_of_mem _ h)⟩ B.returns B.notSynchronized hN hK hP (adr_D hD) va_S.rf _ hl
/-- what the tables say of a call -/
def CV (own : String) (index : Nat) (y : MethodName) (b : ByteArray) (n : Nat) (r : Option FieldType) (na : Nat) : Prop := Cond.code y b n r ∈ wt ∧ Cond.initialized y.cls ∈ wt ∧ Cond.methodLink own index y ∈ wt ∧ Cond.instanceMethod y ∈ wt ∧ Cond.selects y.cls y y ∈ wt ∧ (y.cls ≠ "java/lang/invoke/MethodHandle" ∧ y.cls ≠ "java/lang/invoke/VarHandle" ∧ (parseMethodDescriptor y.desc).map (fun d => d.parameters.length) = some na)
def CT (own : String) (index : Nat) (y : MethodName) (b : ByteArray) (n : Nat) (r : Option FieldType) (na : Nat) : Prop := Cond.code y b n r ∈ wt ∧ Cond.initialized y.cls ∈ wt ∧ Cond.methodLink own index y ∈ wt ∧ Cond.static y ∈ wt ∧ (y.cls ≠ "java/lang/invoke/MethodHandle" ∧ y.cls ≠ "java/lang/invoke/VarHandle" ∧ (parseMethodDescriptor y.desc).map (fun d => d.parameters.length) = some na)
def CM (y : MethodName) (b : ByteArray) (n : Nat) (r : Option FieldType) (na : Nat) : Prop := Cond.code y b n r ∈ wt ∧ Cond.initialized y.cls ∈ wt ∧ Cond.instanceMethod y ∈ wt ∧ Cond.selects y.cls y y ∈ wt ∧ (y.cls ≠ "java/lang/invoke/MethodHandle" ∧ y.cls ≠ "java/lang/invoke/VarHandle" ∧ (parseMethodDescriptor y.desc).map (fun d => d.parameters.length) = some na)
section ZC
variable {p : Program} {l : Launch} {e : Env} {R : Room} {s : State} {m : MethodId} {args : Array Value} {below : List Frame} {meth : Method} {c : Code} {H H0 : Heap} {locs : List Loc} {cells slots : Nat} {Q : State → Prop} {cc : ByteArray} {nL pc : Nat} {ls : Array Slot} {rest st0 : List Value} {D : va_G} {cI cL : ClassId} {A : Nat → Prop}
variable {own : String} {index : Nat} {y : MethodName} {b : ByteArray} {n na d : Nat} {r : Option FieldType} {As : List Value} {w w' : va_W} {v : Int32} {b0 : Nat}
theorem rd_go {a : Array Value} (hr : va_Run p l e R s m args below meth c H locs cells slots 0 0 (F0 m pc ls st0) rest (QcRead v a) (fun _ => False))
    (kk : W p l e R s m args below meth c H locs cells slots Q (F0 m (pc + 3) ls (.int v :: rest))) : W p l e R s m args below meth c H locs cells slots Q (F0 m pc ls st0) := by
  intro T hT X
  obtain ⟨v, st₀, t, T', L, h0, X', hL, e1, -, ⟨hv, hh⟩, st⟩ := hr T hT X
  cases hv
  obtain ⟨t2, a1, b1⟩ := kk T' (by rw [e1, hh, h0]) (Stand.forget X' (fun q h => (hL q h).elim))
  exact ⟨t2, st t2 a1, b1⟩
theorem wr_go {a : Array Value} {rv : Option Value} (hr : va_Run p l e R s m args below meth c H locs cells slots 0 0 (F0 m pc ls st0) rest (QW D rv w' (adr w) a) (adr w)) (hD : va_D A w) (hS : va_S A H0 H locs)
    (kk : ∀ (H1 : Heap) (locs1 : List Loc), va_P D classes w' H1 → va_S A H0 H1 locs1 → (∀ q : Nat, q < H.size → ¬ adr w q → H1[q]? = H[q]?) → W p l e R s m args below meth c H1 locs1 cells slots Q (F0 m (pc + 3) ls (rv.toList ++ rest))) : W p l e R s m args below meth c H locs cells slots Q (F0 m pc ls st0) := by
  intro T hT X
  obtain ⟨v, st₀, t, T', L, h0, X', hL, e1, e2, ⟨hv, hp, hz, hk⟩, st⟩ := hr T hT X
  cases hv
  rw [h0] at hz hk
  have hf := D_adr hD
  obtain ⟨t2, a1, b1⟩ := kk T'.heap (locs ++ L) (by rw [e1]; exact hp)
    ⟨Nat.le_trans hS.1 (by rw [e1]; exact hz), fun q h1 h2 => by rw [e1, hk q (Nat.lt_of_lt_of_le h1 hS.1) (fun z => h2 (hf q z))]; exact hS.2.1 q h1 h2, fun q hq => by
      rcases List.mem_append.mp hq with h | h
      · exact hS.2.2 q h
      · exact hf _ (hL q h)⟩ (fun q h1 h2 => by rw [e1]; exact hk q h1 h2) T' rfl X'
  exact ⟨t2, st t2 a1, b1⟩
theorem cv_W (hw : ∀ w ∈ wt, w.before args s = true) (h : CV own index y b n r na) (hR : d + 1 ≤ R.frames ∧ 8 + (n + 11) + 30 * d ≤ R.locals) : CallW R s args own y.cls index y b n r (.code y b n r :: wt) (rmd d) 0 0 na :=
  ⟨callB_of na hw (wt_gd h.1) rfl rfl rfl (hw _ h.2.1) (hw _ h.2.2.1) h.2.2.2.2.2 hR, hw _ h.2.2.2.1, hw _ h.2.2.2.2.1⟩
theorem ct_W (hw : ∀ w ∈ wt, w.before args s = true) (h : CT own index y b n r na) (hR : d + 1 ≤ R.frames ∧ 8 + (n + 11) + 30 * d ≤ R.locals) : CallB R s args own index y b n r (.code y b n r :: wt) (rmd d) 0 0 na ∧ (Cond.static y).before args s = true :=
  ⟨callB_of na hw (wt_gd h.1) rfl rfl rfl (hw _ h.2.1) (hw _ h.2.2.1) h.2.2.2.2 hR, hw _ h.2.2.2.1⟩
theorem cm_W {host : String} (hw : ∀ w ∈ wt, w.before args s = true) (h : CM y b n r na) (hl : va_Nw (.methodLinkNest own index y host) s) (hR : d + 1 ≤ R.frames ∧ 8 + (n + 11) + 30 * d ≤ R.locals) : va_CN R s args own index y host b n r (.code y b n r :: wt) (rmd d) 0 0 na ∧ (Cond.instanceMethod y).before args s = true ∧ (Cond.selects y.cls y y).before args s = true :=
  ⟨va_cnB na hw (wt_gd h.1) rfl rfl rfl hl (hw _ h.2.1) h.2.2.2.2 hR, hw _ h.2.2.1, hw _ h.2.2.2.1⟩
theorem bl_R {as : List Value} : FrameBlind (va_Pc as (RI D cI cL w)) := fun a U g mk q => ⟨q.1, q.2.1, va_K.moved (u := U) (U := U.calling g mk a) (Vm.Alike.refl U.vm) q.2.2.1, q.2.2.2.call⟩
theorem bl_W {as : List Value} : FrameBlind (va_Pc as (fun U => RI D cI cL w U ∧ va_D (fun _ => True) w)) := fun a U g mk q => ⟨q.1, ⟨q.2.1.1, va_K.moved (u := U) (U := U.calling g mk a) (Vm.Alike.refl U.vm) q.2.1.2.1, q.2.1.2.2.call⟩, q.2.2⟩
theorem at_R {as : List Value} (hP : va_P D classes w H) (hK : va_K D classes (tyl cI cL) s) (hN : NS s) : ∀ U : State, U.heap = H → s.WarmedH U.vm → va_Pc as (RI D cI cL w) as.toArray U := fun U hU hW => ⟨rfl, by rw [hU]; exact hP, va_K.moved hW.alike hK, hN.warm hW⟩
theorem at_W {as : List Value} (hP : va_P D classes w H) (hK : va_K D classes (tyl cI cL) s) (hN : NS s) (hD : va_D A w) : ∀ U : State, U.heap = H → s.WarmedH U.vm → va_Pc as (fun U => RI D cI cL w U ∧ va_D (fun _ => True) w) as.toArray U := fun U hU hW => ⟨rfl, ⟨by rw [hU]; exact hP, va_K.moved hW.alike hK, hN.warm hW⟩, hD.weaken (fun _ _ _ _ => trivial)⟩
/-- a call of a method that writes nothing -/
theorem rdV (S : CallFix p m c cc nL s args wt own) (hv : CV own index y b n r na) (hM : MetR l y b n r d (.ref b0 :: As) D cI cL w v) (hK : va_K D classes (tyl cI cL) s) (hN : NS s) (hP : va_P D classes w H) (hrv : ∃ cell : Cell, H[b0]? = some cell ∧ cell.vm.isStatics = false ∧ s.vm.findClass y.cls = some cell.cls) (hR : d + 1 ≤ R.frames ∧ 8 + (n + 11) + 30 * d ≤ R.locals) (hc : cells ≤ R.cells ∧ slots ≤ R.slots) (hna : As.length = na) (hls : ls.size = nL) (hst : st0 = As.reverse ++ .ref b0 :: rest) (hre : (rest.map fun v => v.category).sum ≤ 8) (hdg : decode cc pc = .ok (.invokevirtual index, 3))
    (kk : W p l e R s m args below meth c H locs cells slots Q (F0 m (pc + 3) ls (.int v :: rest))) : W p l e R s m args below meth c H locs cells slots Q (F0 m pc ls st0) :=
  rd_go (va_runV (g := F0 m pc ls st0) S hM (cv_W S.2.2.2.2 hv hR) ⟨bl_R, hrv, at_R hP hK hN⟩ rfl hna hls hst (lv_room hre) hdg hc) kk
theorem rdS (S : CallFix p m c cc nL s args wt own) (hv : CT own index y b n r na) (hM : MetR l y b n r d As D cI cL w v) (hK : va_K D classes (tyl cI cL) s) (hN : NS s) (hP : va_P D classes w H) (hR : d + 1 ≤ R.frames ∧ 8 + (n + 11) + 30 * d ≤ R.locals) (hc : cells ≤ R.cells ∧ slots ≤ R.slots) (hna : As.length = na) (hls : ls.size = nL) (hst : st0 = As.reverse ++ rest) (hre : (rest.map fun v => v.category).sum ≤ 8) (hdg : decode cc pc = .ok (.invokestatic index, 3))
    (kk : W p l e R s m args below meth c H locs cells slots Q (F0 m (pc + 3) ls (.int v :: rest))) : W p l e R s m args below meth c H locs cells slots Q (F0 m pc ls st0) :=
  rd_go (va_runS (g := F0 m pc ls st0) S hM (ct_W S.2.2.2.2 hv hR) ⟨bl_R, at_R hP hK hN⟩ rfl hna hls hst (lv_room hre) hdg hc) kk
theorem rdN {host : String} (S : CallFix p m c cc nL s args wt own) (hv : CM y b n r na) (hl : va_Nw (.methodLinkNest own index y host) s) (hM : MetR l y b n r d (.ref b0 :: As) D cI cL w v) (hK : va_K D classes (tyl cI cL) s) (hN : NS s) (hP : va_P D classes w H) (hrv : ∃ cell : Cell, H[b0]? = some cell ∧ cell.vm.isStatics = false ∧ s.vm.findClass y.cls = some cell.cls) (hR : d + 1 ≤ R.frames ∧ 8 + (n + 11) + 30 * d ≤ R.locals) (hc : cells ≤ R.cells ∧ slots ≤ R.slots) (hna : As.length = na) (hls : ls.size = nL) (hst : st0 = As.reverse ++ .ref b0 :: rest) (hre : (rest.map fun v => v.category).sum ≤ 8) (hdg : decode cc pc = .ok (.invokevirtual index, 3))
    (kk : W p l e R s m args below meth c H locs cells slots Q (F0 m (pc + 3) ls (.int v :: rest))) : W p l e R s m args below meth c H locs cells slots Q (F0 m pc ls st0) :=
  rd_go (va_runVN (g := F0 m pc ls st0) S hM (cm_W S.2.2.2.2 hv hl hR) ⟨bl_R, hrv, at_R hP hK hN⟩ rfl hna hls hst (lv_room hre) hdg hc) kk
/-- a call of a method that writes in its world, and makes nothing -/
theorem wrV {rv : Option Value} (S : CallFix p m c cc nL s args wt own) (hv : CV own index y b n r na) (hM : MetW l y b n r d (.ref b0 :: As) D cI cL w rv w') (hK : va_K D classes (tyl cI cL) s) (hN : NS s) (hP : va_P D classes w H) (hD : va_D A w) (hS : va_S A H0 H locs) (hrv : ∃ cell : Cell, H[b0]? = some cell ∧ cell.vm.isStatics = false ∧ s.vm.findClass y.cls = some cell.cls) (hR : d + 1 ≤ R.frames ∧ 8 + (n + 11) + 30 * d ≤ R.locals) (hc : cells ≤ R.cells ∧ slots ≤ R.slots) (hna : As.length = na) (hls : ls.size = nL) (hst : st0 = As.reverse ++ .ref b0 :: rest) (hre : (rest.map fun v => v.category).sum ≤ 8) (hdg : decode cc pc = .ok (.invokevirtual index, 3))
    (kk : ∀ (H1 : Heap) (locs1 : List Loc), va_P D classes w' H1 → va_S A H0 H1 locs1 → (∀ q : Nat, q < H.size → ¬ adr w q → H1[q]? = H[q]?) → W p l e R s m args below meth c H1 locs1 cells slots Q (F0 m (pc + 3) ls (rv.toList ++ rest))) : W p l e R s m args below meth c H locs cells slots Q (F0 m pc ls st0) :=
  wr_go (va_runV (g := F0 m pc ls st0) S hM (cv_W S.2.2.2.2 hv hR) ⟨bl_W, hrv, at_W hP hK hN hD⟩ rfl hna hls hst (lv_room hre) hdg hc) hD hS kk
theorem wrN {rv : Option Value} {host : String} (S : CallFix p m c cc nL s args wt own) (hv : CM y b n r na) (hl : va_Nw (.methodLinkNest own index y host) s) (hM : MetW l y b n r d (.ref b0 :: As) D cI cL w rv w') (hK : va_K D classes (tyl cI cL) s) (hN : NS s) (hP : va_P D classes w H) (hD : va_D A w) (hS : va_S A H0 H locs) (hrv : ∃ cell : Cell, H[b0]? = some cell ∧ cell.vm.isStatics = false ∧ s.vm.findClass y.cls = some cell.cls) (hR : d + 1 ≤ R.frames ∧ 8 + (n + 11) + 30 * d ≤ R.locals) (hc : cells ≤ R.cells ∧ slots ≤ R.slots) (hna : As.length = na) (hls : ls.size = nL) (hst : st0 = As.reverse ++ .ref b0 :: rest) (hre : (rest.map fun v => v.category).sum ≤ 8) (hdg : decode cc pc = .ok (.invokevirtual index, 3))
    (kk : ∀ (H1 : Heap) (locs1 : List Loc), va_P D classes w' H1 → va_S A H0 H1 locs1 → (∀ q : Nat, q < H.size → ¬ adr w q → H1[q]? = H[q]?) → W p l e R s m args below meth c H1 locs1 cells slots Q (F0 m (pc + 3) ls (rv.toList ++ rest))) : W p l e R s m args below meth c H locs cells slots Q (F0 m pc ls st0) :=
  wr_go (va_runVN (g := F0 m pc ls st0) S hM (cm_W S.2.2.2.2 hv hl hR) ⟨bl_W, hrv, at_W hP hK hN hD⟩ rfl hna hls hst (lv_room hre) hdg hc) hD hS kk
theorem wrVv (S : CallFix p m c cc nL s args wt own) (hv : CV own index y b n r na) (hM : MetW l y b n r d (.ref b0 :: As) D cI cL w none w') (hK : va_K D classes (tyl cI cL) s) (hN : NS s) (hP : va_P D classes w H) (hD : va_D A w) (hS : va_S A H0 H locs) (hrv : ∃ cell : Cell, H[b0]? = some cell ∧ cell.vm.isStatics = false ∧ s.vm.findClass y.cls = some cell.cls) (hR : d + 1 ≤ R.frames ∧ 8 + (n + 11) + 30 * d ≤ R.locals) (hc : cells ≤ R.cells ∧ slots ≤ R.slots) (hna : As.length = na) (hls : ls.size = nL) (hst : st0 = As.reverse ++ .ref b0 :: rest) (hre : (rest.map fun v => v.category).sum ≤ 8) (hdg : decode cc pc = .ok (.invokevirtual index, 3))
    (kk : ∀ (H1 : Heap) (locs1 : List Loc), va_P D classes w' H1 → va_S A H0 H1 locs1 → (∀ q : Nat, q < H.size → ¬ adr w q → H1[q]? = H[q]?) → W p l e R s m args below meth c H1 locs1 cells slots Q (F0 m (pc + 3) ls rest)) : W p l e R s m args below meth c H locs cells slots Q (F0 m pc ls st0) :=
  wrV S hv hM hK hN hP hD hS hrv hR hc hna hls hst hre hdg kk
theorem wrVi (S : CallFix p m c cc nL s args wt own) (hv : CV own index y b n r na) (hM : MetW l y b n r d (.ref b0 :: As) D cI cL w (some (.int v)) w') (hK : va_K D classes (tyl cI cL) s) (hN : NS s) (hP : va_P D classes w H) (hD : va_D A w) (hS : va_S A H0 H locs) (hrv : ∃ cell : Cell, H[b0]? = some cell ∧ cell.vm.isStatics = false ∧ s.vm.findClass y.cls = some cell.cls) (hR : d + 1 ≤ R.frames ∧ 8 + (n + 11) + 30 * d ≤ R.locals) (hc : cells ≤ R.cells ∧ slots ≤ R.slots) (hna : As.length = na) (hls : ls.size = nL) (hst : st0 = As.reverse ++ .ref b0 :: rest) (hre : (rest.map fun v => v.category).sum ≤ 8) (hdg : decode cc pc = .ok (.invokevirtual index, 3))
    (kk : ∀ (H1 : Heap) (locs1 : List Loc), va_P D classes w' H1 → va_S A H0 H1 locs1 → (∀ q : Nat, q < H.size → ¬ adr w q → H1[q]? = H[q]?) → W p l e R s m args below meth c H1 locs1 cells slots Q (F0 m (pc + 3) ls (.int v :: rest))) : W p l e R s m args below meth c H locs cells slots Q (F0 m pc ls st0) :=
  wrV S hv hM hK hN hP hD hS hrv hR hc hna hls hst hre hdg kk
theorem wrNv {host : String} (S : CallFix p m c cc nL s args wt own) (hv : CM y b n r na) (hl : va_Nw (.methodLinkNest own index y host) s) (hM : MetW l y b n r d (.ref b0 :: As) D cI cL w none w') (hK : va_K D classes (tyl cI cL) s) (hN : NS s) (hP : va_P D classes w H) (hD : va_D A w) (hS : va_S A H0 H locs) (hrv : ∃ cell : Cell, H[b0]? = some cell ∧ cell.vm.isStatics = false ∧ s.vm.findClass y.cls = some cell.cls) (hR : d + 1 ≤ R.frames ∧ 8 + (n + 11) + 30 * d ≤ R.locals) (hc : cells ≤ R.cells ∧ slots ≤ R.slots) (hna : As.length = na) (hls : ls.size = nL) (hst : st0 = As.reverse ++ .ref b0 :: rest) (hre : (rest.map fun v => v.category).sum ≤ 8) (hdg : decode cc pc = .ok (.invokevirtual index, 3))
    (kk : ∀ (H1 : Heap) (locs1 : List Loc), va_P D classes w' H1 → va_S A H0 H1 locs1 → (∀ q : Nat, q < H.size → ¬ adr w q → H1[q]? = H[q]?) → W p l e R s m args below meth c H1 locs1 cells slots Q (F0 m (pc + 3) ls rest)) : W p l e R s m args below meth c H locs cells slots Q (F0 m pc ls st0) :=
  wrN S hv hl hM hK hN hP hD hS hrv hR hc hna hls hst hre hdg kk
/-- the ends of methods -/
theorem rd_ret {x : Int32} (hQ : Q = MQ below (QcRead v) args s 0 0 (fun _ => False)) (S : CallFix p m c cc nL s args wt own) (hr : meth.sig.returnType = some .int) (hlk : meth.locks = false) (hx : x = v) (hdg : decode cc pc = .ok (.ireturn, 1)) : W p l e R s m args below meth c s.heap [] 0 0 Q (F0 m pc ls [.int x]) := by
  subst hQ
  exact W.iret S.1 S.2.1 hr (fun t ht _ => ⟨by rw [hx], ht⟩) (fun q h => nomatch h) hdg hlk
theorem rd_retz {x : Int32} {z : Bool} (hQ : Q = MQ below (QcRead (bI z)) args s 0 0 (fun _ => False)) (S : CallFix p m c cc nL s args wt own) (hr : meth.sig.returnType = some .boolean) (hlk : meth.locks = false) (hx : x = bI z) (hdg : decode cc pc = .ok (.ireturn, 1)) : W p l e R s m args below meth c s.heap [] 0 0 Q (F0 m pc ls [.int x]) := by
  subst hQ
  exact W.zret S.1 S.2.1 hr (by rw [hx]; exact bI_nar z) (fun t ht _ => ⟨by rw [hx], ht⟩) (fun q h => nomatch h) hdg hlk
theorem wr_ret {x : Int32} (hQ : Q = MQ below (QW D (some (.int v)) w' A) args s 0 0 A) (S : CallFix p m c cc nL s args wt own) (hr : meth.sig.returnType = some .int) (hlk : meth.locks = false) (hP : va_P D classes w H) (hS : va_S A s.heap H locs) (hw : w = w') (hx : x = v) (hdg : decode cc pc = .ok (.ireturn, 1)) : W p l e R s m args below meth c H locs 0 0 Q (F0 m pc ls [.int x]) := by
  subst hQ
  subst hw
  exact W.iret S.1 S.2.1 hr (fun t ht _ => ⟨by rw [hx], by rw [ht]; exact hP, hS.F ht⟩) hS.2.2 hdg hlk
theorem wr_retz {x : Int32} {z : Bool} (hQ : Q = MQ below (QW D (some (.int (bI z))) w' A) args s 0 0 A) (S : CallFix p m c cc nL s args wt own) (hr : meth.sig.returnType = some .boolean) (hlk : meth.locks = false) (hP : va_P D classes w H) (hS : va_S A s.heap H locs) (hw : w = w') (hx : x = bI z) (hdg : decode cc pc = .ok (.ireturn, 1)) : W p l e R s m args below meth c H locs 0 0 Q (F0 m pc ls [.int x]) := by
  subst hQ
  subst hw
  exact W.zret S.1 S.2.1 hr (by rw [hx]; exact bI_nar z) (fun t ht _ => ⟨by rw [hx], by rw [ht]; exact hP, hS.F ht⟩) hS.2.2 hdg hlk
theorem wr_retv (hQ : Q = MQ below (QW D none w' A) args s 0 0 A) (S : CallFix p m c cc nL s args wt own) (hr : meth.sig.returnType = none) (hlk : meth.locks = false) (hP : va_P D classes w H) (hS : va_S A s.heap H locs) (hw : w = w') (hdg : decode cc pc = .ok (.return_, 1)) : W p l e R s m args below meth c H locs 0 0 Q (F0 m pc ls []) := by
  subst hQ
  subst hw
  exact W.vret S.1 S.2.1 hr (fun t ht _ => ⟨rfl, by rw [ht]; exact hP, hS.F ht⟩) hS.2.2 hdg hlk
theorem tp {x y : Int32} (h : x = y) (k : W p l e R s m args below meth c H locs cells slots Q (F0 m pc ls (.int y :: rest))) : W p l e R s m args below meth c H locs cells slots Q (F0 m pc ls (.int x :: rest)) := by
  rw [h]
  exact k
end ZC
end
section
def RPw (cI cL : ClassId) (a : Nat → Nat) (dep : Nat → Int32) (dk : Bool) (N pl : Nat) (pe : Int32) (cn : Nat → Nat) (P M : Nat → Nat → Int32) : va_W := [(a 0, .inr (1, [.ref (a 1), .ref (a 2), .int (bI dk), .int (nI N), .int (nI pl), .int pe])), (a 1, .inl (cL, 4, .inr (.inr (.inr (.inr (fun k => some (a (3 + 3 * k)))))))), (a 2, .inl (cI, 64, .inl dep)), (a 3, .inr (0, [.ref (a 4), .ref (a 5), .int (nI (cn 0))])), (a 4, .inl (cI, 24, .inl (P 0))), (a 5, .inl (cI, 24, .inl (M 0))), (a 6, .inr (0, [.ref (a 7), .ref (a 8), .int (nI (cn 1))])), (a 7, .inl (cI, 24, .inl (P 1))), (a 8, .inl (cI, 24, .inl (M 1))), (a 9, .inr (0, [.ref (a 10), .ref (a 11), .int (nI (cn 2))])), (a 10, .inl (cI, 24, .inl (P 2))), (a 11, .inl (cI, 24, .inl (M 2))), (a 12, .inr (0, [.ref (a 13), .ref (a 14), .int (nI (cn 3))])), (a 13, .inl (cI, 24, .inl (P 3))), (a 14, .inl (cI, 24, .inl (M 3)))]
def MDw (cI : ClassId) (b : Nat → Nat) (N len : Nat) (cn : Nat → Nat) (P M pth dep : Nat → Int32) : va_W := [(b 0, .inr (2, [.int (nI N), .ref (b 1), .ref (b 2), .ref (b 3), .ref (b 4), .int (nI len), .ref (b 5)])), (b 1, .inl (cI, 4, .inl (fun k => nI (cn k)))), (b 2, .inl (cI, 96, .inl P)), (b 3, .inl (cI, 96, .inl M)), (b 4, .inl (cI, 64, .inl pth)), (b 5, .inl (cI, 64, .inl dep))]
section ZW
variable {p : Program} {l : Launch} {e : Env} {R : Room} {s : State} {m : MethodId} {args : Array Value} {below : List Frame} {meth : Method} {c : Code} {H H0 : Heap} {locs : List Loc} {cells slots : Nat} {Q : State → Prop} {cc : ByteArray} {nL pc : Nat} {ls : Array Slot} {rest st0 : List Value} {D : va_G} {cI cL : ClassId} {A : Nat → Prop}
variable {a : Nat → Nat} {dep : Nat → Int32} {dk : Bool} {N pl : Nat} {pe : Int32} {cn : Nat → Nat} {P M : Nat → Nat → Int32}
theorem rp_o {k : Nat} (hk : k < 4) : (RPw cI cL a dep dk N pl pe cn P M)[3 + 3 * k]? = some (a (3 + 3 * k), .inr (0, [.ref (a (4 + 3 * k)), .ref (a (5 + 3 * k)), .int (nI (cn k))])) := by
  rcases (show k = 0 ∨ k = 1 ∨ k = 2 ∨ k = 3 by omega) with rfl | rfl | rfl | rfl <;> rfl
theorem rp_p {k : Nat} (hk : k < 4) : (RPw cI cL a dep dk N pl pe cn P M)[4 + 3 * k]? = some (a (4 + 3 * k), .inl (cI, 24, .inl (P k))) := by
  rcases (show k = 0 ∨ k = 1 ∨ k = 2 ∨ k = 3 by omega) with rfl | rfl | rfl | rfl <;> rfl
theorem rp_m {k : Nat} (hk : k < 4) : (RPw cI cL a dep dk N pl pe cn P M)[5 + 3 * k]? = some (a (5 + 3 * k), .inl (cI, 24, .inl (M k))) := by
  rcases (show k = 0 ∨ k = 1 ∨ k = 2 ∨ k = 3 by omega) with rfl | rfl | rfl | rfl <;> rfl
theorem rp_so {k x : Nat} (hk : k < 4) : (RPw cI cL a dep dk N pl pe cn P M).set (3 + 3 * k) (a (3 + 3 * k), .inr (0, [.ref (a (4 + 3 * k)), .ref (a (5 + 3 * k)), .int (nI x)])) = (RPw cI cL a dep dk N pl pe (va_up cn k x) P M) := by
  rcases (show k = 0 ∨ k = 1 ∨ k = 2 ∨ k = 3 by omega) with rfl | rfl | rfl | rfl <;> rfl
theorem rp_sp {k : Nat} {f : Nat → Int32} (hk : k < 4) : (RPw cI cL a dep dk N pl pe cn P M).set (4 + 3 * k) (a (4 + 3 * k), .inl (cI, 24, .inl f)) = (RPw cI cL a dep dk N pl pe cn (va_up P k f) M) := by
  rcases (show k = 0 ∨ k = 1 ∨ k = 2 ∨ k = 3 by omega) with rfl | rfl | rfl | rfl <;> rfl
theorem rp_sm {k : Nat} {f : Nat → Int32} (hk : k < 4) : (RPw cI cL a dep dk N pl pe cn P M).set (5 + 3 * k) (a (5 + 3 * k), .inl (cI, 24, .inl f)) = (RPw cI cL a dep dk N pl pe cn P (va_up M k f)) := by
  rcases (show k = 0 ∨ k = 1 ∨ k = 2 ∨ k = 3 by omega) with rfl | rfl | rfl | rfl <;> rfl
theorem rp_D {dep' : Nat → Int32} {dk' : Bool} {N' pl' : Nat} {pe' : Int32} {cn' : Nat → Nat} {P' M' : Nat → Nat → Int32} (h : va_D A (RPw cI cL a dep dk N pl pe cn P M)) : va_D A (RPw cI cL a dep' dk' N' pl' pe' cn' P' M') := D_same h rfl
theorem rp_rv (hK : va_K D classes (tyl cI cL) s) (hP : va_P D classes (RPw cI cL a dep dk N pl pe cn P M) H) : ∃ cell : Cell, H[a 0]? = some cell ∧ cell.vm.isStatics = false ∧ s.vm.findClass RX1 = some cell.cls := va_recv hK hP (ci := 1) (q0 := 0) rfl rfl
theorem rp_rvk {k : Nat} (hk : k < 4) (hK : va_K D classes (tyl cI cL) s) (hP : va_P D classes (RPw cI cL a dep dk N pl pe cn P M) H) : ∃ cell : Cell, H[a (3 + 3 * k)]? = some cell ∧ cell.vm.isStatics = false ∧ s.vm.findClass RX0 = some cell.cls := va_recv hK hP (ci := 0) (q0 := 3 + 3 * k) rfl (rp_o hk)
theorem g1_lists (S : CallFix p m c cc nL s args wt RX1) (hK : va_K D classes (tyl cI cL) s) (hP : va_P D classes (RPw cI cL a dep dk N pl pe cn P M) H) (hdg : decode cc pc = .ok (.getfield 11, 3)) (kk : W p l e R s m args below meth c H locs cells slots Q (F0 m (pc + 3) ls (.ref (a 1) :: rest))) : W p l e R s m args below meth c H locs cells slots Q (F0 m pc ls (.ref (a 0) :: rest)) :=
  va_get (D := D) (ci := 1) (v := .ref (a 1)) (C := RX1) (T := TX1) (N := 6) S.1 S.2.1 S.2.2.2.2 inX1 S.2.2.2.1 hK hP 0 rfl rfl 0 (by decide) (S.2.2.2.2 _ k_31) (fun _ h9 => h9) rfl hdg kk
theorem g1_depths (S : CallFix p m c cc nL s args wt RX1) (hK : va_K D classes (tyl cI cL) s) (hP : va_P D classes (RPw cI cL a dep dk N pl pe cn P M) H) (hdg : decode cc pc = .ok (.getfield 16, 3)) (kk : W p l e R s m args below meth c H locs cells slots Q (F0 m (pc + 3) ls (.ref (a 2) :: rest))) : W p l e R s m args below meth c H locs cells slots Q (F0 m pc ls (.ref (a 0) :: rest)) :=
  va_get (D := D) (ci := 1) (v := .ref (a 2)) (C := RX1) (T := TX1) (N := 6) S.1 S.2.1 S.2.2.2.2 inX1 S.2.2.2.1 hK hP 0 rfl rfl 1 (by decide) (S.2.2.2.2 _ k_32) (fun _ h9 => h9) rfl hdg kk
theorem g1_depthsKnown (S : CallFix p m c cc nL s args wt RX1) (hK : va_K D classes (tyl cI cL) s) (hP : va_P D classes (RPw cI cL a dep dk N pl pe cn P M) H) (hdg : decode cc pc = .ok (.getfield 20, 3)) (kk : W p l e R s m args below meth c H locs cells slots Q (F0 m (pc + 3) ls (.int (bI dk) :: rest))) : W p l e R s m args below meth c H locs cells slots Q (F0 m pc ls (.ref (a 0) :: rest)) :=
  va_get (D := D) (ci := 1) (v := .int (bI dk)) (C := RX1) (T := TX1) (N := 6) S.1 S.2.1 S.2.2.2.2 inX1 S.2.2.2.1 hK hP 0 rfl rfl 2 (by decide) (S.2.2.2.2 _ k_33) (fun _ h9 => h9) rfl hdg kk
theorem g1_switchCount (S : CallFix p m c cc nL s args wt RX1) (hK : va_K D classes (tyl cI cL) s) (hP : va_P D classes (RPw cI cL a dep dk N pl pe cn P M) H) (hdg : decode cc pc = .ok (.getfield 24, 3)) (kk : W p l e R s m args below meth c H locs cells slots Q (F0 m (pc + 3) ls (.int (nI N) :: rest))) : W p l e R s m args below meth c H locs cells slots Q (F0 m pc ls (.ref (a 0) :: rest)) :=
  va_get (D := D) (ci := 1) (v := .int (nI N)) (C := RX1) (T := TX1) (N := 6) S.1 S.2.1 S.2.2.2.2 inX1 S.2.2.2.1 hK hP 0 rfl rfl 3 (by decide) (S.2.2.2.2 _ k_34) (fun _ h9 => h9) rfl hdg kk
theorem g1_pathLength (S : CallFix p m c cc nL s args wt RX1) (hK : va_K D classes (tyl cI cL) s) (hP : va_P D classes (RPw cI cL a dep dk N pl pe cn P M) H) (hdg : decode cc pc = .ok (.getfield 28, 3)) (kk : W p l e R s m args below meth c H locs cells slots Q (F0 m (pc + 3) ls (.int (nI pl) :: rest))) : W p l e R s m args below meth c H locs cells slots Q (F0 m pc ls (.ref (a 0) :: rest)) :=
  va_get (D := D) (ci := 1) (v := .int (nI pl)) (C := RX1) (T := TX1) (N := 6) S.1 S.2.1 S.2.2.2.2 inX1 S.2.2.2.1 hK hP 0 rfl rfl 4 (by decide) (S.2.2.2.2 _ k_35) (fun _ h9 => h9) rfl hdg kk
theorem g1_pathEnd (S : CallFix p m c cc nL s args wt RX1) (hK : va_K D classes (tyl cI cL) s) (hP : va_P D classes (RPw cI cL a dep dk N pl pe cn P M) H) (hdg : decode cc pc = .ok (.getfield 31, 3)) (kk : W p l e R s m args below meth c H locs cells slots Q (F0 m (pc + 3) ls (.int pe :: rest))) : W p l e R s m args below meth c H locs cells slots Q (F0 m pc ls (.ref (a 0) :: rest)) :=
  va_get (D := D) (ci := 1) (v := .int pe) (C := RX1) (T := TX1) (N := 6) S.1 S.2.1 S.2.2.2.2 inX1 S.2.2.2.1 hK hP 0 rfl rfl 5 (by decide) (S.2.2.2.2 _ k_36) (fun _ h9 => h9) rfl hdg kk
theorem p1_depthsKnown (S : CallFix p m c cc nL s args wt RX1) (hK : va_K D classes (tyl cI cL) s) (hP : va_P D classes (RPw cI cL a dep dk N pl pe cn P M) H) (hD : va_D A (RPw cI cL a dep dk N pl pe cn P M)) (hS : va_S A H0 H locs) {x : Bool} (hdg : decode cc pc = .ok (.putfield 20, 3)) (kk : ∀ (H1 : Heap) (locs1 : List Loc), va_P D classes (RPw cI cL a dep x N pl pe cn P M) H1 → va_D A (RPw cI cL a dep x N pl pe cn P M) → va_S A H0 H1 locs1 → W p l e R s m args below meth c H1 locs1 cells slots Q (F0 m (pc + 3) ls rest)) : W p l e R s m args below meth c H locs cells slots Q (F0 m pc ls (.int (bI x) :: .ref (a 0) :: rest)) :=
  va_put (D := D) (ci := 1) (v := .int (bI x)) (ty := .boolean) (C := RX1) (T := TX1) (N := 6) S.1 S.2.1 S.2.2.2.2 inX1 tyX1 tyX1_ok nmX1 S.2.2.2.1 hK hP hD hS 0 rfl rfl 2 (by decide) (S.2.2.2.2 _ k_33) (fun _ h9 => h9) rfl (by decide +kernel) (bI_nar _) (bI_fit _) (Nat.le_of_ble_eq_true rfl) hdg (fun H1 locs1 a1 a2 a3 => kk H1 locs1 a1 a2 a3)
theorem p1_switchCount (S : CallFix p m c cc nL s args wt RX1) (hK : va_K D classes (tyl cI cL) s) (hP : va_P D classes (RPw cI cL a dep dk N pl pe cn P M) H) (hD : va_D A (RPw cI cL a dep dk N pl pe cn P M)) (hS : va_S A H0 H locs) {x : Nat} (hdg : decode cc pc = .ok (.putfield 24, 3)) (kk : ∀ (H1 : Heap) (locs1 : List Loc), va_P D classes (RPw cI cL a dep dk x pl pe cn P M) H1 → va_D A (RPw cI cL a dep dk x pl pe cn P M) → va_S A H0 H1 locs1 → W p l e R s m args below meth c H1 locs1 cells slots Q (F0 m (pc + 3) ls rest)) : W p l e R s m args below meth c H locs cells slots Q (F0 m pc ls (.int (nI x) :: .ref (a 0) :: rest)) :=
  va_put (D := D) (ci := 1) (v := .int (nI x)) (ty := .int) (C := RX1) (T := TX1) (N := 6) S.1 S.2.1 S.2.2.2.2 inX1 tyX1 tyX1_ok nmX1 S.2.2.2.1 hK hP hD hS 0 rfl rfl 3 (by decide) (S.2.2.2.2 _ k_34) (fun _ h9 => h9) rfl (by decide +kernel) rfl rfl (Nat.le_of_ble_eq_true rfl) hdg (fun H1 locs1 a1 a2 a3 => kk H1 locs1 a1 a2 a3)
theorem p1_pathLength (S : CallFix p m c cc nL s args wt RX1) (hK : va_K D classes (tyl cI cL) s) (hP : va_P D classes (RPw cI cL a dep dk N pl pe cn P M) H) (hD : va_D A (RPw cI cL a dep dk N pl pe cn P M)) (hS : va_S A H0 H locs) {x : Nat} (hdg : decode cc pc = .ok (.putfield 28, 3)) (kk : ∀ (H1 : Heap) (locs1 : List Loc), va_P D classes (RPw cI cL a dep dk N x pe cn P M) H1 → va_D A (RPw cI cL a dep dk N x pe cn P M) → va_S A H0 H1 locs1 → W p l e R s m args below meth c H1 locs1 cells slots Q (F0 m (pc + 3) ls rest)) : W p l e R s m args below meth c H locs cells slots Q (F0 m pc ls (.int (nI x) :: .ref (a 0) :: rest)) :=
  va_put (D := D) (ci := 1) (v := .int (nI x)) (ty := .int) (C := RX1) (T := TX1) (N := 6) S.1 S.2.1 S.2.2.2.2 inX1 tyX1 tyX1_ok nmX1 S.2.2.2.1 hK hP hD hS 0 rfl rfl 4 (by decide) (S.2.2.2.2 _ k_35) (fun _ h9 => h9) rfl (by decide +kernel) rfl rfl (Nat.le_of_ble_eq_true rfl) hdg (fun H1 locs1 a1 a2 a3 => kk H1 locs1 a1 a2 a3)
theorem p1_pathEnd (S : CallFix p m c cc nL s args wt RX1) (hK : va_K D classes (tyl cI cL) s) (hP : va_P D classes (RPw cI cL a dep dk N pl pe cn P M) H) (hD : va_D A (RPw cI cL a dep dk N pl pe cn P M)) (hS : va_S A H0 H locs) {x : Int32} (hdg : decode cc pc = .ok (.putfield 31, 3)) (kk : ∀ (H1 : Heap) (locs1 : List Loc), va_P D classes (RPw cI cL a dep dk N pl x cn P M) H1 → va_D A (RPw cI cL a dep dk N pl x cn P M) → va_S A H0 H1 locs1 → W p l e R s m args below meth c H1 locs1 cells slots Q (F0 m (pc + 3) ls rest)) : W p l e R s m args below meth c H locs cells slots Q (F0 m pc ls (.int x :: .ref (a 0) :: rest)) :=
  va_put (D := D) (ci := 1) (v := .int x) (ty := .int) (C := RX1) (T := TX1) (N := 6) S.1 S.2.1 S.2.2.2.2 inX1 tyX1 tyX1_ok nmX1 S.2.2.2.1 hK hP hD hS 0 rfl rfl 5 (by decide) (S.2.2.2.2 _ k_36) (fun _ h9 => h9) rfl (by decide +kernel) rfl rfl (Nat.le_of_ble_eq_true rfl) hdg (fun H1 locs1 a1 a2 a3 => kk H1 locs1 a1 a2 a3)
theorem g0_pluses {k : Nat} (hk : k < 4) (S : CallFix p m c cc nL s args wt RX0) (hK : va_K D classes (tyl cI cL) s) (hP : va_P D classes (RPw cI cL a dep dk N pl pe cn P M) H) (hdg : decode cc pc = .ok (.getfield 9, 3)) (kk : W p l e R s m args below meth c H locs cells slots Q (F0 m (pc + 3) ls (.ref (a (4 + 3 * k)) :: rest))) : W p l e R s m args below meth c H locs cells slots Q (F0 m pc ls (.ref (a (3 + 3 * k)) :: rest)) :=
  va_get (D := D) (ci := 0) (v := .ref (a (4 + 3 * k))) (C := RX0) (T := TX0) (N := 3) S.1 S.2.1 S.2.2.2.2 inX0 S.2.2.2.1 hK hP (3 + 3 * k) (rp_o hk) rfl 0 (by decide) (S.2.2.2.2 _ k_19) (fun _ h9 => h9) rfl hdg kk
theorem g0_minuses {k : Nat} (hk : k < 4) (S : CallFix p m c cc nL s args wt RX0) (hK : va_K D classes (tyl cI cL) s) (hP : va_P D classes (RPw cI cL a dep dk N pl pe cn P M) H) (hdg : decode cc pc = .ok (.getfield 13, 3)) (kk : W p l e R s m args below meth c H locs cells slots Q (F0 m (pc + 3) ls (.ref (a (5 + 3 * k)) :: rest))) : W p l e R s m args below meth c H locs cells slots Q (F0 m pc ls (.ref (a (3 + 3 * k)) :: rest)) :=
  va_get (D := D) (ci := 0) (v := .ref (a (5 + 3 * k))) (C := RX0) (T := TX0) (N := 3) S.1 S.2.1 S.2.2.2.2 inX0 S.2.2.2.1 hK hP (3 + 3 * k) (rp_o hk) rfl 1 (by decide) (S.2.2.2.2 _ k_20) (fun _ h9 => h9) rfl hdg kk
theorem g0_size {k : Nat} (hk : k < 4) (S : CallFix p m c cc nL s args wt RX0) (hK : va_K D classes (tyl cI cL) s) (hP : va_P D classes (RPw cI cL a dep dk N pl pe cn P M) H) (hdg : decode cc pc = .ok (.getfield 16, 3)) (kk : W p l e R s m args below meth c H locs cells slots Q (F0 m (pc + 3) ls (.int (nI (cn k)) :: rest))) : W p l e R s m args below meth c H locs cells slots Q (F0 m pc ls (.ref (a (3 + 3 * k)) :: rest)) :=
  va_get (D := D) (ci := 0) (v := .int (nI (cn k))) (C := RX0) (T := TX0) (N := 3) S.1 S.2.1 S.2.2.2.2 inX0 S.2.2.2.1 hK hP (3 + 3 * k) (rp_o hk) rfl 2 (by decide) (S.2.2.2.2 _ k_21) (fun _ h9 => h9) rfl hdg kk
theorem p0_size (S : CallFix p m c cc nL s args wt RX0) (hK : va_K D classes (tyl cI cL) s) (hP : va_P D classes (RPw cI cL a dep dk N pl pe cn P M) H) (hD : va_D A (RPw cI cL a dep dk N pl pe cn P M)) (hS : va_S A H0 H locs) {x k : Nat} (hk : k < 4) (hdg : decode cc pc = .ok (.putfield 16, 3)) (kk : ∀ (H1 : Heap) (locs1 : List Loc), va_P D classes (RPw cI cL a dep dk N pl pe (va_up cn k x) P M) H1 → va_D A (RPw cI cL a dep dk N pl pe (va_up cn k x) P M) → va_S A H0 H1 locs1 → W p l e R s m args below meth c H1 locs1 cells slots Q (F0 m (pc + 3) ls rest)) : W p l e R s m args below meth c H locs cells slots Q (F0 m pc ls (.int (nI x) :: .ref (a (3 + 3 * k)) :: rest)) :=
  va_put (D := D) (ci := 0) (v := .int (nI x)) (ty := .int) (C := RX0) (T := TX0) (N := 3) S.1 S.2.1 S.2.2.2.2 inX0 tyX0 tyX0_ok nmX0 S.2.2.2.1 hK hP hD hS (3 + 3 * k) (rp_o hk) rfl 2 (by decide) (S.2.2.2.2 _ k_21) (fun _ h9 => h9) rfl (by decide +kernel) rfl rfl (Nat.le_of_ble_eq_true rfl) hdg (fun H1 locs1 a1 a2 a3 => kk H1 locs1 (rp_so (x := x) hk ▸ a1) (rp_so (x := x) hk ▸ a2) a3)
theorem g1_size {k : Nat} (hk : k < 4) (S : CallFix p m c cc nL s args wt RX1) (hN : NS s) (hK : va_K D classes (tyl cI cL) s) (hP : va_P D classes (RPw cI cL a dep dk N pl pe cn P M) H) (hdg : decode cc pc = .ok (.getfield 56, 3)) (kk : W p l e R s m args below meth c H locs cells slots Q (F0 m (pc + 3) ls (.int (nI (cn k)) :: rest))) : W p l e R s m args below meth c H locs cells slots Q (F0 m pc ls (.ref (a (3 + 3 * k)) :: rest)) :=
  va_getN (D := D) (ci := 0) (v := .int (nI (cn k))) (C := RX0) (T := TX0) (N := 3) S.1 S.2.1 S.2.2.2.2 inX0 S.2.2.2.1 hK hP (3 + 3 * k) (rp_o hk) rfl 2 (by decide) (va_Nw.use rfl hN.2.2.2.2.2.2.1) (fun _ h9 => h9) rfl hdg kk
theorem a1_lists {k : Nat} (hk : k < 4) (S : CallFix p m c cc nL s args wt RX1) (hK : va_K D classes (tyl cI cL) s) (hP : va_P D classes (RPw cI cL a dep dk N pl pe cn P M) H) (hdg : decode cc pc = .ok (.aaload, 1)) (kk : W p l e R s m args below meth c H locs cells slots Q (F0 m (pc + 1) ls (.ref (a (3 + 3 * k)) :: rest))) : W p l e R s m args below meth c H locs cells slots Q (F0 m pc ls (.int (nI k) :: .ref (a 1) :: rest)) := by
  refine va_aldq (D := D) S.1 S.2.1 hK hP 1 1 rfl rfl (vp_in_nI hk (by decide)) hdg ?_
  rw [nI_clamp (by omega)]
  exact kk
theorem a1_dep {i : Nat} (hi : i < 64) (S : CallFix p m c cc nL s args wt RX1) (hK : va_K D classes (tyl cI cL) s) (hP : va_P D classes (RPw cI cL a dep dk N pl pe cn P M) H) (hdg : decode cc pc = .ok (.iaload, 1)) (kk : W p l e R s m args below meth c H locs cells slots Q (F0 m (pc + 1) ls (.int (dep i) :: rest))) : W p l e R s m args below meth c H locs cells slots Q (F0 m pc ls (.int (nI i) :: .ref (a 2) :: rest)) := by
  refine va_iald (D := D) S.1 S.2.1 hK hP 2 0 rfl rfl (vp_in_nI hi (by decide)) hdg ?_
  rw [nI_clamp (by omega)]
  exact kk
theorem s1_dep {i : Nat} {x : Int32} (hi : i < 64) (S : CallFix p m c cc nL s args wt RX1) (hK : va_K D classes (tyl cI cL) s) (hP : va_P D classes (RPw cI cL a dep dk N pl pe cn P M) H) (hD : va_D A (RPw cI cL a dep dk N pl pe cn P M)) (hS : va_S A H0 H locs) (hdg : decode cc pc = .ok (.iastore, 1)) (kk : ∀ (H1 : Heap) (locs1 : List Loc), va_P D classes (RPw cI cL a (upd dep i x) dk N pl pe cn P M) H1 → va_D A (RPw cI cL a (upd dep i x) dk N pl pe cn P M) → va_S A H0 H1 locs1 → W p l e R s m args below meth c H1 locs1 cells slots Q (F0 m (pc + 1) ls rest)) : W p l e R s m args below meth c H locs cells slots Q (F0 m pc ls (.int (x) :: .int (nI i) :: .ref (a 2) :: rest)) := by
  refine va_iast (D := D) S.1 S.2.1 hK hP hD hS 2 0 rfl rfl (vp_in_nI hi (by decide)) hdg (fun H1 locs1 a1 a2 a3 => ?_)
  rw [nI_clamp (by omega)] at a1 a2
  exact kk H1 locs1 a1 a2 a3
theorem a0_pl {i : Nat} {k : Nat} (hk : k < 4) (hi : i < 24) (S : CallFix p m c cc nL s args wt RX0) (hK : va_K D classes (tyl cI cL) s) (hP : va_P D classes (RPw cI cL a dep dk N pl pe cn P M) H) (hdg : decode cc pc = .ok (.iaload, 1)) (kk : W p l e R s m args below meth c H locs cells slots Q (F0 m (pc + 1) ls (.int (P k i) :: rest))) : W p l e R s m args below meth c H locs cells slots Q (F0 m pc ls (.int (nI i) :: .ref (a (4 + 3 * k)) :: rest)) := by
  refine va_iald (D := D) S.1 S.2.1 hK hP (4 + 3 * k) 0 (rp_p hk) rfl (vp_in_nI hi (by decide)) hdg ?_
  rw [nI_clamp (by omega)]
  exact kk
theorem a0_mi {i : Nat} {k : Nat} (hk : k < 4) (hi : i < 24) (S : CallFix p m c cc nL s args wt RX0) (hK : va_K D classes (tyl cI cL) s) (hP : va_P D classes (RPw cI cL a dep dk N pl pe cn P M) H) (hdg : decode cc pc = .ok (.iaload, 1)) (kk : W p l e R s m args below meth c H locs cells slots Q (F0 m (pc + 1) ls (.int (M k i) :: rest))) : W p l e R s m args below meth c H locs cells slots Q (F0 m pc ls (.int (nI i) :: .ref (a (5 + 3 * k)) :: rest)) := by
  refine va_iald (D := D) S.1 S.2.1 hK hP (5 + 3 * k) 0 (rp_m hk) rfl (vp_in_nI hi (by decide)) hdg ?_
  rw [nI_clamp (by omega)]
  exact kk
theorem s0_pl {i : Nat} {k : Nat} (hk : k < 4) {x : Int32} (hi : i < 24) (S : CallFix p m c cc nL s args wt RX0) (hK : va_K D classes (tyl cI cL) s) (hP : va_P D classes (RPw cI cL a dep dk N pl pe cn P M) H) (hD : va_D A (RPw cI cL a dep dk N pl pe cn P M)) (hS : va_S A H0 H locs) (hdg : decode cc pc = .ok (.iastore, 1)) (kk : ∀ (H1 : Heap) (locs1 : List Loc), va_P D classes (RPw cI cL a dep dk N pl pe cn (va_up P k (upd (P k) i x)) M) H1 → va_D A (RPw cI cL a dep dk N pl pe cn (va_up P k (upd (P k) i x)) M) → va_S A H0 H1 locs1 → W p l e R s m args below meth c H1 locs1 cells slots Q (F0 m (pc + 1) ls rest)) : W p l e R s m args below meth c H locs cells slots Q (F0 m pc ls (.int (x) :: .int (nI i) :: .ref (a (4 + 3 * k)) :: rest)) := by
  refine va_iast (D := D) S.1 S.2.1 hK hP hD hS (4 + 3 * k) 0 (rp_p hk) rfl (vp_in_nI hi (by decide)) hdg (fun H1 locs1 a1 a2 a3 => ?_)
  rw [nI_clamp (by omega)] at a1 a2
  exact kk H1 locs1 (rp_sp hk ▸ a1) (rp_sp hk ▸ a2) a3
theorem s0_mi {i : Nat} {k : Nat} (hk : k < 4) {x : Int32} (hi : i < 24) (S : CallFix p m c cc nL s args wt RX0) (hK : va_K D classes (tyl cI cL) s) (hP : va_P D classes (RPw cI cL a dep dk N pl pe cn P M) H) (hD : va_D A (RPw cI cL a dep dk N pl pe cn P M)) (hS : va_S A H0 H locs) (hdg : decode cc pc = .ok (.iastore, 1)) (kk : ∀ (H1 : Heap) (locs1 : List Loc), va_P D classes (RPw cI cL a dep dk N pl pe cn P (va_up M k (upd (M k) i x))) H1 → va_D A (RPw cI cL a dep dk N pl pe cn P (va_up M k (upd (M k) i x))) → va_S A H0 H1 locs1 → W p l e R s m args below meth c H1 locs1 cells slots Q (F0 m (pc + 1) ls rest)) : W p l e R s m args below meth c H locs cells slots Q (F0 m pc ls (.int (x) :: .int (nI i) :: .ref (a (5 + 3 * k)) :: rest)) := by
  refine va_iast (D := D) S.1 S.2.1 hK hP hD hS (5 + 3 * k) 0 (rp_m hk) rfl (vp_in_nI hi (by decide)) hdg (fun H1 locs1 a1 a2 a3 => ?_)
  rw [nI_clamp (by omega)] at a1 a2
  exact kk H1 locs1 (rp_sm hk ▸ a1) (rp_sm hk ▸ a2) a3
end ZW
section ZM
variable {p : Program} {l : Launch} {e : Env} {R : Room} {s : State} {m : MethodId} {args : Array Value} {below : List Frame} {meth : Method} {c : Code} {H H0 : Heap} {locs : List Loc} {cells slots : Nat} {Q : State → Prop} {cc : ByteArray} {nL pc : Nat} {ls : Array Slot} {rest st0 : List Value} {D : va_G} {cI cL : ClassId} {A : Nat → Prop}
variable {b : Nat → Nat} {N len : Nat} {cn : Nat → Nat} {P M pth dep : Nat → Int32}
theorem md_D {N' len' : Nat} {cn' : Nat → Nat} {P' M' pth' dep' : Nat → Int32} (h : va_D A (MDw cI b N len cn P M pth dep)) : va_D A (MDw cI b N' len' cn' P' M' pth' dep') := D_same h rfl
theorem md_rv (hK : va_K D classes (tyl cI cL) s) (hP : va_P D classes (MDw cI b N len cn P M pth dep) H) : ∃ cell : Cell, H[b 0]? = some cell ∧ cell.vm.isStatics = false ∧ s.vm.findClass RX2 = some cell.cls := va_recv hK hP (ci := 2) (q0 := 0) rfl rfl
theorem g2_n (S : CallFix p m c cc nL s args wt RX2) (hK : va_K D classes (tyl cI cL) s) (hP : va_P D classes (MDw cI b N len cn P M pth dep) H) (hdg : decode cc pc = .ok (.getfield 7, 3)) (kk : W p l e R s m args below meth c H locs cells slots Q (F0 m (pc + 3) ls (.int (nI N) :: rest))) : W p l e R s m args below meth c H locs cells slots Q (F0 m pc ls (.ref (b 0) :: rest)) :=
  va_get (D := D) (ci := 2) (v := .int (nI N)) (C := RX2) (T := TX2) (N := 7) S.1 S.2.1 S.2.2.2.2 inX2 S.2.2.2.1 hK hP 0 rfl rfl 0 (by decide) (S.2.2.2.2 _ k_194) (fun _ h9 => h9) rfl hdg kk
theorem g2_counts (S : CallFix p m c cc nL s args wt RX2) (hK : va_K D classes (tyl cI cL) s) (hP : va_P D classes (MDw cI b N len cn P M pth dep) H) (hdg : decode cc pc = .ok (.getfield 13, 3)) (kk : W p l e R s m args below meth c H locs cells slots Q (F0 m (pc + 3) ls (.ref (b 1) :: rest))) : W p l e R s m args below meth c H locs cells slots Q (F0 m pc ls (.ref (b 0) :: rest)) :=
  va_get (D := D) (ci := 2) (v := .ref (b 1)) (C := RX2) (T := TX2) (N := 7) S.1 S.2.1 S.2.2.2.2 inX2 S.2.2.2.1 hK hP 0 rfl rfl 1 (by decide) (S.2.2.2.2 _ k_195) (fun _ h9 => h9) rfl hdg kk
theorem g2_plus (S : CallFix p m c cc nL s args wt RX2) (hK : va_K D classes (tyl cI cL) s) (hP : va_P D classes (MDw cI b N len cn P M pth dep) H) (hdg : decode cc pc = .ok (.getfield 17, 3)) (kk : W p l e R s m args below meth c H locs cells slots Q (F0 m (pc + 3) ls (.ref (b 2) :: rest))) : W p l e R s m args below meth c H locs cells slots Q (F0 m pc ls (.ref (b 0) :: rest)) :=
  va_get (D := D) (ci := 2) (v := .ref (b 2)) (C := RX2) (T := TX2) (N := 7) S.1 S.2.1 S.2.2.2.2 inX2 S.2.2.2.1 hK hP 0 rfl rfl 2 (by decide) (S.2.2.2.2 _ k_196) (fun _ h9 => h9) rfl hdg kk
theorem g2_minus (S : CallFix p m c cc nL s args wt RX2) (hK : va_K D classes (tyl cI cL) s) (hP : va_P D classes (MDw cI b N len cn P M pth dep) H) (hdg : decode cc pc = .ok (.getfield 20, 3)) (kk : W p l e R s m args below meth c H locs cells slots Q (F0 m (pc + 3) ls (.ref (b 3) :: rest))) : W p l e R s m args below meth c H locs cells slots Q (F0 m pc ls (.ref (b 0) :: rest)) :=
  va_get (D := D) (ci := 2) (v := .ref (b 3)) (C := RX2) (T := TX2) (N := 7) S.1 S.2.1 S.2.2.2.2 inX2 S.2.2.2.1 hK hP 0 rfl rfl 3 (by decide) (S.2.2.2.2 _ k_197) (fun _ h9 => h9) rfl hdg kk
theorem g2_path (S : CallFix p m c cc nL s args wt RX2) (hK : va_K D classes (tyl cI cL) s) (hP : va_P D classes (MDw cI b N len cn P M pth dep) H) (hdg : decode cc pc = .ok (.getfield 23, 3)) (kk : W p l e R s m args below meth c H locs cells slots Q (F0 m (pc + 3) ls (.ref (b 4) :: rest))) : W p l e R s m args below meth c H locs cells slots Q (F0 m pc ls (.ref (b 0) :: rest)) :=
  va_get (D := D) (ci := 2) (v := .ref (b 4)) (C := RX2) (T := TX2) (N := 7) S.1 S.2.1 S.2.2.2.2 inX2 S.2.2.2.1 hK hP 0 rfl rfl 4 (by decide) (S.2.2.2.2 _ k_198) (fun _ h9 => h9) rfl hdg kk
theorem g2_length (S : CallFix p m c cc nL s args wt RX2) (hK : va_K D classes (tyl cI cL) s) (hP : va_P D classes (MDw cI b N len cn P M pth dep) H) (hdg : decode cc pc = .ok (.getfield 33, 3)) (kk : W p l e R s m args below meth c H locs cells slots Q (F0 m (pc + 3) ls (.int (nI len) :: rest))) : W p l e R s m args below meth c H locs cells slots Q (F0 m pc ls (.ref (b 0) :: rest)) :=
  va_get (D := D) (ci := 2) (v := .int (nI len)) (C := RX2) (T := TX2) (N := 7) S.1 S.2.1 S.2.2.2.2 inX2 S.2.2.2.1 hK hP 0 rfl rfl 5 (by decide) (S.2.2.2.2 _ k_199) (fun _ h9 => h9) rfl hdg kk
theorem g2_depths (S : CallFix p m c cc nL s args wt RX2) (hK : va_K D classes (tyl cI cL) s) (hP : va_P D classes (MDw cI b N len cn P M pth dep) H) (hdg : decode cc pc = .ok (.getfield 26, 3)) (kk : W p l e R s m args below meth c H locs cells slots Q (F0 m (pc + 3) ls (.ref (b 5) :: rest))) : W p l e R s m args below meth c H locs cells slots Q (F0 m pc ls (.ref (b 0) :: rest)) :=
  va_get (D := D) (ci := 2) (v := .ref (b 5)) (C := RX2) (T := TX2) (N := 7) S.1 S.2.1 S.2.2.2.2 inX2 S.2.2.2.1 hK hP 0 rfl rfl 6 (by decide) (S.2.2.2.2 _ k_200) (fun _ h9 => h9) rfl hdg kk
theorem p2_n (S : CallFix p m c cc nL s args wt RX2) (hK : va_K D classes (tyl cI cL) s) (hP : va_P D classes (MDw cI b N len cn P M pth dep) H) (hD : va_D A (MDw cI b N len cn P M pth dep)) (hS : va_S A H0 H locs) {x : Nat} (hdg : decode cc pc = .ok (.putfield 7, 3)) (kk : ∀ (H1 : Heap) (locs1 : List Loc), va_P D classes (MDw cI b x len cn P M pth dep) H1 → va_D A (MDw cI b x len cn P M pth dep) → va_S A H0 H1 locs1 → W p l e R s m args below meth c H1 locs1 cells slots Q (F0 m (pc + 3) ls rest)) : W p l e R s m args below meth c H locs cells slots Q (F0 m pc ls (.int (nI x) :: .ref (b 0) :: rest)) :=
  va_put (D := D) (ci := 2) (v := .int (nI x)) (ty := .int) (C := RX2) (T := TX2) (N := 7) S.1 S.2.1 S.2.2.2.2 inX2 tyX2 tyX2_ok nmX2 S.2.2.2.1 hK hP hD hS 0 rfl rfl 0 (by decide) (S.2.2.2.2 _ k_194) (fun _ h9 => h9) rfl (by decide +kernel) rfl rfl (Nat.le_of_ble_eq_true rfl) hdg (fun H1 locs1 a1 a2 a3 => kk H1 locs1 a1 a2 a3)
theorem p2_length (S : CallFix p m c cc nL s args wt RX2) (hK : va_K D classes (tyl cI cL) s) (hP : va_P D classes (MDw cI b N len cn P M pth dep) H) (hD : va_D A (MDw cI b N len cn P M pth dep)) (hS : va_S A H0 H locs) {x : Nat} (hdg : decode cc pc = .ok (.putfield 33, 3)) (kk : ∀ (H1 : Heap) (locs1 : List Loc), va_P D classes (MDw cI b N x cn P M pth dep) H1 → va_D A (MDw cI b N x cn P M pth dep) → va_S A H0 H1 locs1 → W p l e R s m args below meth c H1 locs1 cells slots Q (F0 m (pc + 3) ls rest)) : W p l e R s m args below meth c H locs cells slots Q (F0 m pc ls (.int (nI x) :: .ref (b 0) :: rest)) :=
  va_put (D := D) (ci := 2) (v := .int (nI x)) (ty := .int) (C := RX2) (T := TX2) (N := 7) S.1 S.2.1 S.2.2.2.2 inX2 tyX2 tyX2_ok nmX2 S.2.2.2.1 hK hP hD hS 0 rfl rfl 5 (by decide) (S.2.2.2.2 _ k_199) (fun _ h9 => h9) rfl (by decide +kernel) rfl rfl (Nat.le_of_ble_eq_true rfl) hdg (fun H1 locs1 a1 a2 a3 => kk H1 locs1 a1 a2 a3)
theorem a2_counts {i : Nat} (hi : i < 4) (S : CallFix p m c cc nL s args wt RX2) (hK : va_K D classes (tyl cI cL) s) (hP : va_P D classes (MDw cI b N len cn P M pth dep) H) (hdg : decode cc pc = .ok (.iaload, 1)) (kk : W p l e R s m args below meth c H locs cells slots Q (F0 m (pc + 1) ls (.int (nI (cn i)) :: rest))) : W p l e R s m args below meth c H locs cells slots Q (F0 m pc ls (.int (nI i) :: .ref (b 1) :: rest)) := by
  refine va_iald (D := D) S.1 S.2.1 hK hP 1 0 rfl rfl (vp_in_nI hi (by decide)) hdg ?_
  rw [nI_clamp (by omega)]
  exact kk
theorem a2_plus {i : Nat} (hi : i < 96) (S : CallFix p m c cc nL s args wt RX2) (hK : va_K D classes (tyl cI cL) s) (hP : va_P D classes (MDw cI b N len cn P M pth dep) H) (hdg : decode cc pc = .ok (.iaload, 1)) (kk : W p l e R s m args below meth c H locs cells slots Q (F0 m (pc + 1) ls (.int (P i) :: rest))) : W p l e R s m args below meth c H locs cells slots Q (F0 m pc ls (.int (nI i) :: .ref (b 2) :: rest)) := by
  refine va_iald (D := D) S.1 S.2.1 hK hP 2 0 rfl rfl (vp_in_nI hi (by decide)) hdg ?_
  rw [nI_clamp (by omega)]
  exact kk
theorem a2_minus {i : Nat} (hi : i < 96) (S : CallFix p m c cc nL s args wt RX2) (hK : va_K D classes (tyl cI cL) s) (hP : va_P D classes (MDw cI b N len cn P M pth dep) H) (hdg : decode cc pc = .ok (.iaload, 1)) (kk : W p l e R s m args below meth c H locs cells slots Q (F0 m (pc + 1) ls (.int (M i) :: rest))) : W p l e R s m args below meth c H locs cells slots Q (F0 m pc ls (.int (nI i) :: .ref (b 3) :: rest)) := by
  refine va_iald (D := D) S.1 S.2.1 hK hP 3 0 rfl rfl (vp_in_nI hi (by decide)) hdg ?_
  rw [nI_clamp (by omega)]
  exact kk
theorem a2_path {i : Nat} (hi : i < 64) (S : CallFix p m c cc nL s args wt RX2) (hK : va_K D classes (tyl cI cL) s) (hP : va_P D classes (MDw cI b N len cn P M pth dep) H) (hdg : decode cc pc = .ok (.iaload, 1)) (kk : W p l e R s m args below meth c H locs cells slots Q (F0 m (pc + 1) ls (.int (pth i) :: rest))) : W p l e R s m args below meth c H locs cells slots Q (F0 m pc ls (.int (nI i) :: .ref (b 4) :: rest)) := by
  refine va_iald (D := D) S.1 S.2.1 hK hP 4 0 rfl rfl (vp_in_nI hi (by decide)) hdg ?_
  rw [nI_clamp (by omega)]
  exact kk
theorem a2_dep {i : Nat} (hi : i < 64) (S : CallFix p m c cc nL s args wt RX2) (hK : va_K D classes (tyl cI cL) s) (hP : va_P D classes (MDw cI b N len cn P M pth dep) H) (hdg : decode cc pc = .ok (.iaload, 1)) (kk : W p l e R s m args below meth c H locs cells slots Q (F0 m (pc + 1) ls (.int (dep i) :: rest))) : W p l e R s m args below meth c H locs cells slots Q (F0 m pc ls (.int (nI i) :: .ref (b 5) :: rest)) := by
  refine va_iald (D := D) S.1 S.2.1 hK hP 5 0 rfl rfl (vp_in_nI hi (by decide)) hdg ?_
  rw [nI_clamp (by omega)]
  exact kk
theorem md_cn {i x : Nat} : upd (fun k => nI (cn k)) i (nI x) = fun k => nI (va_up cn i x k) := by
  funext k
  simp only [upd, va_up]
  split <;> rfl
theorem s2_counts {i : Nat} {x : Nat} (hi : i < 4) (S : CallFix p m c cc nL s args wt RX2) (hK : va_K D classes (tyl cI cL) s) (hP : va_P D classes (MDw cI b N len cn P M pth dep) H) (hD : va_D A (MDw cI b N len cn P M pth dep)) (hS : va_S A H0 H locs) (hdg : decode cc pc = .ok (.iastore, 1)) (kk : ∀ (H1 : Heap) (locs1 : List Loc), va_P D classes (MDw cI b N len (va_up cn i x) P M pth dep) H1 → va_D A (MDw cI b N len (va_up cn i x) P M pth dep) → va_S A H0 H1 locs1 → W p l e R s m args below meth c H1 locs1 cells slots Q (F0 m (pc + 1) ls rest)) : W p l e R s m args below meth c H locs cells slots Q (F0 m pc ls (.int (nI x) :: .int (nI i) :: .ref (b 1) :: rest)) := by
  refine va_iast (D := D) S.1 S.2.1 hK hP hD hS 1 0 rfl rfl (vp_in_nI hi (by decide)) hdg (fun H1 locs1 a1 a2 a3 => ?_)
  rw [nI_clamp (by omega)] at a1 a2
  exact kk H1 locs1 (by rw [md_cn] at a1; exact a1) (by rw [md_cn] at a2; exact a2) a3
theorem s2_plus {i : Nat} {x : Int32} (hi : i < 96) (S : CallFix p m c cc nL s args wt RX2) (hK : va_K D classes (tyl cI cL) s) (hP : va_P D classes (MDw cI b N len cn P M pth dep) H) (hD : va_D A (MDw cI b N len cn P M pth dep)) (hS : va_S A H0 H locs) (hdg : decode cc pc = .ok (.iastore, 1)) (kk : ∀ (H1 : Heap) (locs1 : List Loc), va_P D classes (MDw cI b N len cn (upd P i x) M pth dep) H1 → va_D A (MDw cI b N len cn (upd P i x) M pth dep) → va_S A H0 H1 locs1 → W p l e R s m args below meth c H1 locs1 cells slots Q (F0 m (pc + 1) ls rest)) : W p l e R s m args below meth c H locs cells slots Q (F0 m pc ls (.int (x) :: .int (nI i) :: .ref (b 2) :: rest)) := by
  refine va_iast (D := D) S.1 S.2.1 hK hP hD hS 2 0 rfl rfl (vp_in_nI hi (by decide)) hdg (fun H1 locs1 a1 a2 a3 => ?_)
  rw [nI_clamp (by omega)] at a1 a2
  exact kk H1 locs1 a1 a2 a3
theorem s2_minus {i : Nat} {x : Int32} (hi : i < 96) (S : CallFix p m c cc nL s args wt RX2) (hK : va_K D classes (tyl cI cL) s) (hP : va_P D classes (MDw cI b N len cn P M pth dep) H) (hD : va_D A (MDw cI b N len cn P M pth dep)) (hS : va_S A H0 H locs) (hdg : decode cc pc = .ok (.iastore, 1)) (kk : ∀ (H1 : Heap) (locs1 : List Loc), va_P D classes (MDw cI b N len cn P (upd M i x) pth dep) H1 → va_D A (MDw cI b N len cn P (upd M i x) pth dep) → va_S A H0 H1 locs1 → W p l e R s m args below meth c H1 locs1 cells slots Q (F0 m (pc + 1) ls rest)) : W p l e R s m args below meth c H locs cells slots Q (F0 m pc ls (.int (x) :: .int (nI i) :: .ref (b 3) :: rest)) := by
  refine va_iast (D := D) S.1 S.2.1 hK hP hD hS 3 0 rfl rfl (vp_in_nI hi (by decide)) hdg (fun H1 locs1 a1 a2 a3 => ?_)
  rw [nI_clamp (by omega)] at a1 a2
  exact kk H1 locs1 a1 a2 a3
theorem s2_path {i : Nat} {x : Int32} (hi : i < 64) (S : CallFix p m c cc nL s args wt RX2) (hK : va_K D classes (tyl cI cL) s) (hP : va_P D classes (MDw cI b N len cn P M pth dep) H) (hD : va_D A (MDw cI b N len cn P M pth dep)) (hS : va_S A H0 H locs) (hdg : decode cc pc = .ok (.iastore, 1)) (kk : ∀ (H1 : Heap) (locs1 : List Loc), va_P D classes (MDw cI b N len cn P M (upd pth i x) dep) H1 → va_D A (MDw cI b N len cn P M (upd pth i x) dep) → va_S A H0 H1 locs1 → W p l e R s m args below meth c H1 locs1 cells slots Q (F0 m (pc + 1) ls rest)) : W p l e R s m args below meth c H locs cells slots Q (F0 m pc ls (.int (x) :: .int (nI i) :: .ref (b 4) :: rest)) := by
  refine va_iast (D := D) S.1 S.2.1 hK hP hD hS 4 0 rfl rfl (vp_in_nI hi (by decide)) hdg (fun H1 locs1 a1 a2 a3 => ?_)
  rw [nI_clamp (by omega)] at a1 a2
  exact kk H1 locs1 a1 a2 a3
theorem s2_dep {i : Nat} {x : Int32} (hi : i < 64) (S : CallFix p m c cc nL s args wt RX2) (hK : va_K D classes (tyl cI cL) s) (hP : va_P D classes (MDw cI b N len cn P M pth dep) H) (hD : va_D A (MDw cI b N len cn P M pth dep)) (hS : va_S A H0 H locs) (hdg : decode cc pc = .ok (.iastore, 1)) (kk : ∀ (H1 : Heap) (locs1 : List Loc), va_P D classes (MDw cI b N len cn P M pth (upd dep i x)) H1 → va_D A (MDw cI b N len cn P M pth (upd dep i x)) → va_S A H0 H1 locs1 → W p l e R s m args below meth c H1 locs1 cells slots Q (F0 m (pc + 1) ls rest)) : W p l e R s m args below meth c H locs cells slots Q (F0 m pc ls (.int (x) :: .int (nI i) :: .ref (b 5) :: rest)) := by
  refine va_iast (D := D) S.1 S.2.1 hK hP hD hS 5 0 rfl rfl (vp_in_nI hi (by decide)) hdg (fun H1 locs1 a1 a2 a3 => ?_)
  rw [nI_clamp (by omega)] at a1 a2
  exact kk H1 locs1 a1 a2 a3
end ZM
theorem cv_RL_13 : CV RL 13 yX1_begin cX1_begin 3 (some .boolean) 1 := ⟨k_53, k_1, k_50, k_51, k_52, by decide +kernel⟩
theorem cv_RX1_37 : CV RX1 37 yX1_forgetWhatFollowed cX1_forgetWhatFollowed 1 none 0 := ⟨k_61, k_1, k_58, k_60, ks_1, by decide +kernel⟩
theorem cv_RL_18 : CV RL 18 yX1_clause cX1_clause 4 (some .int) 3 := ⟨k_65, k_1, k_62, k_63, k_64, by decide +kernel⟩
theorem ct_RX1_40 : CT RX1 40 yX1_isList cX1_isList 1 (some .boolean) 1 := ⟨k_68, k_1, k_66, k_67, by decide +kernel⟩
theorem cv_RX1_44 : CV RX1 44 yX1_isSetOf cX1_isSetOf 4 (some .boolean) 2 := ⟨k_72, k_1, k_69, k_71, ks_2, by decide +kernel⟩
theorem cv_RX0_20 : CV RX0 20 yX0_isFull cX0_isFull 1 (some .boolean) 0 := ⟨k_76, k_2, k_81, k_75, ks_3, by decide +kernel⟩
theorem cv_RL_23 : CV RL 23 yX1_drop cX1_drop 2 (some .int) 1 := ⟨k_85, k_1, k_82, k_83, k_84, by decide +kernel⟩
theorem cv_RL_28 : CV RL 28 yX1_switches cX1_switches 1 (some .int) 0 := ⟨k_93, k_1, k_90, k_91, k_92, by decide +kernel⟩
theorem cv_RL_33 : CV RL 33 yX1_count cX1_count 2 (some .int) 1 := ⟨k_97, k_1, k_94, k_95, k_96, by decide +kernel⟩
theorem cv_RL_37 : CV RL 37 yX1_holds cX1_holds 4 (some .boolean) 3 := ⟨k_101, k_1, k_98, k_99, k_100, by decide +kernel⟩
theorem cv_RX1_62 : CV RX1 62 yX1_isState cX1_isState 2 (some .boolean) 1 := ⟨k_105, k_1, k_102, k_104, ks_6, by decide +kernel⟩
theorem cv_RX1_78 : CV RX1 78 yX1_stateCount cX1_stateCount 1 (some .int) 0 := ⟨k_109, k_1, k_106, k_108, ks_7, by decide +kernel⟩
theorem cv_RX1_65 : CV RX1 65 yX1_canGo cX1_canGo 3 (some .boolean) 2 := ⟨k_113, k_1, k_110, k_112, ks_8, by decide +kernel⟩
theorem cv_RX1_68 : CV RX1 68 yX1_isIn cX1_isIn 3 (some .boolean) 2 := ⟨k_121, k_1, k_118, k_120, ks_10, by decide +kernel⟩
theorem cv_RL_42 : CV RL 42 yX1_safe cX1_safe 1 (some .boolean) 0 := ⟨k_125, k_1, k_122, k_123, k_124, by decide +kernel⟩
theorem cv_RX1_71 : CV RX1 71 yX1_worst cX1_worst 2 (some .int) 0 := ⟨k_129, k_1, k_126, k_127, k_128, by decide +kernel⟩
theorem cv_RX1_75 : CV RX1 75 yX1_findDepths cX1_findDepths 2 none 0 := ⟨k_133, k_1, k_130, k_132, ks_11, by decide +kernel⟩
theorem cv_RX1_94 : CV RX1 94 yX1_goOnFrom cX1_goOnFrom 3 none 1 := ⟨k_137, k_1, k_134, k_136, ks_12, by decide +kernel⟩
theorem cv_RX1_98 : CV RX1 98 yX1_goOnFromState cX1_goOnFromState 3 none 1 := ⟨k_141, k_1, k_138, k_140, ks_13, by decide +kernel⟩
theorem cv_RX1_81 : CV RX1 81 yX1_isReachedBad cX1_isReachedBad 2 (some .boolean) 1 := ⟨k_145, k_1, k_142, k_144, ks_14, by decide +kernel⟩
theorem cv_RL_47 : CV RL 47 yX1_steps cX1_steps 3 (some .int) 0 := ⟨k_149, k_1, k_146, k_147, k_148, by decide +kernel⟩
theorem cv_RL_51 : CV RL 51 yX1_depth cX1_depth 2 (some .int) 1 := ⟨k_153, k_1, k_150, k_151, k_152, by decide +kernel⟩
theorem cv_RL_55 : CV RL 55 yX1_reached cX1_reached 3 (some .int) 0 := ⟨k_157, k_1, k_154, k_155, k_156, by decide +kernel⟩
theorem cv_RL_59 : CV RL 59 yX1_worst cX1_worst 2 (some .int) 0 := ⟨k_129, k_1, k_158, k_127, k_128, by decide +kernel⟩
theorem cv_RL_63 : CV RL 63 yX1_check cX1_check 2 (some .int) 0 := ⟨k_162, k_1, k_159, k_160, k_161, by decide +kernel⟩
theorem cv_RX1_84 : CV RX1 84 yX1_leastBreaking cX1_leastBreaking 3 (some .int) 1 := ⟨k_166, k_1, k_163, k_165, ks_15, by decide +kernel⟩
theorem cv_RX1_101 : CV RX1 101 yX1_breaks cX1_breaks 3 (some .boolean) 2 := ⟨k_170, k_1, k_167, k_169, ks_16, by decide +kernel⟩
theorem cv_RX1_104 : CV RX1 104 yX1_canLeaveClaim cX1_canLeaveClaim 3 (some .boolean) 1 := ⟨k_174, k_1, k_171, k_173, ks_17, by decide +kernel⟩
theorem cv_RL_67 : CV RL 67 yX1_flaw cX1_flaw 2 (some .int) 0 := ⟨k_178, k_1, k_175, k_176, k_177, by decide +kernel⟩
theorem cv_RX1_88 : CV RX1 88 yX1_check cX1_check 2 (some .int) 0 := ⟨k_162, k_1, k_179, k_160, k_161, by decide +kernel⟩
theorem cv_RL_71 : CV RL 71 yX1_walk cX1_walk 3 (some .int) 1 := ⟨k_183, k_1, k_180, k_181, k_182, by decide +kernel⟩
theorem cv_RL_75 : CV RL 75 yX1_arrives cX1_arrives 1 (some .boolean) 0 := ⟨k_187, k_1, k_184, k_185, k_186, by decide +kernel⟩
theorem cv_RL_17 : CV RL 17 yX2_begin cX2_begin 3 (some .boolean) 1 := ⟨k_219, k_3, k_216, k_217, k_218, by decide +kernel⟩
theorem cv_RL_22 : CV RL 22 yX2_clause cX2_clause 6 (some .int) 3 := ⟨k_223, k_3, k_220, k_221, k_222, by decide +kernel⟩
theorem ct_RX2_36 : CT RX2 36 yX2_isList cX2_isList 1 (some .boolean) 1 := ⟨k_226, k_3, k_224, k_225, by decide +kernel⟩
theorem cv_RL_27 : CV RL 27 yX2_drop cX2_drop 2 (some .int) 1 := ⟨k_230, k_3, k_227, k_228, k_229, by decide +kernel⟩
theorem cv_RL_32 : CV RL 32 yX2_switches cX2_switches 1 (some .int) 0 := ⟨k_234, k_3, k_231, k_232, k_233, by decide +kernel⟩
theorem cv_RL_36 : CV RL 36 yX2_count cX2_count 2 (some .int) 1 := ⟨k_238, k_3, k_235, k_236, k_237, by decide +kernel⟩
theorem cv_RL_41 : CV RL 41 yX2_holds cX2_holds 4 (some .boolean) 3 := ⟨k_242, k_3, k_239, k_240, k_241, by decide +kernel⟩
theorem cv_RX2_44 : CV RX2 44 yX2_isState cX2_isState 2 (some .boolean) 1 := ⟨k_246, k_3, k_243, k_245, ks_18, by decide +kernel⟩
theorem cv_RX2_29 : CV RX2 29 yX2_states cX2_states 1 (some .int) 0 := ⟨k_250, k_3, k_247, k_249, ks_19, by decide +kernel⟩
theorem cv_RX2_47 : CV RX2 47 yX2_leads cX2_leads 3 (some .boolean) 2 := ⟨k_254, k_3, k_251, k_253, ks_20, by decide +kernel⟩
theorem cv_RX2_40 : CV RX2 40 yX2_isSo cX2_isSo 8 (some .boolean) 2 := ⟨k_258, k_3, k_255, k_257, ks_21, by decide +kernel⟩
theorem cv_RL_50 : CV RL 50 yX2_steps cX2_steps 3 (some .int) 0 := ⟨k_262, k_3, k_259, k_260, k_261, by decide +kernel⟩
theorem cv_RX2_50 : CV RX2 50 yX2_explore cX2_explore 5 none 0 := ⟨k_266, k_3, k_263, k_265, ks_22, by decide +kernel⟩
theorem cv_RL_46 : CV RL 46 yX2_safe cX2_safe 1 (some .boolean) 0 := ⟨k_270, k_3, k_267, k_268, k_269, by decide +kernel⟩
theorem cv_RX2_53 : CV RX2 53 yX2_steps cX2_steps 3 (some .int) 0 := ⟨k_262, k_3, k_271, k_260, k_261, by decide +kernel⟩
theorem cv_RL_54 : CV RL 54 yX2_depth cX2_depth 2 (some .int) 1 := ⟨k_275, k_3, k_272, k_273, k_274, by decide +kernel⟩
theorem cv_RL_58 : CV RL 58 yX2_reached cX2_reached 3 (some .int) 0 := ⟨k_279, k_3, k_276, k_277, k_278, by decide +kernel⟩
theorem cv_RL_62 : CV RL 62 yX2_worst cX2_worst 2 (some .int) 0 := ⟨k_283, k_3, k_280, k_281, k_282, by decide +kernel⟩
theorem cv_RL_66 : CV RL 66 yX2_check cX2_check 2 (some .int) 0 := ⟨k_287, k_3, k_284, k_285, k_286, by decide +kernel⟩
theorem cv_RX2_59 : CV RX2 59 yX2_least cX2_least 5 (some .int) 1 := ⟨k_291, k_3, k_288, k_290, ks_23, by decide +kernel⟩
theorem cv_RX2_56 : CV RX2 56 yX2_escapes cX2_escapes 4 (some .boolean) 1 := ⟨k_295, k_3, k_292, k_294, ks_24, by decide +kernel⟩
theorem cv_RL_70 : CV RL 70 yX2_flaw cX2_flaw 2 (some .int) 0 := ⟨k_299, k_3, k_296, k_297, k_298, by decide +kernel⟩
theorem cv_RX2_63 : CV RX2 63 yX2_check cX2_check 2 (some .int) 0 := ⟨k_287, k_3, k_300, k_285, k_286, by decide +kernel⟩
theorem cv_RL_74 : CV RL 74 yX2_walk cX2_walk 3 (some .int) 1 := ⟨k_304, k_3, k_301, k_302, k_303, by decide +kernel⟩
theorem cv_RL_78 : CV RL 78 yX2_arrives cX2_arrives 1 (some .boolean) 0 := ⟨k_308, k_3, k_305, k_306, k_307, by decide +kernel⟩
theorem cm_X0_isFull : CM yX0_isFull cX0_isFull 1 (some .boolean) 0 := ⟨k_76, k_2, k_75, ks_3, by decide +kernel⟩
theorem cm_X0_add : CM yX0_add cX0_add 3 none 2 := ⟨k_80, k_2, k_79, ks_4, by decide +kernel⟩
theorem cm_X0_removeLast : CM yX0_removeLast cX0_removeLast 1 none 0 := ⟨k_89, k_2, k_88, ks_5, by decide +kernel⟩
theorem cm_X0_removeAll : CM yX0_removeAll cX0_removeAll 1 none 0 := ⟨k_57, k_2, k_56, ks_0, by decide +kernel⟩
theorem cm_X0_allHold : CM yX0_allHold cX0_allHold 3 (some .boolean) 1 := ⟨k_117, k_2, k_116, ks_9, by decide +kernel⟩
end
section
/-! pure rows: loops as functions of their bound and index; what class and reference compute -/
def fdK {α : Type} (f : Nat → α → α) : Nat → Nat → α → α
  | 0, _, x => x
  | k + 1, i, x => fdK f k (i + 1) (f i x)
def fd {α : Type} (f : Nat → α → α) (S i : Nat) (x : α) : α := fdK f (S - i) i x
theorem fd_d {α : Type} {f : Nat → α → α} {S i : Nat} {x : α} (h : S ≤ i) : fd f S i x = x := by
  unfold fd
  rw [Nat.sub_eq_zero_of_le h]
  rfl
theorem fd_s {α : Type} {f : Nat → α → α} {S i : Nat} {x : α} (h : i < S) : fd f S i x = fd f S (i + 1) (f i x) := by
  unfold fd
  obtain ⟨k, hk⟩ : ∃ k, S - i = k + 1 := ⟨S - i - 1, by omega⟩
  rw [hk, show S - (i + 1) = k by omega]
  rfl
def foK (q : Nat → Bool) : Nat → Nat → Option Nat
  | 0, _ => none
  | k + 1, i => if q i = true then some i else foK q k (i + 1)
def fo (q : Nat → Bool) (S i : Nat) : Option Nat := foK q (S - i) i
theorem fo_d {q : Nat → Bool} {S i : Nat} (h : S ≤ i) : fo q S i = none := by
  unfold fo
  rw [Nat.sub_eq_zero_of_le h]
  rfl
theorem fo_s {q : Nat → Bool} {S i : Nat} (h : i < S) : fo q S i = if q i = true then some i else fo q S (i + 1) := by
  unfold fo
  obtain ⟨k, hk⟩ : ∃ k, S - i = k + 1 := ⟨S - i - 1, by omega⟩
  rw [hk, show S - (i + 1) = k by omega]
  rfl
def oI (d : Int32) (o : Option Nat) : Int32 := match o with
  | none => d
  | some i => nI i
def alK (q : Nat → Bool) : Nat → Nat → Bool
  | 0, _ => true
  | k + 1, i => q i && alK q k (i + 1)
def al (q : Nat → Bool) (S i : Nat) : Bool := alK q (S - i) i
theorem al_d {q : Nat → Bool} {S i : Nat} (h : S ≤ i) : al q S i = true := by
  unfold al
  rw [Nat.sub_eq_zero_of_le h]
  rfl
theorem al_s {q : Nat → Bool} {S i : Nat} (h : i < S) : al q S i = (q i && al q S (i + 1)) := by
  unfold al
  obtain ⟨k, hk⟩ : ∃ k, S - i = k + 1 := ⟨S - i - 1, by omega⟩
  rw [hk, show S - (i + 1) = k by omega]
  rfl
def anK (q : Nat → Bool) : Nat → Nat → Bool
  | 0, _ => false
  | k + 1, i => q i || anK q k (i + 1)
def an (q : Nat → Bool) (S i : Nat) : Bool := anK q (S - i) i
theorem an_d {q : Nat → Bool} {S i : Nat} (h : S ≤ i) : an q S i = false := by
  unfold an
  rw [Nat.sub_eq_zero_of_le h]
  rfl
theorem an_s {q : Nat → Bool} {S i : Nat} (h : i < S) : an q S i = (q i || an q S (i + 1)) := by
  unfold an
  obtain ⟨k, hk⟩ : ∃ k, S - i = k + 1 := ⟨S - i - 1, by omega⟩
  rw [hk, show S - (i + 1) = k by omega]
  rfl
theorem r1 {z : Bool} (h : z = true) : nI 1 = bI z := by rw [h]; decide
theorem r0 {z : Bool} (h : z = false) : nI 0 = bI z := by rw [h]; decide
theorem q_1 : bI true = 1 := rfl
theorem q_0 : bI false = 0 := rfl
theorem q1 : nI 1 = 1 := by decide
theorem q0 : nI 0 = 0 := by decide
/-- numbers -/
theorem sh1 : ∀ n, n < 13 → nI 1 <<< (nI n &&& 31) = nI (2 ^ n) := by decide +kernel
theorem p2_6 {N : Nat} (h : N ≤ 6) : 2 ^ N ≤ 64 := Nat.pow_le_pow_right (by decide) h
theorem ml (a b : Nat) : nI a * nI b = nI (a * b) := pk_mul a b
theorem pl1 (a b : Nat) : nI a + nI b = nI (a + b) := nI_add a b
theorem ge_n {a b : Nat} (hb : b < 2 ^ 31) (ha : a < 2 ^ 31) (h : nI a ≤ nI b) : a ≤ b := (nI_leI ha hb).mp h
theorem ge_f {a b : Nat} (hb : b < 2 ^ 31) (ha : a < 2 ^ 31) (h : ¬ nI a ≤ nI b) : b < a := Nat.not_le.mp fun q => h ((nI_leI ha hb).mpr q)
theorem lt_n {a b : Nat} (ha : a < 2 ^ 31) (hb : b < 2 ^ 31) (h : nI a < nI b) : a < b := (nI_ltI ha hb).mp h
theorem lt_f {a b : Nat} (ha : a < 2 ^ 31) (hb : b < 2 ^ 31) (h : ¬ nI a < nI b) : b ≤ a := Nat.not_lt.mp fun q => h ((nI_ltI ha hb).mpr q)
theorem eq_n {a b : Nat} (ha : a < 2 ^ 31) (hb : b < 2 ^ 31) (h : nI a = nI b) : a = b := (nI_eq ha hb).mp h
/-- a clause: it holds -/
def okc (p m on : Int32) : Bool := !(decide (p &&& on = 0) && decide (m &&& (on ^^^ (-1)) = 0))
def RInv (N : Nat) (cn : Nat → Nat) : Prop := 1 ≤ N ∧ N ≤ 6 ∧ ∀ k, k < 4 → cn k ≤ 24
theorem RInv.S {N : Nat} {cn : Nat → Nat} (h : RInv N cn) : 2 ^ N ≤ 64 := p2_6 h.2.1
def inC (cn : Nat → Nat) (P M : Nat → Nat → Int32) (k : Nat) (x : Int32) : Bool := al (fun i => okc (P k i) (M k i) x) (cn k) 0
def goC (N : Nat) (cn : Nat → Nat) (P M : Nat → Nat → Int32) (f t : Int32) : Bool := inC cn P M 1 (f ||| (t <<< (nI N &&& 31)))
def stB (N : Nat) (x : Int32) : Bool := !decide (x < 0) && !decide (nI (2 ^ N) ≤ x)
def liB (x : Int32) : Bool := !decide (x < 0) && !decide (nI 4 ≤ x)
def seB (N : Nat) (li x : Int32) : Bool := !decide (x < 0) && !decide (nI (2 ^ (if li = nI 1 then 2 * N else N)) ≤ x)
def rbC (dep : Nat → Int32) (cn : Nat → Nat) (P M : Nat → Nat → Int32) (i : Nat) : Bool := !decide (dep i = -1) && inC cn P M 2 (nI i)
def stepC (g : Nat → Nat → Bool) (fr to : Nat) (dep : Nat → Int32) : Nat → Int32 := if dep to = -1 ∧ g fr to = true then upd dep to (dep fr + nI 1) else dep
def fromC (g : Nat → Nat → Bool) (S lev fr : Nat) (dep : Nat → Int32) : Nat → Int32 := if dep fr = nI lev then fd (stepC g fr) S 0 dep else dep
def levC (g : Nat → Nat → Bool) (S lev : Nat) (dep : Nat → Int32) : Nat → Int32 := fd (fromC g S lev) S 0 dep
def iniC (q : Nat → Bool) (i : Nat) (dep : Nat → Int32) : Nat → Int32 := upd dep i (if q i = true then nI 0 else -1)
def findC (N : Nat) (cn : Nat → Nat) (P M : Nat → Nat → Int32) (dep : Nat → Int32) : Nat → Int32 := fd (levC (fun f t => goC N cn P M (nI f) (nI t)) (2 ^ N)) (2 ^ N) 0 (fd (iniC (fun i => inC cn P M 0 (nI i))) (2 ^ N) 0 dep)
def depC (dk : Bool) (N : Nat) (cn : Nat → Nat) (P M : Nat → Nat → Int32) (dep : Nat → Int32) : Nat → Int32 := if dk = true then dep else findC N cn P M dep
def leC (N : Nat) (cn : Nat → Nat) (P M : Nat → Nat → Int32) (i : Nat) : Bool := an (fun t => !inC cn P M 3 (nI t) && goC N cn P M (nI i) (nI t)) (2 ^ N) 0
def brC (N : Nat) (cn : Nat → Nat) (P M : Nat → Nat → Int32) (r i : Nat) : Bool := if r = 1 then inC cn P M 0 (nI i) && !inC cn P M 3 (nI i) else if r = 2 then inC cn P M 3 (nI i) && leC N cn P M i else if r = 3 then inC cn P M 3 (nI i) && inC cn P M 2 (nI i) else false
def lbC (N : Nat) (cn : Nat → Nat) (P M : Nat → Nat → Int32) (r : Nat) : Option Nat := fo (brC N cn P M r) (2 ^ N) 0
def chC (N : Nat) (cn : Nat → Nat) (P M : Nat → Nat → Int32) : Option Nat := fo (fun r => !decide (oI (-1) (lbC N cn P M r) = -1)) 4 1
def flC (N : Nat) (cn : Nat → Nat) (P M : Nat → Nat → Int32) : Int32 := match chC N cn P M with
  | none => -1
  | some r => oI (-1) (lbC N cn P M r)
def woC (N : Nat) (cn : Nat → Nat) (P M : Nat → Nat → Int32) (dep : Nat → Int32) : Option Nat := fo (rbC dep cn P M) (2 ^ N) 0
def cntF (q : Nat → Bool) (i acc : Nat) : Nat := if q i = true then acc + 1 else acc
def reC (N : Nat) (dep : Nat → Int32) : Nat := fd (cntF (fun i => !decide (dep i = -1))) (2 ^ N) 0 0
def minF (u : Nat → Int32 → Bool) (dep : Nat → Int32) (i : Nat) (x : Int32) : Int32 := if u i x = true then dep i else x
def stC (N : Nat) (cn : Nat → Nat) (P M : Nat → Nat → Int32) (dep : Nat → Int32) : Int32 := fd (minF (fun i x => rbC dep cn P M i && (decide (x = -1) || !decide (x ≤ dep i))) dep) (2 ^ N) 0 (-1)
end
section
theorem okc_1 {p m x : Int32} (h : ¬ p &&& x = 0) : okc p m x = true := by
  unfold okc
  rw [decide_eq_false h]
  rfl
theorem okc_2 {p m x : Int32} (h : ¬ m &&& (x ^^^ (-1)) = 0) : okc p m x = true := by
  unfold okc
  rw [decide_eq_false h, Bool.and_false]
  rfl
theorem okc_0 {p m x : Int32} (h1 : p &&& x = 0) (h : m &&& (x ^^^ (-1)) = 0) : okc p m x = false := by
  unfold okc
  rw [decide_eq_true h, decide_eq_true h1]
  rfl
theorem liB_t {x : Int32} (h : liB x = true) : ∃ k : Nat, k < 4 ∧ x = nI k := by
  unfold liB at h
  simp only [Bool.and_eq_true, Bool.not_eq_true', decide_eq_false_iff_not] at h
  rcases pk_ix x (n := 4) (by decide) with h1 | h1 | h1
  · exact absurd h1 h.1
  · exact absurd h1 h.2
  · exact h1
theorem fo_inK (q : Nat → Bool) : ∀ (k i r : Nat), foK q k i = some r → i ≤ r ∧ r < i + k ∧ q r = true
  | 0, i, r, h => by simp [foK] at h
  | k + 1, i, r, h => by
    unfold foK at h
    by_cases hq : q i = true
    · rw [if_pos hq] at h
      cases h
      exact ⟨Nat.le_refl _, by omega, hq⟩
    · rw [if_neg hq] at h
      obtain ⟨h1, h2, h3⟩ := fo_inK q k (i + 1) r h
      exact ⟨by omega, by omega, h3⟩
theorem fo_in {q : Nat → Bool} {S i r : Nat} (h : fo q S i = some r) : i ≤ r ∧ r < S := by
  obtain ⟨h1, h2, -⟩ := fo_inK q (S - i) i r h
  exact ⟨h1, by omega⟩
def hoC (N : Nat) (cn : Nat → Nat) (P M : Nat → Nat → Int32) (li x y : Int32) : Bool := liB li && (stB N x && (if li = nI 1 then stB N y && goC N cn P M x y else inC cn P M li.toNatClampNeg x))
set_option maxHeartbeats 4000000 in
set_option maxRecDepth 100000 in
theorem c_X0_allHold {l : Launch} {D : va_G} {cI cL : ClassId} {a : Nat → Nat} {dep : Nat → Int32} {dk : Bool} {N pl : Nat} {pe : Int32} {cn : Nat → Nat} {P M : Nat → Nat → Int32} {k : Nat} {x : Int32} (hk : k < 4)  (hV : RInv N cn) : MetR l yX0_allHold cX0_allHold 3 (some .boolean) 0 [.ref (a (3 + 3 * k)), .int x] D cI cL (RPw cI cL a dep dk N pl pe cn P M) (bI (inC cn P M k x)) := by
  refine MetR.mk (by decide) (Nat.le_of_ble_eq_true rfl) ?_
  intro p e s m args below meth c Q hQ S hr hlk hN hK hP ls hl
  have S : CallFix p m c cX0_allHold 3 s args wt RX0 := S
  have hl : lv_has ls 3 [(0, .ref (a (3 + 3 * k))), (1, .int x)] := hl
  have hc := hV.2.2 k hk
  refine lv_iconst (v := nI 0) S.1 S.2.1 dX0_allHold_0 (by decide) ?_
  refine lv_istore_n (lv' := [(2, .int (nI 0)), (0, .ref (a (3 + 3 * k))), (1, .int x)]) S.1 S.2.1 dX0_allHold_1 rfl hl (by decide) rfl (fun ls hl => ?_)
  have loop2 : ∀ (nf : Nat) (i : Nat) (ls : Array Slot), cn k - i < nf → i ≤ cn k → al (fun i => okc (P k i) (M k i) x) (cn k) i = inC cn P M k x → lv_has ls 3 [(2, .int (nI i)), (0, .ref (a (3 + 3 * k))), (1, .int x)] → W p l e (rmd 0) s m args below meth c s.heap [] 0 0 Q (F0 m 2 ls []) := by
    intro nf
    induction nf with
    | zero => exact fun i ls hn => absurd hn (Nat.not_lt_zero _)
    | succ nf ih2 =>
      intro i ls hn hi hv hl
      refine lv_iload_n S.1 S.2.1 dX0_allHold_2 rfl (lv_at hl 0 rfl) ?_
      refine lv_aload_n S.1 S.2.1 dX0_allHold_3 rfl (lv_at hl 1 rfl) ?_
      refine g0_size hk S hK hP dX0_allHold_4 ?_
      refine lv_icmp_ge (tgt := 42) S.1 S.2.1 dX0_allHold_7 (by decide) (fun h7 => ?_) (fun h7 => ?_)
      · have h7 := ge_n (by omega) (by omega) h7
        refine lv_iconst (v := nI 1) S.1 S.2.1 dX0_allHold_42 (by decide) ?_
        exact rd_retz hQ S hr hlk (r1 (by rw [← hv, al_d h7])) dX0_allHold_43
      · have h7 := ge_f (by omega) (by omega) h7
        refine lv_aload_n S.1 S.2.1 dX0_allHold_10 rfl (lv_at hl 1 rfl) ?_
        refine g0_pluses hk S hK hP dX0_allHold_11 ?_
        refine lv_iload_n S.1 S.2.1 dX0_allHold_14 rfl (lv_at hl 0 rfl) ?_
        refine a0_pl hk (by omega) S hK hP dX0_allHold_15 ?_
        refine lv_iload_n S.1 S.2.1 dX0_allHold_16 rfl (lv_at hl 2 rfl) ?_
        refine lv_iand S.1 S.2.1 dX0_allHold_17 ?_
        refine lv_if_ne (tgt := 36) S.1 S.2.1 dX0_allHold_18 (by decide) (fun h18 => ?_) (fun h18 => ?_)
        · refine lv_iinc (v := nI (i + 1)) (lv' := [(2, .int (nI (i + 1))), (0, .ref (a (3 + 3 * k))), (1, .int x)]) S.1 S.2.1 dX0_allHold_36 hl (k := 0) rfl (nI_1 _) (by decide) rfl (fun ls hl => ?_)
          refine lv_goto (tgt := 2) S.1 S.2.1 dX0_allHold_39 (by decide) ?_
          exact ih2 (i + 1) ls (by omega) (by omega) (by rw [← hv, al_s h7]; simp only [okc_1 h18, Bool.true_and]) (lv_sub hl [0, 1, 2] rfl)
        · refine lv_aload_n S.1 S.2.1 dX0_allHold_21 rfl (lv_at hl 1 rfl) ?_
          refine g0_minuses hk S hK hP dX0_allHold_22 ?_
          refine lv_iload_n S.1 S.2.1 dX0_allHold_25 rfl (lv_at hl 0 rfl) ?_
          refine a0_mi hk (by omega) S hK hP dX0_allHold_26 ?_
          refine lv_iload_n S.1 S.2.1 dX0_allHold_27 rfl (lv_at hl 2 rfl) ?_
          refine lv_iconst (v := -1) S.1 S.2.1 dX0_allHold_28 (by decide) ?_
          refine lv_ixor S.1 S.2.1 dX0_allHold_29 ?_
          refine lv_iand S.1 S.2.1 dX0_allHold_30 ?_
          refine lv_if_ne (tgt := 36) S.1 S.2.1 dX0_allHold_31 (by decide) (fun h31 => ?_) (fun h31 => ?_)
          · refine lv_iinc (v := nI (i + 1)) (lv' := [(2, .int (nI (i + 1))), (0, .ref (a (3 + 3 * k))), (1, .int x)]) S.1 S.2.1 dX0_allHold_36 hl (k := 0) rfl (nI_1 _) (by decide) rfl (fun ls hl => ?_)
            refine lv_goto (tgt := 2) S.1 S.2.1 dX0_allHold_39 (by decide) ?_
            exact ih2 (i + 1) ls (by omega) (by omega) (by rw [← hv, al_s h7]; simp only [okc_2 h31, Bool.true_and]) (lv_sub hl [0, 1, 2] rfl)
          · refine lv_iconst (v := nI 0) S.1 S.2.1 dX0_allHold_34 (by decide) ?_
            exact rd_retz hQ S hr hlk (r0 (by rw [← hv, al_s h7]; simp only [okc_0 h18 h31, Bool.false_and])) dX0_allHold_35
  exact loop2 _ 0 ls (Nat.lt_succ_self _) (Nat.zero_le _) rfl (lv_sub hl [0, 1, 2] rfl)
set_option maxHeartbeats 4000000 in
set_option maxRecDepth 100000 in
theorem c_X0_isFull {l : Launch} {D : va_G} {cI cL : ClassId} {a : Nat → Nat} {dep : Nat → Int32} {dk : Bool} {N pl : Nat} {pe : Int32} {cn : Nat → Nat} {P M : Nat → Nat → Int32} {k : Nat} (hk : k < 4)   : MetR l yX0_isFull cX0_isFull 1 (some .boolean) 0 [.ref (a (3 + 3 * k))] D cI cL (RPw cI cL a dep dk N pl pe cn P M) (bI (!decide (nI (cn k) < nI 24))) := by
  refine MetR.mk (by decide) (Nat.le_of_ble_eq_true rfl) ?_
  intro p e s m args below meth c Q hQ S hr hlk hN hK hP ls hl
  have S : CallFix p m c cX0_isFull 1 s args wt RX0 := S
  have hl : lv_has ls 1 [(0, .ref (a (3 + 3 * k)))] := hl
  refine lv_aload_n S.1 S.2.1 dX0_isFull_0 rfl (lv_at hl 0 rfl) ?_
  refine g0_size hk S hK hP dX0_isFull_1 ?_
  refine lv_bipush (v := nI 24) S.1 S.2.1 dX0_isFull_4 (by decide) ?_
  refine lv_icmp_lt (tgt := 13) S.1 S.2.1 dX0_isFull_6 (by decide) (fun h6 => ?_) (fun h6 => ?_)
  · refine lv_iconst (v := nI 0) S.1 S.2.1 dX0_isFull_13 (by decide) ?_
    exact rd_retz hQ S hr hlk (r0 (by simp [h6])) dX0_isFull_14
  · refine lv_iconst (v := nI 1) S.1 S.2.1 dX0_isFull_9 (by decide) ?_
    refine lv_goto (tgt := 14) S.1 S.2.1 dX0_isFull_10 (by decide) ?_
    exact rd_retz hQ S hr hlk (r1 (by simp [h6])) dX0_isFull_14
set_option maxHeartbeats 4000000 in
set_option maxRecDepth 100000 in
theorem c_X1_stateCount {l : Launch} {D : va_G} {cI cL : ClassId} {a : Nat → Nat} {dep : Nat → Int32} {dk : Bool} {N pl : Nat} {pe : Int32} {cn : Nat → Nat} {P M : Nat → Nat → Int32}  (hV : RInv N cn) : MetR l yX1_stateCount cX1_stateCount 1 (some .int) 0 [.ref (a 0)] D cI cL (RPw cI cL a dep dk N pl pe cn P M) (nI (2 ^ N)) := by
  refine MetR.mk (by decide) (Nat.le_of_ble_eq_true rfl) ?_
  intro p e s m args below meth c Q hQ S hr hlk hN hK hP ls hl
  have S : CallFix p m c cX1_stateCount 1 s args wt RX1 := S
  have hl : lv_has ls 1 [(0, .ref (a 0))] := hl
  refine lv_iconst (v := nI 1) S.1 S.2.1 dX1_stateCount_0 (by decide) ?_
  refine lv_aload_n S.1 S.2.1 dX1_stateCount_1 rfl (lv_at hl 0 rfl) ?_
  refine g1_switchCount S hK hP dX1_stateCount_2 ?_
  refine lv_ishl S.1 S.2.1 dX1_stateCount_5 ?_
  refine tp (y := nI (2 ^ N)) (sh1 N (by have := hV.2.1; omega)) ?_
  exact rd_ret hQ S hr hlk rfl dX1_stateCount_6
set_option maxHeartbeats 4000000 in
set_option maxRecDepth 100000 in
theorem c_X1_isState {l : Launch} {D : va_G} {cI cL : ClassId} {a : Nat → Nat} {dep : Nat → Int32} {dk : Bool} {N pl : Nat} {pe : Int32} {cn : Nat → Nat} {P M : Nat → Nat → Int32} {x : Int32}  (hV : RInv N cn) : MetR l yX1_isState cX1_isState 2 (some .boolean) 1 [.ref (a 0), .int x] D cI cL (RPw cI cL a dep dk N pl pe cn P M) (bI (stB N x)) := by
  refine MetR.mk (by decide) (Nat.le_of_ble_eq_true rfl) ?_
  intro p e s m args below meth c Q hQ S hr hlk hN hK hP ls hl
  have S : CallFix p m c cX1_isState 2 s args wt RX1 := S
  have hl : lv_has ls 2 [(0, .ref (a 0)), (1, .int x)] := hl
  refine lv_iload_n S.1 S.2.1 dX1_isState_0 rfl (lv_at hl 1 rfl) ?_
  refine lv_if_lt (tgt := 16) S.1 S.2.1 dX1_isState_1 (by decide) (fun h1 => ?_) (fun h1 => ?_)
  · refine lv_iconst (v := nI 0) S.1 S.2.1 dX1_isState_16 (by decide) ?_
    exact rd_retz hQ S hr hlk (r0 (by simp [stB, h1])) dX1_isState_17
  · refine lv_iload_n S.1 S.2.1 dX1_isState_4 rfl (lv_at hl 1 rfl) ?_
    refine lv_aload_n S.1 S.2.1 dX1_isState_5 rfl (lv_at hl 0 rfl) ?_
    refine rdV S cv_RX1_78 (c_X1_stateCount hV) hK hN hP (rp_rv hK hP) ⟨Nat.le_of_ble_eq_true rfl, Nat.le_of_ble_eq_true rfl⟩ ⟨Nat.zero_le _, Nat.zero_le _⟩ rfl hl.1 rfl (Nat.le_of_ble_eq_true rfl) dX1_isState_6 ?_
    refine lv_icmp_ge (tgt := 16) S.1 S.2.1 dX1_isState_9 (by decide) (fun h9 => ?_) (fun h9 => ?_)
    · refine lv_iconst (v := nI 0) S.1 S.2.1 dX1_isState_16 (by decide) ?_
      exact rd_retz hQ S hr hlk (r0 (by simp [stB, h1, h9])) dX1_isState_17
    · refine lv_iconst (v := nI 1) S.1 S.2.1 dX1_isState_12 (by decide) ?_
      refine lv_goto (tgt := 17) S.1 S.2.1 dX1_isState_13 (by decide) ?_
      exact rd_retz hQ S hr hlk (r1 (by simp [stB, h1, h9])) dX1_isState_17
set_option maxHeartbeats 4000000 in
set_option maxRecDepth 100000 in
theorem c_X1_isList {l : Launch} {D : va_G} {cI cL : ClassId} {a : Nat → Nat} {dep : Nat → Int32} {dk : Bool} {N pl : Nat} {pe : Int32} {cn : Nat → Nat} {P M : Nat → Nat → Int32} {x : Int32}   : MetR l yX1_isList cX1_isList 1 (some .boolean) 0 [.int x] D cI cL (RPw cI cL a dep dk N pl pe cn P M) (bI (liB x)) := by
  refine MetR.mk (by decide) (Nat.le_of_ble_eq_true rfl) ?_
  intro p e s m args below meth c Q hQ S hr hlk hN hK hP ls hl
  have S : CallFix p m c cX1_isList 1 s args wt RX1 := S
  have hl : lv_has ls 1 [(0, .int x)] := hl
  refine lv_iload_n S.1 S.2.1 dX1_isList_0 rfl (lv_at hl 0 rfl) ?_
  refine lv_if_lt (tgt := 13) S.1 S.2.1 dX1_isList_1 (by decide) (fun h1 => ?_) (fun h1 => ?_)
  · refine lv_iconst (v := nI 0) S.1 S.2.1 dX1_isList_13 (by decide) ?_
    exact rd_retz hQ S hr hlk (r0 (by simp [liB, h1])) dX1_isList_14
  · refine lv_iload_n S.1 S.2.1 dX1_isList_4 rfl (lv_at hl 0 rfl) ?_
    refine lv_iconst (v := nI 4) S.1 S.2.1 dX1_isList_5 (by decide) ?_
    refine lv_icmp_ge (tgt := 13) S.1 S.2.1 dX1_isList_6 (by decide) (fun h6 => ?_) (fun h6 => ?_)
    · refine lv_iconst (v := nI 0) S.1 S.2.1 dX1_isList_13 (by decide) ?_
      exact rd_retz hQ S hr hlk (r0 (by simp [liB, h1, h6])) dX1_isList_14
    · refine lv_iconst (v := nI 1) S.1 S.2.1 dX1_isList_9 (by decide) ?_
      refine lv_goto (tgt := 14) S.1 S.2.1 dX1_isList_10 (by decide) ?_
      exact rd_retz hQ S hr hlk (r1 (by simp [liB, h1, h6])) dX1_isList_14
set_option maxHeartbeats 4000000 in
set_option maxRecDepth 100000 in
theorem c_X1_isSetOf {l : Launch} {D : va_G} {cI cL : ClassId} {a : Nat → Nat} {dep : Nat → Int32} {dk : Bool} {N pl : Nat} {pe : Int32} {cn : Nat → Nat} {P M : Nat → Nat → Int32} {li x : Int32}  (hV : RInv N cn) : MetR l yX1_isSetOf cX1_isSetOf 4 (some .boolean) 0 [.ref (a 0), .int li, .int x] D cI cL (RPw cI cL a dep dk N pl pe cn P M) (bI (seB N li x)) := by
  refine MetR.mk (by decide) (Nat.le_of_ble_eq_true rfl) ?_
  intro p e s m args below meth c Q hQ S hr hlk hN hK hP ls hl
  have S : CallFix p m c cX1_isSetOf 4 s args wt RX1 := S
  have hl : lv_has ls 4 [(0, .ref (a 0)), (1, .int li), (2, .int x)] := hl
  have h6 := hV.2.1
  refine lv_iload_n S.1 S.2.1 dX1_isSetOf_0 rfl (lv_at hl 1 rfl) ?_
  refine lv_iconst (v := nI 1) S.1 S.2.1 dX1_isSetOf_1 (by decide) ?_
  refine lv_icmp_ne (tgt := 14) S.1 S.2.1 dX1_isSetOf_2 (by decide) (fun h2 => ?_) (fun h2 => ?_)
  · refine lv_aload_n S.1 S.2.1 dX1_isSetOf_14 rfl (lv_at hl 0 rfl) ?_
    refine g1_switchCount S hK hP dX1_isSetOf_15 ?_
    refine lv_istore_n (lv' := [(3, .int (nI N)), (0, .ref (a 0)), (1, .int li), (2, .int x)]) S.1 S.2.1 dX1_isSetOf_18 rfl hl (by decide) rfl (fun ls hl => ?_)
    refine lv_iload_n S.1 S.2.1 dX1_isSetOf_19 rfl (lv_at hl 3 rfl) ?_
    refine lv_if_lt (tgt := 34) S.1 S.2.1 dX1_isSetOf_20 (by decide) (fun h20 => ?_) (fun h20 => ?_)
    · refine lv_iconst (v := nI 0) S.1 S.2.1 dX1_isSetOf_34 (by decide) ?_
      exact rd_retz hQ S hr hlk (r0 (by simp [seB, h2, h20])) dX1_isSetOf_35
    · refine lv_iload_n S.1 S.2.1 dX1_isSetOf_23 rfl (lv_at hl 3 rfl) ?_
      refine lv_iconst (v := nI 1) S.1 S.2.1 dX1_isSetOf_24 (by decide) ?_
      refine lv_iload_n S.1 S.2.1 dX1_isSetOf_25 rfl (lv_at hl 0 rfl) ?_
      refine lv_ishl S.1 S.2.1 dX1_isSetOf_26 ?_
      refine tp (y := nI (2 ^ N)) (sh1 _ (by omega)) ?_
      refine lv_icmp_ge (tgt := 34) S.1 S.2.1 dX1_isSetOf_27 (by decide) (fun h27 => ?_) (fun h27 => ?_)
      · refine lv_iconst (v := nI 0) S.1 S.2.1 dX1_isSetOf_34 (by decide) ?_
        exact rd_retz hQ S hr hlk (r0 (by simp [seB, h2, h20, h27])) dX1_isSetOf_35
      · refine lv_iconst (v := nI 1) S.1 S.2.1 dX1_isSetOf_30 (by decide) ?_
        refine lv_goto (tgt := 35) S.1 S.2.1 dX1_isSetOf_31 (by decide) ?_
        exact rd_retz hQ S hr hlk (r1 (by simp [seB, h2, h20, h27])) dX1_isSetOf_35
  · refine lv_iconst (v := nI 2) S.1 S.2.1 dX1_isSetOf_5 (by decide) ?_
    refine lv_aload_n S.1 S.2.1 dX1_isSetOf_6 rfl (lv_at hl 0 rfl) ?_
    refine g1_switchCount S hK hP dX1_isSetOf_7 ?_
    refine lv_imul S.1 S.2.1 dX1_isSetOf_10 ?_
    refine tp (y := nI (2 * N)) (ml 2 N) ?_
    refine lv_goto (tgt := 18) S.1 S.2.1 dX1_isSetOf_11 (by decide) ?_
    refine lv_istore_n (lv' := [(3, .int (nI (2 * N))), (0, .ref (a 0)), (1, .int li), (2, .int x)]) S.1 S.2.1 dX1_isSetOf_18 rfl hl (by decide) rfl (fun ls hl => ?_)
    refine lv_iload_n S.1 S.2.1 dX1_isSetOf_19 rfl (lv_at hl 3 rfl) ?_
    refine lv_if_lt (tgt := 34) S.1 S.2.1 dX1_isSetOf_20 (by decide) (fun h20 => ?_) (fun h20 => ?_)
    · refine lv_iconst (v := nI 0) S.1 S.2.1 dX1_isSetOf_34 (by decide) ?_
      exact rd_retz hQ S hr hlk (r0 (by simp [seB, h2, h20])) dX1_isSetOf_35
    · refine lv_iload_n S.1 S.2.1 dX1_isSetOf_23 rfl (lv_at hl 3 rfl) ?_
      refine lv_iconst (v := nI 1) S.1 S.2.1 dX1_isSetOf_24 (by decide) ?_
      refine lv_iload_n S.1 S.2.1 dX1_isSetOf_25 rfl (lv_at hl 0 rfl) ?_
      refine lv_ishl S.1 S.2.1 dX1_isSetOf_26 ?_
      refine tp (y := nI (2 ^ ((2 * N)))) (sh1 _ (by omega)) ?_
      refine lv_icmp_ge (tgt := 34) S.1 S.2.1 dX1_isSetOf_27 (by decide) (fun h27 => ?_) (fun h27 => ?_)
      · refine lv_iconst (v := nI 0) S.1 S.2.1 dX1_isSetOf_34 (by decide) ?_
        exact rd_retz hQ S hr hlk (r0 (by simp [seB, h2, h20, h27])) dX1_isSetOf_35
      · refine lv_iconst (v := nI 1) S.1 S.2.1 dX1_isSetOf_30 (by decide) ?_
        refine lv_goto (tgt := 35) S.1 S.2.1 dX1_isSetOf_31 (by decide) ?_
        exact rd_retz hQ S hr hlk (r1 (by simp [seB, h2, h20, h27])) dX1_isSetOf_35
set_option maxHeartbeats 4000000 in
set_option maxRecDepth 100000 in
theorem c_X1_isIn {l : Launch} {D : va_G} {cI cL : ClassId} {a : Nat → Nat} {dep : Nat → Int32} {dk : Bool} {N pl : Nat} {pe : Int32} {cn : Nat → Nat} {P M : Nat → Nat → Int32} {k : Nat} {x : Int32} (hk : k < 4)  (hV : RInv N cn) : MetR l yX1_isIn cX1_isIn 3 (some .boolean) 1 [.ref (a 0), .int (nI k), .int x] D cI cL (RPw cI cL a dep dk N pl pe cn P M) (bI (inC cn P M k x)) := by
  refine MetR.mk (by decide) (Nat.le_of_ble_eq_true rfl) ?_
  intro p e s m args below meth c Q hQ S hr hlk hN hK hP ls hl
  have S : CallFix p m c cX1_isIn 3 s args wt RX1 := S
  have hl : lv_has ls 3 [(0, .ref (a 0)), (1, .int (nI k)), (2, .int x)] := hl
  refine lv_aload_n S.1 S.2.1 dX1_isIn_0 rfl (lv_at hl 0 rfl) ?_
  refine g1_lists S hK hP dX1_isIn_1 ?_
  refine lv_iload_n S.1 S.2.1 dX1_isIn_4 rfl (lv_at hl 1 rfl) ?_
  refine a1_lists (k := k) hk S hK hP dX1_isIn_5 ?_
  refine lv_iload_n S.1 S.2.1 dX1_isIn_6 rfl (lv_at hl 2 rfl) ?_
  refine rdN S cm_X0_allHold hN.2.2.2.2.2.1 (c_X0_allHold (k := k) (x := x) hk hV) hK hN hP (rp_rvk hk hK hP) ⟨Nat.le_of_ble_eq_true rfl, Nat.le_of_ble_eq_true rfl⟩ ⟨Nat.zero_le _, Nat.zero_le _⟩ rfl hl.1 rfl (Nat.le_of_ble_eq_true rfl) dX1_isIn_7 ?_
  exact rd_retz hQ S hr hlk rfl dX1_isIn_10
set_option maxHeartbeats 4000000 in
set_option maxRecDepth 100000 in
theorem c_X1_canGo {l : Launch} {D : va_G} {cI cL : ClassId} {a : Nat → Nat} {dep : Nat → Int32} {dk : Bool} {N pl : Nat} {pe : Int32} {cn : Nat → Nat} {P M : Nat → Nat → Int32} {f t : Int32}  (hV : RInv N cn) : MetR l yX1_canGo cX1_canGo 3 (some .boolean) 1 [.ref (a 0), .int f, .int t] D cI cL (RPw cI cL a dep dk N pl pe cn P M) (bI (goC N cn P M f t)) := by
  refine MetR.mk (by decide) (Nat.le_of_ble_eq_true rfl) ?_
  intro p e s m args below meth c Q hQ S hr hlk hN hK hP ls hl
  have S : CallFix p m c cX1_canGo 3 s args wt RX1 := S
  have hl : lv_has ls 3 [(0, .ref (a 0)), (1, .int f), (2, .int t)] := hl
  refine lv_aload_n S.1 S.2.1 dX1_canGo_0 rfl (lv_at hl 0 rfl) ?_
  refine g1_lists S hK hP dX1_canGo_1 ?_
  refine lv_iconst (v := nI 1) S.1 S.2.1 dX1_canGo_4 (by decide) ?_
  refine a1_lists (k := 1) (by decide) S hK hP dX1_canGo_5 ?_
  refine lv_iload_n S.1 S.2.1 dX1_canGo_6 rfl (lv_at hl 1 rfl) ?_
  refine lv_iload_n S.1 S.2.1 dX1_canGo_7 rfl (lv_at hl 2 rfl) ?_
  refine lv_aload_n S.1 S.2.1 dX1_canGo_8 rfl (lv_at hl 0 rfl) ?_
  refine g1_switchCount S hK hP dX1_canGo_9 ?_
  refine lv_ishl S.1 S.2.1 dX1_canGo_12 ?_
  refine lv_ior S.1 S.2.1 dX1_canGo_13 ?_
  refine rdN S cm_X0_allHold hN.2.2.2.2.2.1 (c_X0_allHold (k := 1) (x := f ||| (t <<< ((nI N) &&& 31))) (by decide) hV) hK hN hP (rp_rvk (by decide) hK hP) ⟨Nat.le_of_ble_eq_true rfl, Nat.le_of_ble_eq_true rfl⟩ ⟨Nat.zero_le _, Nat.zero_le _⟩ rfl hl.1 rfl (Nat.le_of_ble_eq_true rfl) dX1_canGo_14 ?_
  exact rd_retz hQ S hr hlk rfl dX1_canGo_17
set_option maxHeartbeats 4000000 in
set_option maxRecDepth 100000 in
theorem c_X1_isReachedBad {l : Launch} {D : va_G} {cI cL : ClassId} {a : Nat → Nat} {dep : Nat → Int32} {dk : Bool} {N pl : Nat} {pe : Int32} {cn : Nat → Nat} {P M : Nat → Nat → Int32} {i : Nat} (hi : i < 64)  (hV : RInv N cn) : MetR l yX1_isReachedBad cX1_isReachedBad 2 (some .boolean) 2 [.ref (a 0), .int (nI i)] D cI cL (RPw cI cL a dep dk N pl pe cn P M) (bI (rbC dep cn P M i)) := by
  refine MetR.mk (by decide) (Nat.le_of_ble_eq_true rfl) ?_
  intro p e s m args below meth c Q hQ S hr hlk hN hK hP ls hl
  have S : CallFix p m c cX1_isReachedBad 2 s args wt RX1 := S
  have hl : lv_has ls 2 [(0, .ref (a 0)), (1, .int (nI i))] := hl
  refine lv_aload_n S.1 S.2.1 dX1_isReachedBad_0 rfl (lv_at hl 0 rfl) ?_
  refine g1_depths S hK hP dX1_isReachedBad_1 ?_
  refine lv_iload_n S.1 S.2.1 dX1_isReachedBad_4 rfl (lv_at hl 1 rfl) ?_
  refine a1_dep hi S hK hP dX1_isReachedBad_5 ?_
  refine lv_iconst (v := -1) S.1 S.2.1 dX1_isReachedBad_6 (by decide) ?_
  refine lv_icmp_eq (tgt := 23) S.1 S.2.1 dX1_isReachedBad_7 (by decide) (fun h7 => ?_) (fun h7 => ?_)
  · refine lv_iconst (v := nI 0) S.1 S.2.1 dX1_isReachedBad_23 (by decide) ?_
    exact rd_retz hQ S hr hlk (r0 (by simp [rbC, h7])) dX1_isReachedBad_24
  · refine lv_aload_n S.1 S.2.1 dX1_isReachedBad_10 rfl (lv_at hl 0 rfl) ?_
    refine lv_iconst (v := nI 2) S.1 S.2.1 dX1_isReachedBad_11 (by decide) ?_
    refine lv_iload_n S.1 S.2.1 dX1_isReachedBad_12 rfl (lv_at hl 1 rfl) ?_
    refine rdV S cv_RX1_68 (c_X1_isIn (k := 2) (x := nI i) (by decide) hV) hK hN hP (rp_rv hK hP) ⟨Nat.le_of_ble_eq_true rfl, Nat.le_of_ble_eq_true rfl⟩ ⟨Nat.zero_le _, Nat.zero_le _⟩ rfl hl.1 rfl (Nat.le_of_ble_eq_true rfl) dX1_isReachedBad_13 ?_
    refine lv_if_eq (tgt := 23) S.1 S.2.1 dX1_isReachedBad_16 (by decide) (fun h16 => ?_) (fun h16 => ?_)
    · have h16 : (inC cn P M 2 (nI i)) = false := bI_f h16
      refine lv_iconst (v := nI 0) S.1 S.2.1 dX1_isReachedBad_23 (by decide) ?_
      exact rd_retz hQ S hr hlk (r0 (by simp [rbC, h7, h16])) dX1_isReachedBad_24
    · have h16 : (inC cn P M 2 (nI i)) = true := bI_t h16
      refine lv_iconst (v := nI 1) S.1 S.2.1 dX1_isReachedBad_19 (by decide) ?_
      refine lv_goto (tgt := 24) S.1 S.2.1 dX1_isReachedBad_20 (by decide) ?_
      exact rd_retz hQ S hr hlk (r1 (by simp [rbC, h7, h16])) dX1_isReachedBad_24
set_option maxHeartbeats 4000000 in
set_option maxRecDepth 100000 in
theorem c_X1_canLeaveClaim {l : Launch} {D : va_G} {cI cL : ClassId} {a : Nat → Nat} {dep : Nat → Int32} {dk : Bool} {N pl : Nat} {pe : Int32} {cn : Nat → Nat} {P M : Nat → Nat → Int32} {i : Nat}  (hV : RInv N cn) : MetR l yX1_canLeaveClaim cX1_canLeaveClaim 3 (some .boolean) 2 [.ref (a 0), .int (nI i)] D cI cL (RPw cI cL a dep dk N pl pe cn P M) (bI (leC N cn P M i)) := by
  refine MetR.mk (by decide) (Nat.le_of_ble_eq_true rfl) ?_
  intro p e s m args below meth c Q hQ S hr hlk hN hK hP ls hl
  have S : CallFix p m c cX1_canLeaveClaim 3 s args wt RX1 := S
  have hl : lv_has ls 3 [(0, .ref (a 0)), (1, .int (nI i))] := hl
  have hz := hV.S
  refine lv_iconst (v := nI 0) S.1 S.2.1 dX1_canLeaveClaim_0 (by decide) ?_
  refine lv_istore_n (lv' := [(2, .int (nI 0)), (0, .ref (a 0)), (1, .int (nI i))]) S.1 S.2.1 dX1_canLeaveClaim_1 rfl hl (by decide) rfl (fun ls hl => ?_)
  have loop2 : ∀ (nf : Nat) (t : Nat) (ls : Array Slot), 2 ^ N - t < nf → t ≤ 2 ^ N → an (fun t => !inC cn P M 3 (nI t) && goC N cn P M (nI i) (nI t)) (2 ^ N) t = leC N cn P M i → lv_has ls 3 [(2, .int (nI t)), (0, .ref (a 0)), (1, .int (nI i))] → W p l e (rmd 2) s m args below meth c s.heap [] 0 0 Q (F0 m 2 ls []) := by
    intro nf
    induction nf with
    | zero => exact fun t ls hn => absurd hn (Nat.not_lt_zero _)
    | succ nf ih2 =>
      intro t ls hn ht hv hl
      refine lv_iload_n S.1 S.2.1 dX1_canLeaveClaim_2 rfl (lv_at hl 0 rfl) ?_
      refine lv_aload_n S.1 S.2.1 dX1_canLeaveClaim_3 rfl (lv_at hl 1 rfl) ?_
      refine rdV S cv_RX1_78 (c_X1_stateCount hV) hK hN hP (rp_rv hK hP) ⟨Nat.le_of_ble_eq_true rfl, Nat.le_of_ble_eq_true rfl⟩ ⟨Nat.zero_le _, Nat.zero_le _⟩ rfl hl.1 rfl (Nat.le_of_ble_eq_true rfl) dX1_canLeaveClaim_4 ?_
      refine lv_icmp_ge (tgt := 36) S.1 S.2.1 dX1_canLeaveClaim_7 (by decide) (fun h7 => ?_) (fun h7 => ?_)
      · have h7 := ge_n (by omega) (by omega) h7
        refine lv_iconst (v := nI 0) S.1 S.2.1 dX1_canLeaveClaim_36 (by decide) ?_
        exact rd_retz hQ S hr hlk (r0 (by rw [← hv, an_d h7])) dX1_canLeaveClaim_37
      · have h7 := ge_f (by omega) (by omega) h7
        refine lv_aload_n S.1 S.2.1 dX1_canLeaveClaim_10 rfl (lv_at hl 1 rfl) ?_
        refine lv_iconst (v := nI 3) S.1 S.2.1 dX1_canLeaveClaim_11 (by decide) ?_
        refine lv_iload_n S.1 S.2.1 dX1_canLeaveClaim_12 rfl (lv_at hl 0 rfl) ?_
        refine rdV S cv_RX1_68 (c_X1_isIn (k := 3) (x := nI t) (by decide) hV) hK hN hP (rp_rv hK hP) ⟨Nat.le_of_ble_eq_true rfl, Nat.le_of_ble_eq_true rfl⟩ ⟨Nat.zero_le _, Nat.zero_le _⟩ rfl hl.1 rfl (Nat.le_of_ble_eq_true rfl) dX1_canLeaveClaim_13 ?_
        refine lv_if_ne (tgt := 30) S.1 S.2.1 dX1_canLeaveClaim_16 (by decide) (fun h16 => ?_) (fun h16 => ?_)
        · have h16 : (inC cn P M 3 (nI t)) = true := bI_t h16
          refine lv_iinc (v := nI (t + 1)) (lv' := [(2, .int (nI (t + 1))), (0, .ref (a 0)), (1, .int (nI i))]) S.1 S.2.1 dX1_canLeaveClaim_30 hl (k := 0) rfl (nI_1 _) (by decide) rfl (fun ls hl => ?_)
          refine lv_goto (tgt := 2) S.1 S.2.1 dX1_canLeaveClaim_33 (by decide) ?_
          exact ih2 (t + 1) ls (by omega) (by omega) (by rw [← hv, an_s h7]; simp [h16]) (lv_sub hl [0, 1, 2] rfl)
        · have h16 : (inC cn P M 3 (nI t)) = false := bI_f h16
          refine lv_aload_n S.1 S.2.1 dX1_canLeaveClaim_19 rfl (lv_at hl 1 rfl) ?_
          refine lv_iload_n S.1 S.2.1 dX1_canLeaveClaim_20 rfl (lv_at hl 2 rfl) ?_
          refine lv_iload_n S.1 S.2.1 dX1_canLeaveClaim_21 rfl (lv_at hl 0 rfl) ?_
          refine rdV S cv_RX1_65 (c_X1_canGo (f := nI i) (t := nI t) hV) hK hN hP (rp_rv hK hP) ⟨Nat.le_of_ble_eq_true rfl, Nat.le_of_ble_eq_true rfl⟩ ⟨Nat.zero_le _, Nat.zero_le _⟩ rfl hl.1 rfl (Nat.le_of_ble_eq_true rfl) dX1_canLeaveClaim_22 ?_
          refine lv_if_eq (tgt := 30) S.1 S.2.1 dX1_canLeaveClaim_25 (by decide) (fun h25 => ?_) (fun h25 => ?_)
          · have h25 : (goC N cn P M (nI i) (nI t)) = false := bI_f h25
            refine lv_iinc (v := nI (t + 1)) (lv' := [(2, .int (nI (t + 1))), (0, .ref (a 0)), (1, .int (nI i))]) S.1 S.2.1 dX1_canLeaveClaim_30 hl (k := 0) rfl (nI_1 _) (by decide) rfl (fun ls hl => ?_)
            refine lv_goto (tgt := 2) S.1 S.2.1 dX1_canLeaveClaim_33 (by decide) ?_
            exact ih2 (t + 1) ls (by omega) (by omega) (by rw [← hv, an_s h7]; simp [h16, h25]) (lv_sub hl [0, 1, 2] rfl)
          · have h25 : (goC N cn P M (nI i) (nI t)) = true := bI_t h25
            refine lv_iconst (v := nI 1) S.1 S.2.1 dX1_canLeaveClaim_28 (by decide) ?_
            exact rd_retz hQ S hr hlk (r1 (by rw [← hv, an_s h7]; simp [h16, h25])) dX1_canLeaveClaim_29
  exact loop2 _ 0 ls (Nat.lt_succ_self _) (Nat.zero_le _) rfl (lv_sub hl [0, 1, 2] rfl)
set_option maxHeartbeats 4000000 in
set_option maxRecDepth 100000 in
theorem c_X1_breaks {l : Launch} {D : va_G} {cI cL : ClassId} {a : Nat → Nat} {dep : Nat → Int32} {dk : Bool} {N pl : Nat} {pe : Int32} {cn : Nat → Nat} {P M : Nat → Nat → Int32} {r i : Nat} (hr1 : r = 1 ∨ r = 2 ∨ r = 3)  (hV : RInv N cn) : MetR l yX1_breaks cX1_breaks 3 (some .boolean) 3 [.ref (a 0), .int (nI r), .int (nI i)] D cI cL (RPw cI cL a dep dk N pl pe cn P M) (bI (brC N cn P M r i)) := by
  refine MetR.mk (by decide) (Nat.le_of_ble_eq_true rfl) ?_
  intro p e s m args below meth c Q hQ S hr hlk hN hK hP ls hl
  have S : CallFix p m c cX1_breaks 3 s args wt RX1 := S
  have hl : lv_has ls 3 [(0, .ref (a 0)), (1, .int (nI r)), (2, .int (nI i))] := hl
  rcases hr1 with rfl | rfl | rfl
  · refine lv_iload_n S.1 S.2.1 dX1_breaks_0 rfl (lv_at hl 1 rfl) ?_
    refine lv_tableIn (off := 27) (tgt := 28) S.1 S.2.1 dX1_breaks_1 (by decide) (by decide) (by decide) (by decide) ?_
    refine lv_aload_n S.1 S.2.1 dX1_breaks_28 rfl (lv_at hl 0 rfl) ?_
    refine lv_iconst (v := nI 0) S.1 S.2.1 dX1_breaks_29 (by decide) ?_
    refine lv_iload_n S.1 S.2.1 dX1_breaks_30 rfl (lv_at hl 2 rfl) ?_
    refine rdV S cv_RX1_68 (c_X1_isIn (k := 0) (x := nI i) (by decide) hV) hK hN hP (rp_rv hK hP) ⟨Nat.le_of_ble_eq_true rfl, Nat.le_of_ble_eq_true rfl⟩ ⟨Nat.zero_le _, Nat.zero_le _⟩ rfl hl.1 rfl (Nat.le_of_ble_eq_true rfl) dX1_breaks_31 ?_
    refine lv_if_eq (tgt := 50) S.1 S.2.1 dX1_breaks_34 (by decide) (fun h34 => ?_) (fun h34 => ?_)
    · have h34 : (inC cn P M 0 (nI i)) = false := bI_f h34
      refine lv_iconst (v := nI 0) S.1 S.2.1 dX1_breaks_50 (by decide) ?_
      exact rd_retz hQ S hr hlk (r0 (by simp [brC, h34])) dX1_breaks_51
    · have h34 : (inC cn P M 0 (nI i)) = true := bI_t h34
      refine lv_aload_n S.1 S.2.1 dX1_breaks_37 rfl (lv_at hl 0 rfl) ?_
      refine lv_iconst (v := nI 3) S.1 S.2.1 dX1_breaks_38 (by decide) ?_
      refine lv_iload_n S.1 S.2.1 dX1_breaks_39 rfl (lv_at hl 2 rfl) ?_
      refine rdV S cv_RX1_68 (c_X1_isIn (k := 3) (x := nI i) (by decide) hV) hK hN hP (rp_rv hK hP) ⟨Nat.le_of_ble_eq_true rfl, Nat.le_of_ble_eq_true rfl⟩ ⟨Nat.zero_le _, Nat.zero_le _⟩ rfl hl.1 rfl (Nat.le_of_ble_eq_true rfl) dX1_breaks_40 ?_
      refine lv_if_ne (tgt := 50) S.1 S.2.1 dX1_breaks_43 (by decide) (fun h43 => ?_) (fun h43 => ?_)
      · have h43 : (inC cn P M 3 (nI i)) = true := bI_t h43
        refine lv_iconst (v := nI 0) S.1 S.2.1 dX1_breaks_50 (by decide) ?_
        exact rd_retz hQ S hr hlk (r0 (by simp [brC, h34, h43])) dX1_breaks_51
      · have h43 : (inC cn P M 3 (nI i)) = false := bI_f h43
        refine lv_iconst (v := nI 1) S.1 S.2.1 dX1_breaks_46 (by decide) ?_
        refine lv_goto (tgt := 51) S.1 S.2.1 dX1_breaks_47 (by decide) ?_
        exact rd_retz hQ S hr hlk (r1 (by simp [brC, h34, h43])) dX1_breaks_51
  · refine lv_iload_n S.1 S.2.1 dX1_breaks_0 rfl (lv_at hl 1 rfl) ?_
    refine lv_tableIn (off := 51) (tgt := 52) S.1 S.2.1 dX1_breaks_1 (by decide) (by decide) (by decide) (by decide) ?_
    refine lv_aload_n S.1 S.2.1 dX1_breaks_52 rfl (lv_at hl 0 rfl) ?_
    refine lv_iconst (v := nI 3) S.1 S.2.1 dX1_breaks_53 (by decide) ?_
    refine lv_iload_n S.1 S.2.1 dX1_breaks_54 rfl (lv_at hl 2 rfl) ?_
    refine rdV S cv_RX1_68 (c_X1_isIn (k := 3) (x := nI i) (by decide) hV) hK hN hP (rp_rv hK hP) ⟨Nat.le_of_ble_eq_true rfl, Nat.le_of_ble_eq_true rfl⟩ ⟨Nat.zero_le _, Nat.zero_le _⟩ rfl hl.1 rfl (Nat.le_of_ble_eq_true rfl) dX1_breaks_55 ?_
    refine lv_if_eq (tgt := 73) S.1 S.2.1 dX1_breaks_58 (by decide) (fun h58 => ?_) (fun h58 => ?_)
    · have h58 : (inC cn P M 3 (nI i)) = false := bI_f h58
      refine lv_iconst (v := nI 0) S.1 S.2.1 dX1_breaks_73 (by decide) ?_
      exact rd_retz hQ S hr hlk (r0 (by simp [brC, h58])) dX1_breaks_74
    · have h58 : (inC cn P M 3 (nI i)) = true := bI_t h58
      refine lv_aload_n S.1 S.2.1 dX1_breaks_61 rfl (lv_at hl 0 rfl) ?_
      refine lv_iload_n S.1 S.2.1 dX1_breaks_62 rfl (lv_at hl 2 rfl) ?_
      refine rdV S cv_RX1_104 (c_X1_canLeaveClaim (i := i) hV) hK hN hP (rp_rv hK hP) ⟨Nat.le_of_ble_eq_true rfl, Nat.le_of_ble_eq_true rfl⟩ ⟨Nat.zero_le _, Nat.zero_le _⟩ rfl hl.1 rfl (Nat.le_of_ble_eq_true rfl) dX1_breaks_63 ?_
      refine lv_if_eq (tgt := 73) S.1 S.2.1 dX1_breaks_66 (by decide) (fun h66 => ?_) (fun h66 => ?_)
      · have h66 : (leC N cn P M i) = false := bI_f h66
        refine lv_iconst (v := nI 0) S.1 S.2.1 dX1_breaks_73 (by decide) ?_
        exact rd_retz hQ S hr hlk (r0 (by simp [brC, h58, h66])) dX1_breaks_74
      · have h66 : (leC N cn P M i) = true := bI_t h66
        refine lv_iconst (v := nI 1) S.1 S.2.1 dX1_breaks_69 (by decide) ?_
        refine lv_goto (tgt := 74) S.1 S.2.1 dX1_breaks_70 (by decide) ?_
        exact rd_retz hQ S hr hlk (r1 (by simp [brC, h58, h66])) dX1_breaks_74
  · refine lv_iload_n S.1 S.2.1 dX1_breaks_0 rfl (lv_at hl 1 rfl) ?_
    refine lv_tableIn (off := 74) (tgt := 75) S.1 S.2.1 dX1_breaks_1 (by decide) (by decide) (by decide) (by decide) ?_
    refine lv_aload_n S.1 S.2.1 dX1_breaks_75 rfl (lv_at hl 0 rfl) ?_
    refine lv_iconst (v := nI 3) S.1 S.2.1 dX1_breaks_76 (by decide) ?_
    refine lv_iload_n S.1 S.2.1 dX1_breaks_77 rfl (lv_at hl 2 rfl) ?_
    refine rdV S cv_RX1_68 (c_X1_isIn (k := 3) (x := nI i) (by decide) hV) hK hN hP (rp_rv hK hP) ⟨Nat.le_of_ble_eq_true rfl, Nat.le_of_ble_eq_true rfl⟩ ⟨Nat.zero_le _, Nat.zero_le _⟩ rfl hl.1 rfl (Nat.le_of_ble_eq_true rfl) dX1_breaks_78 ?_
    refine lv_if_eq (tgt := 97) S.1 S.2.1 dX1_breaks_81 (by decide) (fun h81 => ?_) (fun h81 => ?_)
    · have h81 : (inC cn P M 3 (nI i)) = false := bI_f h81
      refine lv_iconst (v := nI 0) S.1 S.2.1 dX1_breaks_97 (by decide) ?_
      exact rd_retz hQ S hr hlk (r0 (by simp [brC, h81])) dX1_breaks_98
    · have h81 : (inC cn P M 3 (nI i)) = true := bI_t h81
      refine lv_aload_n S.1 S.2.1 dX1_breaks_84 rfl (lv_at hl 0 rfl) ?_
      refine lv_iconst (v := nI 2) S.1 S.2.1 dX1_breaks_85 (by decide) ?_
      refine lv_iload_n S.1 S.2.1 dX1_breaks_86 rfl (lv_at hl 2 rfl) ?_
      refine rdV S cv_RX1_68 (c_X1_isIn (k := 2) (x := nI i) (by decide) hV) hK hN hP (rp_rv hK hP) ⟨Nat.le_of_ble_eq_true rfl, Nat.le_of_ble_eq_true rfl⟩ ⟨Nat.zero_le _, Nat.zero_le _⟩ rfl hl.1 rfl (Nat.le_of_ble_eq_true rfl) dX1_breaks_87 ?_
      refine lv_if_eq (tgt := 97) S.1 S.2.1 dX1_breaks_90 (by decide) (fun h90 => ?_) (fun h90 => ?_)
      · have h90 : (inC cn P M 2 (nI i)) = false := bI_f h90
        refine lv_iconst (v := nI 0) S.1 S.2.1 dX1_breaks_97 (by decide) ?_
        exact rd_retz hQ S hr hlk (r0 (by simp [brC, h81, h90])) dX1_breaks_98
      · have h90 : (inC cn P M 2 (nI i)) = true := bI_t h90
        refine lv_iconst (v := nI 1) S.1 S.2.1 dX1_breaks_93 (by decide) ?_
        refine lv_goto (tgt := 98) S.1 S.2.1 dX1_breaks_94 (by decide) ?_
        exact rd_retz hQ S hr hlk (r1 (by simp [brC, h81, h90])) dX1_breaks_98
set_option maxHeartbeats 4000000 in
set_option maxRecDepth 100000 in
theorem c_X1_leastBreaking {l : Launch} {D : va_G} {cI cL : ClassId} {a : Nat → Nat} {dep : Nat → Int32} {dk : Bool} {N pl : Nat} {pe : Int32} {cn : Nat → Nat} {P M : Nat → Nat → Int32} {r : Nat} (hr1 : r = 1 ∨ r = 2 ∨ r = 3)  (hV : RInv N cn) : MetR l yX1_leastBreaking cX1_leastBreaking 3 (some .int) 4 [.ref (a 0), .int (nI r)] D cI cL (RPw cI cL a dep dk N pl pe cn P M) (oI (-1) (lbC N cn P M r)) := by
  refine MetR.mk (by decide) (Nat.le_of_ble_eq_true rfl) ?_
  intro p e s m args below meth c Q hQ S hr hlk hN hK hP ls hl
  have S : CallFix p m c cX1_leastBreaking 3 s args wt RX1 := S
  have hl : lv_has ls 3 [(0, .ref (a 0)), (1, .int (nI r))] := hl
  have hz := hV.S
  refine lv_iconst (v := nI 0) S.1 S.2.1 dX1_leastBreaking_0 (by decide) ?_
  refine lv_istore_n (lv' := [(2, .int (nI 0)), (0, .ref (a 0)), (1, .int (nI r))]) S.1 S.2.1 dX1_leastBreaking_1 rfl hl (by decide) rfl (fun ls hl => ?_)
  have loop2 : ∀ (nf : Nat) (t : Nat) (ls : Array Slot), 2 ^ N - t < nf → t ≤ 2 ^ N → fo (brC N cn P M r) (2 ^ N) t = lbC N cn P M r → lv_has ls 3 [(2, .int (nI t)), (0, .ref (a 0)), (1, .int (nI r))] → W p l e (rmd 4) s m args below meth c s.heap [] 0 0 Q (F0 m 2 ls []) := by
    intro nf
    induction nf with
    | zero => exact fun t ls hn => absurd hn (Nat.not_lt_zero _)
    | succ nf ih2 =>
      intro t ls hn ht hv hl
      refine lv_iload_n S.1 S.2.1 dX1_leastBreaking_2 rfl (lv_at hl 0 rfl) ?_
      refine lv_aload_n S.1 S.2.1 dX1_leastBreaking_3 rfl (lv_at hl 1 rfl) ?_
      refine rdV S cv_RX1_78 (c_X1_stateCount hV) hK hN hP (rp_rv hK hP) ⟨Nat.le_of_ble_eq_true rfl, Nat.le_of_ble_eq_true rfl⟩ ⟨Nat.zero_le _, Nat.zero_le _⟩ rfl hl.1 rfl (Nat.le_of_ble_eq_true rfl) dX1_leastBreaking_4 ?_
      refine lv_icmp_ge (tgt := 27) S.1 S.2.1 dX1_leastBreaking_7 (by decide) (fun h7 => ?_) (fun h7 => ?_)
      · have h7 := ge_n (by omega) (by omega) h7
        refine lv_iconst (v := -1) S.1 S.2.1 dX1_leastBreaking_27 (by decide) ?_
        exact rd_ret hQ S hr hlk (by rw [← hv, fo_d h7]; rfl) dX1_leastBreaking_28
      · have h7 := ge_f (by omega) (by omega) h7
        refine lv_aload_n S.1 S.2.1 dX1_leastBreaking_10 rfl (lv_at hl 1 rfl) ?_
        refine lv_iload_n S.1 S.2.1 dX1_leastBreaking_11 rfl (lv_at hl 2 rfl) ?_
        refine lv_iload_n S.1 S.2.1 dX1_leastBreaking_12 rfl (lv_at hl 0 rfl) ?_
        refine rdV S cv_RX1_101 (c_X1_breaks (r := r) (i := t) hr1 hV) hK hN hP (rp_rv hK hP) ⟨Nat.le_of_ble_eq_true rfl, Nat.le_of_ble_eq_true rfl⟩ ⟨Nat.zero_le _, Nat.zero_le _⟩ rfl hl.1 rfl (Nat.le_of_ble_eq_true rfl) dX1_leastBreaking_13 ?_
        refine lv_if_eq (tgt := 21) S.1 S.2.1 dX1_leastBreaking_16 (by decide) (fun h16 => ?_) (fun h16 => ?_)
        · have h16 : (brC N cn P M r t) = false := bI_f h16
          refine lv_iinc (v := nI (t + 1)) (lv' := [(2, .int (nI (t + 1))), (0, .ref (a 0)), (1, .int (nI r))]) S.1 S.2.1 dX1_leastBreaking_21 hl (k := 0) rfl (nI_1 _) (by decide) rfl (fun ls hl => ?_)
          refine lv_goto (tgt := 2) S.1 S.2.1 dX1_leastBreaking_24 (by decide) ?_
          exact ih2 (t + 1) ls (by omega) (by omega) (by rw [← hv, fo_s h7, if_neg (by rw [h16]; decide)]) (lv_sub hl [0, 1, 2] rfl)
        · have h16 : (brC N cn P M r t) = true := bI_t h16
          refine lv_iload_n S.1 S.2.1 dX1_leastBreaking_19 rfl (lv_at hl 0 rfl) ?_
          exact rd_ret hQ S hr hlk (by rw [← hv, fo_s h7, if_pos h16]; rfl) dX1_leastBreaking_20
  exact loop2 _ 0 ls (Nat.lt_succ_self _) (Nat.zero_le _) rfl (lv_sub hl [0, 1, 2] rfl)
set_option maxHeartbeats 4000000 in
set_option maxRecDepth 100000 in
theorem c_X1_check {l : Launch} {D : va_G} {cI cL : ClassId} {a : Nat → Nat} {dep : Nat → Int32} {dk : Bool} {N pl : Nat} {pe : Int32} {cn : Nat → Nat} {P M : Nat → Nat → Int32}  (hV : RInv N cn) : MetR l yX1_check cX1_check 2 (some .int) 5 [.ref (a 0)] D cI cL (RPw cI cL a dep dk N pl pe cn P M) (oI 0 (chC N cn P M)) := by
  refine MetR.mk (by decide) (Nat.le_of_ble_eq_true rfl) ?_
  intro p e s m args below meth c Q hQ S hr hlk hN hK hP ls hl
  have S : CallFix p m c cX1_check 2 s args wt RX1 := S
  have hl : lv_has ls 2 [(0, .ref (a 0))] := hl
  refine lv_iconst (v := nI 1) S.1 S.2.1 dX1_check_0 (by decide) ?_
  refine lv_istore_n (lv' := [(1, .int (nI 1)), (0, .ref (a 0))]) S.1 S.2.1 dX1_check_1 rfl hl (by decide) rfl (fun ls hl => ?_)
  have loop2 : ∀ (nf : Nat) (r : Nat) (ls : Array Slot), 4 - r < nf → 1 ≤ r → r ≤ 4 → fo (fun r => !decide (oI (-1) (lbC N cn P M r) = -1)) 4 r = chC N cn P M → lv_has ls 2 [(1, .int (nI r)), (0, .ref (a 0))] → W p l e (rmd 5) s m args below meth c s.heap [] 0 0 Q (F0 m 2 ls []) := by
    intro nf
    induction nf with
    | zero => exact fun r ls hn => absurd hn (Nat.not_lt_zero _)
    | succ nf ih2 =>
      intro r ls hn h1 h2 hv hl
      refine lv_iload_n S.1 S.2.1 dX1_check_2 rfl (lv_at hl 0 rfl) ?_
      refine lv_iconst (v := nI 3) S.1 S.2.1 dX1_check_3 (by decide) ?_
      refine lv_icmp_gt (tgt := 24) S.1 S.2.1 dX1_check_4 (by decide) (fun h4 => ?_) (fun h4 => ?_)
      · have h4 := lt_n (by omega) (by omega) h4
        refine lv_iconst (v := nI 0) S.1 S.2.1 dX1_check_24 (by decide) ?_
        exact rd_ret hQ S hr hlk (by rw [← hv, fo_d (by omega)]; rfl) dX1_check_25
      · have h4 := lt_f (by omega) (by omega) h4
        refine lv_aload_n S.1 S.2.1 dX1_check_7 rfl (lv_at hl 1 rfl) ?_
        refine lv_iload_n S.1 S.2.1 dX1_check_8 rfl (lv_at hl 0 rfl) ?_
        refine rdV S cv_RX1_84 (c_X1_leastBreaking (r := r) (by omega) hV) hK hN hP (rp_rv hK hP) ⟨Nat.le_of_ble_eq_true rfl, Nat.le_of_ble_eq_true rfl⟩ ⟨Nat.zero_le _, Nat.zero_le _⟩ rfl hl.1 rfl (Nat.le_of_ble_eq_true rfl) dX1_check_9 ?_
        refine lv_iconst (v := -1) S.1 S.2.1 dX1_check_12 (by decide) ?_
        refine lv_icmp_eq (tgt := 18) S.1 S.2.1 dX1_check_13 (by decide) (fun h13 => ?_) (fun h13 => ?_)
        · refine lv_iinc (v := nI (r + 1)) (lv' := [(1, .int (nI (r + 1))), (0, .ref (a 0))]) S.1 S.2.1 dX1_check_18 hl (k := 0) rfl (nI_1 _) (by decide) rfl (fun ls hl => ?_)
          refine lv_goto (tgt := 2) S.1 S.2.1 dX1_check_21 (by decide) ?_
          exact ih2 (r + 1) ls (by omega) (by omega) (by omega) (by rw [← hv, fo_s (i := r) (by omega), if_neg (by simp [h13])]) (lv_sub hl [0, 1] rfl)
        · refine lv_iload_n S.1 S.2.1 dX1_check_16 rfl (lv_at hl 0 rfl) ?_
          exact rd_ret hQ S hr hlk (by rw [← hv, fo_s (by omega), if_pos (by simp [h13])]; rfl) dX1_check_17
  exact loop2 _ 1 ls (Nat.lt_succ_self _) (by decide) (by decide) rfl (lv_sub hl [0, 1] rfl)
set_option maxHeartbeats 4000000 in
set_option maxRecDepth 100000 in
theorem c_X1_flaw {l : Launch} {D : va_G} {cI cL : ClassId} {a : Nat → Nat} {dep : Nat → Int32} {dk : Bool} {N pl : Nat} {pe : Int32} {cn : Nat → Nat} {P M : Nat → Nat → Int32}  (hV : RInv N cn) : MetR l yX1_flaw cX1_flaw 2 (some .int) 6 [.ref (a 0)] D cI cL (RPw cI cL a dep dk N pl pe cn P M) (flC N cn P M) := by
  refine MetR.mk (by decide) (Nat.le_of_ble_eq_true rfl) ?_
  intro p e s m args below meth c Q hQ S hr hlk hN hK hP ls hl
  have S : CallFix p m c cX1_flaw 2 s args wt RX1 := S
  have hl : lv_has ls 2 [(0, .ref (a 0))] := hl
  refine lv_aload_n S.1 S.2.1 dX1_flaw_0 rfl (lv_at hl 0 rfl) ?_
  refine rdV S cv_RX1_88 (c_X1_check hV) hK hN hP (rp_rv hK hP) ⟨Nat.le_of_ble_eq_true rfl, Nat.le_of_ble_eq_true rfl⟩ ⟨Nat.zero_le _, Nat.zero_le _⟩ rfl hl.1 rfl (Nat.le_of_ble_eq_true rfl) dX1_flaw_1 ?_
  refine lv_istore_n (lv' := [(1, .int (oI 0 (chC N cn P M))), (0, .ref (a 0))]) S.1 S.2.1 dX1_flaw_4 rfl hl (by decide) rfl (fun ls hl => ?_)
  have hc : ∀ r, chC N cn P M = some r → r = 1 ∨ r = 2 ∨ r = 3 := fun r h => by have := fo_in h; omega
  rcases hch : chC N cn P M with _ | r
  · rw [hch] at hl
    have hl : lv_has ls 2 [(1, .int (nI 0)), (0, .ref (a 0))] := hl
    refine lv_iload_n S.1 S.2.1 dX1_flaw_5 rfl (lv_at hl 0 rfl) ?_
    refine lv_if_ne (tgt := 13) S.1 S.2.1 dX1_flaw_6 (by decide) (fun hh => absurd (by decide) hh) (fun _ => ?_)
    refine lv_iconst (v := -1) S.1 S.2.1 dX1_flaw_9 (by decide) ?_
    refine lv_goto (tgt := 18) S.1 S.2.1 dX1_flaw_10 (by decide) ?_
    exact rd_ret hQ S hr hlk (by simp [flC, hch]) dX1_flaw_18
  · rw [hch] at hl
    have hl : lv_has ls 2 [(1, .int (nI r)), (0, .ref (a 0))] := hl
    have hr3 := hc r hch
    refine lv_iload_n S.1 S.2.1 dX1_flaw_5 rfl (lv_at hl 0 rfl) ?_
    refine lv_if_ne (tgt := 13) S.1 S.2.1 dX1_flaw_6 (by decide) (fun _ => ?_) (fun hh => absurd hh (fun q => by rcases hr3 with rfl | rfl | rfl <;> exact absurd q (by decide)))
    refine lv_aload_n S.1 S.2.1 dX1_flaw_13 rfl (lv_at hl 1 rfl) ?_
    refine lv_iload_n S.1 S.2.1 dX1_flaw_14 rfl (lv_at hl 0 rfl) ?_
    refine rdV S cv_RX1_84 (c_X1_leastBreaking (r := r) hr3 hV) hK hN hP (rp_rv hK hP) ⟨Nat.le_of_ble_eq_true rfl, Nat.le_of_ble_eq_true rfl⟩ ⟨Nat.zero_le _, Nat.zero_le _⟩ rfl hl.1 rfl (Nat.le_of_ble_eq_true rfl) dX1_flaw_15 ?_
    exact rd_ret hQ S hr hlk (by simp [flC, hch]) dX1_flaw_18
set_option maxHeartbeats 4000000 in
set_option maxRecDepth 100000 in
theorem c_X1_switches {l : Launch} {D : va_G} {cI cL : ClassId} {a : Nat → Nat} {dep : Nat → Int32} {dk : Bool} {N pl : Nat} {pe : Int32} {cn : Nat → Nat} {P M : Nat → Nat → Int32}   : MetR l yX1_switches cX1_switches 1 (some .int) 0 [.ref (a 0)] D cI cL (RPw cI cL a dep dk N pl pe cn P M) (nI N) := by
  refine MetR.mk (by decide) (Nat.le_of_ble_eq_true rfl) ?_
  intro p e s m args below meth c Q hQ S hr hlk hN hK hP ls hl
  have S : CallFix p m c cX1_switches 1 s args wt RX1 := S
  have hl : lv_has ls 1 [(0, .ref (a 0))] := hl
  refine lv_aload_n S.1 S.2.1 dX1_switches_0 rfl (lv_at hl 0 rfl) ?_
  refine g1_switchCount S hK hP dX1_switches_1 ?_
  exact rd_ret hQ S hr hlk rfl dX1_switches_4
set_option maxHeartbeats 4000000 in
set_option maxRecDepth 100000 in
theorem c_X1_count {l : Launch} {D : va_G} {cI cL : ClassId} {a : Nat → Nat} {dep : Nat → Int32} {dk : Bool} {N pl : Nat} {pe : Int32} {cn : Nat → Nat} {P M : Nat → Nat → Int32} {x : Int32}   : MetR l yX1_count cX1_count 2 (some .int) 1 [.ref (a 0), .int x] D cI cL (RPw cI cL a dep dk N pl pe cn P M) (if liB x = true then nI (cn x.toNatClampNeg) else -1) := by
  refine MetR.mk (by decide) (Nat.le_of_ble_eq_true rfl) ?_
  intro p e s m args below meth c Q hQ S hr hlk hN hK hP ls hl
  have S : CallFix p m c cX1_count 2 s args wt RX1 := S
  have hl : lv_has ls 2 [(0, .ref (a 0)), (1, .int x)] := hl
  rcases hb : liB x with _ | _
  · skip
    refine lv_iload_n S.1 S.2.1 dX1_count_0 rfl (lv_at hl 1 rfl) ?_
    refine rdS S ct_RX1_40 (c_X1_isList (x := x)) hK hN hP ⟨Nat.le_of_ble_eq_true rfl, Nat.le_of_ble_eq_true rfl⟩ ⟨Nat.zero_le _, Nat.zero_le _⟩ rfl hl.1 rfl (Nat.le_of_ble_eq_true rfl) dX1_count_1 ?_
    refine lv_if_eq (tgt := 19) S.1 S.2.1 dX1_count_4 (by decide) (fun _ => ?_) (fun hh => absurd (by rw [hb]; rfl) hh)
    refine lv_iconst (v := -1) S.1 S.2.1 dX1_count_19 (by decide) ?_
    exact rd_ret hQ S hr hlk (by rw [hb]; rfl) dX1_count_20
  · obtain ⟨k, hk, rfl⟩ := liB_t hb
    refine lv_iload_n S.1 S.2.1 dX1_count_0 rfl (lv_at hl 1 rfl) ?_
    refine rdS S ct_RX1_40 (c_X1_isList (x := nI k)) hK hN hP ⟨Nat.le_of_ble_eq_true rfl, Nat.le_of_ble_eq_true rfl⟩ ⟨Nat.zero_le _, Nat.zero_le _⟩ rfl hl.1 rfl (Nat.le_of_ble_eq_true rfl) dX1_count_1 ?_
    refine lv_if_eq (tgt := 19) S.1 S.2.1 dX1_count_4 (by decide) (fun hh => absurd hh (by rw [hb]; decide)) (fun _ => ?_)
    refine lv_aload_n S.1 S.2.1 dX1_count_7 rfl (lv_at hl 0 rfl) ?_
    refine g1_lists S hK hP dX1_count_8 ?_
    refine lv_iload_n S.1 S.2.1 dX1_count_11 rfl (lv_at hl 1 rfl) ?_
    refine a1_lists (k := k) hk S hK hP dX1_count_12 ?_
    refine g1_size hk S hN hK hP dX1_count_13 ?_
    refine lv_goto (tgt := 20) S.1 S.2.1 dX1_count_16 (by decide) ?_
    exact rd_ret hQ S hr hlk (by rw [if_pos hb, nI_clamp (by omega)]) dX1_count_20
set_option maxHeartbeats 4000000 in
set_option maxRecDepth 100000 in
theorem c_X1_holds {l : Launch} {D : va_G} {cI cL : ClassId} {a : Nat → Nat} {dep : Nat → Int32} {dk : Bool} {N pl : Nat} {pe : Int32} {cn : Nat → Nat} {P M : Nat → Nat → Int32} {li x y : Int32}  (hV : RInv N cn) : MetR l yX1_holds cX1_holds 4 (some .boolean) 2 [.ref (a 0), .int li, .int x, .int y] D cI cL (RPw cI cL a dep dk N pl pe cn P M) (bI (hoC N cn P M li x y)) := by
  refine MetR.mk (by decide) (Nat.le_of_ble_eq_true rfl) ?_
  intro p e s m args below meth c Q hQ S hr hlk hN hK hP ls hl
  have S : CallFix p m c cX1_holds 4 s args wt RX1 := S
  have hl : lv_has ls 4 [(0, .ref (a 0)), (1, .int li), (2, .int x), (3, .int y)] := hl
  rcases hb : liB li with _ | _
  · skip
    refine lv_iload_n S.1 S.2.1 dX1_holds_0 rfl (lv_at hl 1 rfl) ?_
    refine rdS S ct_RX1_40 (c_X1_isList (x := li)) hK hN hP ⟨Nat.le_of_ble_eq_true rfl, Nat.le_of_ble_eq_true rfl⟩ ⟨Nat.zero_le _, Nat.zero_le _⟩ rfl hl.1 rfl (Nat.le_of_ble_eq_true rfl) dX1_holds_1 ?_
    refine lv_if_eq (tgt := 15) S.1 S.2.1 dX1_holds_4 (by decide) (fun _ => ?_) (fun hh => absurd (by rw [hb]; rfl) hh)
    refine lv_iconst (v := nI 0) S.1 S.2.1 dX1_holds_15 (by decide) ?_
    exact rd_retz hQ S hr hlk (r0 (by simp [hoC, hb])) dX1_holds_16
  · obtain ⟨k, hk, rfl⟩ := liB_t hb
    refine lv_iload_n S.1 S.2.1 dX1_holds_0 rfl (lv_at hl 1 rfl) ?_
    refine rdS S ct_RX1_40 (c_X1_isList (x := nI k)) hK hN hP ⟨Nat.le_of_ble_eq_true rfl, Nat.le_of_ble_eq_true rfl⟩ ⟨Nat.zero_le _, Nat.zero_le _⟩ rfl hl.1 rfl (Nat.le_of_ble_eq_true rfl) dX1_holds_1 ?_
    refine lv_if_eq (tgt := 15) S.1 S.2.1 dX1_holds_4 (by decide) (fun hh => absurd hh (by rw [hb]; decide)) (fun _ => ?_)
    refine lv_aload_n S.1 S.2.1 dX1_holds_7 rfl (lv_at hl 0 rfl) ?_
    refine lv_iload_n S.1 S.2.1 dX1_holds_8 rfl (lv_at hl 2 rfl) ?_
    refine rdV S cv_RX1_62 (c_X1_isState (x := x) hV) hK hN hP (rp_rv hK hP) ⟨Nat.le_of_ble_eq_true rfl, Nat.le_of_ble_eq_true rfl⟩ ⟨Nat.zero_le _, Nat.zero_le _⟩ rfl hl.1 rfl (Nat.le_of_ble_eq_true rfl) dX1_holds_9 ?_
    refine lv_if_ne (tgt := 17) S.1 S.2.1 dX1_holds_12 (by decide) (fun h12 => ?_) (fun h12 => ?_)
    · have h12 : (stB N x) = true := bI_t h12
      refine lv_iload_n S.1 S.2.1 dX1_holds_17 rfl (lv_at hl 1 rfl) ?_
      refine lv_iconst (v := nI 1) S.1 S.2.1 dX1_holds_18 (by decide) ?_
      refine lv_icmp_ne (tgt := 45) S.1 S.2.1 dX1_holds_19 (by decide) (fun h19 => ?_) (fun h19 => ?_)
      · refine lv_aload_n S.1 S.2.1 dX1_holds_45 rfl (lv_at hl 0 rfl) ?_
        refine lv_iload_n S.1 S.2.1 dX1_holds_46 rfl (lv_at hl 1 rfl) ?_
        refine lv_iload_n S.1 S.2.1 dX1_holds_47 rfl (lv_at hl 2 rfl) ?_
        refine rdV S cv_RX1_68 (c_X1_isIn (k := k) (x := x) hk hV) hK hN hP (rp_rv hK hP) ⟨Nat.le_of_ble_eq_true rfl, Nat.le_of_ble_eq_true rfl⟩ ⟨Nat.zero_le _, Nat.zero_le _⟩ rfl hl.1 rfl (Nat.le_of_ble_eq_true rfl) dX1_holds_48 ?_
        exact rd_retz hQ S hr hlk (by simp [hoC, nI_clamp (show k < 2 ^ 31 by omega), hb, h12, h19]) dX1_holds_51
      · refine lv_aload_n S.1 S.2.1 dX1_holds_22 rfl (lv_at hl 0 rfl) ?_
        refine lv_iload_n S.1 S.2.1 dX1_holds_23 rfl (lv_at hl 3 rfl) ?_
        refine rdV S cv_RX1_62 (c_X1_isState (x := y) hV) hK hN hP (rp_rv hK hP) ⟨Nat.le_of_ble_eq_true rfl, Nat.le_of_ble_eq_true rfl⟩ ⟨Nat.zero_le _, Nat.zero_le _⟩ rfl hl.1 rfl (Nat.le_of_ble_eq_true rfl) dX1_holds_24 ?_
        refine lv_if_eq (tgt := 43) S.1 S.2.1 dX1_holds_27 (by decide) (fun h27 => ?_) (fun h27 => ?_)
        · have h27 : (stB N y) = false := bI_f h27
          refine lv_iconst (v := nI 0) S.1 S.2.1 dX1_holds_43 (by decide) ?_
          exact rd_retz hQ S hr hlk (r0 (by simp [hoC, show liB (nI 1) = true from by decide, hb, h12, h19, h27])) dX1_holds_44
        · have h27 : (stB N y) = true := bI_t h27
          refine lv_aload_n S.1 S.2.1 dX1_holds_30 rfl (lv_at hl 0 rfl) ?_
          refine lv_iload_n S.1 S.2.1 dX1_holds_31 rfl (lv_at hl 2 rfl) ?_
          refine lv_iload_n S.1 S.2.1 dX1_holds_32 rfl (lv_at hl 3 rfl) ?_
          refine rdV S cv_RX1_65 (c_X1_canGo (f := x) (t := y) hV) hK hN hP (rp_rv hK hP) ⟨Nat.le_of_ble_eq_true rfl, Nat.le_of_ble_eq_true rfl⟩ ⟨Nat.zero_le _, Nat.zero_le _⟩ rfl hl.1 rfl (Nat.le_of_ble_eq_true rfl) dX1_holds_33 ?_
          refine lv_if_eq (tgt := 43) S.1 S.2.1 dX1_holds_36 (by decide) (fun h36 => ?_) (fun h36 => ?_)
          · have h36 : (goC N cn P M x y) = false := bI_f h36
            refine lv_iconst (v := nI 0) S.1 S.2.1 dX1_holds_43 (by decide) ?_
            exact rd_retz hQ S hr hlk (r0 (by simp [hoC, show liB (nI 1) = true from by decide, hb, h12, h19, h27, h36])) dX1_holds_44
          · have h36 : (goC N cn P M x y) = true := bI_t h36
            refine lv_iconst (v := nI 1) S.1 S.2.1 dX1_holds_39 (by decide) ?_
            refine lv_goto (tgt := 44) S.1 S.2.1 dX1_holds_40 (by decide) ?_
            exact rd_retz hQ S hr hlk (r1 (by simp [hoC, show liB (nI 1) = true from by decide, hb, h12, h19, h27, h36])) dX1_holds_44
    · have h12 : (stB N x) = false := bI_f h12
      refine lv_iconst (v := nI 0) S.1 S.2.1 dX1_holds_15 (by decide) ?_
      exact rd_retz hQ S hr hlk (r0 (by simp [hoC, show liB (nI 1) = true from by decide, hb, h12])) dX1_holds_16
set_option maxHeartbeats 4000000 in
set_option maxRecDepth 100000 in
theorem c_X1_arrives {l : Launch} {D : va_G} {cI cL : ClassId} {a : Nat → Nat} {dep : Nat → Int32} {dk : Bool} {N pl : Nat} {pe : Int32} {cn : Nat → Nat} {P M : Nat → Nat → Int32}  (hV : RInv N cn) : MetR l yX1_arrives cX1_arrives 1 (some .boolean) 2 [.ref (a 0)] D cI cL (RPw cI cL a dep dk N pl pe cn P M) (bI (!decide (nI pl ≤ 0) && inC cn P M 2 pe)) := by
  refine MetR.mk (by decide) (Nat.le_of_ble_eq_true rfl) ?_
  intro p e s m args below meth c Q hQ S hr hlk hN hK hP ls hl
  have S : CallFix p m c cX1_arrives 1 s args wt RX1 := S
  have hl : lv_has ls 1 [(0, .ref (a 0))] := hl
  refine lv_aload_n S.1 S.2.1 dX1_arrives_0 rfl (lv_at hl 0 rfl) ?_
  refine g1_pathLength S hK hP dX1_arrives_1 ?_
  refine lv_if_le (tgt := 23) S.1 S.2.1 dX1_arrives_4 (by decide) (fun h4 => ?_) (fun h4 => ?_)
  · refine lv_iconst (v := nI 0) S.1 S.2.1 dX1_arrives_23 (by decide) ?_
    exact rd_retz hQ S hr hlk (r0 (by simp [h4])) dX1_arrives_24
  · refine lv_aload_n S.1 S.2.1 dX1_arrives_7 rfl (lv_at hl 0 rfl) ?_
    refine lv_iconst (v := nI 2) S.1 S.2.1 dX1_arrives_8 (by decide) ?_
    refine lv_aload_n S.1 S.2.1 dX1_arrives_9 rfl (lv_at hl 0 rfl) ?_
    refine g1_pathEnd S hK hP dX1_arrives_10 ?_
    refine rdV S cv_RX1_68 (c_X1_isIn (k := 2) (x := pe) (by decide) hV) hK hN hP (rp_rv hK hP) ⟨Nat.le_of_ble_eq_true rfl, Nat.le_of_ble_eq_true rfl⟩ ⟨Nat.zero_le _, Nat.zero_le _⟩ rfl hl.1 rfl (Nat.le_of_ble_eq_true rfl) dX1_arrives_13 ?_
    refine lv_if_eq (tgt := 23) S.1 S.2.1 dX1_arrives_16 (by decide) (fun h16 => ?_) (fun h16 => ?_)
    · have h16 : (inC cn P M 2 pe) = false := bI_f h16
      refine lv_iconst (v := nI 0) S.1 S.2.1 dX1_arrives_23 (by decide) ?_
      exact rd_retz hQ S hr hlk (r0 (by simp [h4, h16])) dX1_arrives_24
    · have h16 : (inC cn P M 2 pe) = true := bI_t h16
      refine lv_iconst (v := nI 1) S.1 S.2.1 dX1_arrives_19 (by decide) ?_
      refine lv_goto (tgt := 24) S.1 S.2.1 dX1_arrives_20 (by decide) ?_
      exact rd_retz hQ S hr hlk (r1 (by simp [h4, h16])) dX1_arrives_24
end
section
theorem fd_b {α : Type} {f : Nat → α → α} {S i : Nat} {x x' r : α} (h : i < S) (hv : fd f S i x = r) (e : f i x = x') : fd f S (i + 1) x' = r := by
  rw [← e, ← fd_s h]
  exact hv
def bgB (x : Int32) : Bool := !decide (x < nI 1) && decide (x ≤ nI 6)
def clB (N : Nat) (cn : Nat → Nat) (li x y : Int32) : Bool := liB li && (seB N li x && (seB N li y && decide (cn li.toNatClampNeg < 24)))
def drB (cn : Nat → Nat) (li : Int32) : Bool := liB li && !decide (cn li.toNatClampNeg = 0)
theorem liB_n : ∀ {k : Nat}, k < 4 → liB (nI k) = true := by
  intro k hk
  rcases (show k = 0 ∨ k = 1 ∨ k = 2 ∨ k = 3 by omega) with rfl | rfl | rfl | rfl <;> decide
theorem stB_n {N : Nat} {cn : Nat → Nat} (hV : RInv N cn) {i : Nat} (hi : i < 2 ^ N) : stB N (nI i) = true := by
  have hz := hV.S
  unfold stB
  rw [decide_eq_false (nI_pos (by omega)), decide_eq_false (fun q => absurd ((nI_leI (by omega) (by omega)).mp q) (by omega))]
  rfl
def waB (N pl : Nat) (pe : Int32) (cn : Nat → Nat) (P M : Nat → Nat → Int32) (x : Int32) : Bool := stB N x && (decide (pl < 64) && (if nI pl = 0 then inC cn P M 0 x else goC N cn P M pe x))
theorem waB_t {N pl : Nat} {pe : Int32} {cn : Nat → Nat} {P M : Nat → Nat → Int32} {x : Int32} (h1 : stB N x = true) (h2 : pl < 64) (h3 : (nI pl = 0 ∧ inC cn P M 0 x = true) ∨ (¬ nI pl = 0 ∧ goC N cn P M pe x = true)) : waB N pl pe cn P M x = true := by
  unfold waB
  rw [h1, decide_eq_true h2]
  rcases h3 with ⟨a, b⟩ | ⟨a, b⟩
  · rw [if_pos a, b]; rfl
  · rw [if_neg a, b]; rfl
theorem waB_e {N pl : Nat} {pe : Int32} {cn : Nat → Nat} {P M : Nat → Nat → Int32} {x : Int32} (h : waB N pl pe cn P M x = true) : stB N x = true ∧ pl < 64 ∧ ((nI pl = 0 → inC cn P M 0 x = true) ∧ (¬ nI pl = 0 → goC N cn P M pe x = true)) := by
  unfold waB at h
  simp only [Bool.and_eq_true, decide_eq_true_eq] at h
  refine ⟨h.1, h.2.1, fun q => ?_, fun q => ?_⟩
  · have := h.2.2; rw [if_pos q] at this; exact this
  · have := h.2.2; rw [if_neg q] at this; exact this
set_option maxHeartbeats 4000000 in
set_option maxRecDepth 100000 in
theorem c_X0_removeAll {l : Launch} {D : va_G} {cI cL : ClassId} {a : Nat → Nat} {dep : Nat → Int32} {dk : Bool} {N pl : Nat} {pe : Int32} {cn : Nat → Nat} {P M : Nat → Nat → Int32} {k : Nat} (hk : k < 4)   : MetW l yX0_removeAll cX0_removeAll 1 none 0 [.ref (a (3 + 3 * k))] D cI cL (RPw cI cL a dep dk N pl pe cn P M) (none) (RPw cI cL a dep dk N pl pe (va_up cn k 0) P M) := by
  refine MetW.mk (by decide) (Nat.le_of_ble_eq_true rfl) ?_
  intro p e s m args below meth c Q A hQ S hr hlk hN hK hP hD hS ls hl
  have S : CallFix p m c cX0_removeAll 1 s args wt RX0 := S
  have hl : lv_has ls 1 [(0, .ref (a (3 + 3 * k)))] := hl
  refine lv_aload_n S.1 S.2.1 dX0_removeAll_0 rfl (lv_at hl 0 rfl) ?_
  refine lv_iconst (v := nI 0) S.1 S.2.1 dX0_removeAll_1 (by decide) ?_
  refine p0_size (x := 0) S hK hP hD hS hk dX0_removeAll_2 (fun H locs hP hD hS => ?_)
  exact wr_retv hQ S hr hlk hP hS rfl dX0_removeAll_5
set_option maxHeartbeats 4000000 in
set_option maxRecDepth 100000 in
theorem c_X0_removeLast {l : Launch} {D : va_G} {cI cL : ClassId} {a : Nat → Nat} {dep : Nat → Int32} {dk : Bool} {N pl : Nat} {pe : Int32} {cn : Nat → Nat} {P M : Nat → Nat → Int32} {k : Nat} (hk : k < 4) (hp : 0 < cn k) (hc : cn k ≤ 24)   : MetW l yX0_removeLast cX0_removeLast 1 none 0 [.ref (a (3 + 3 * k))] D cI cL (RPw cI cL a dep dk N pl pe cn P M) (none) (RPw cI cL a dep dk N pl pe (va_up cn k (cn k - 1)) P M) := by
  refine MetW.mk (by decide) (Nat.le_of_ble_eq_true rfl) ?_
  intro p e s m args below meth c Q A hQ S hr hlk hN hK hP hD hS ls hl
  have S : CallFix p m c cX0_removeLast 1 s args wt RX0 := S
  have hl : lv_has ls 1 [(0, .ref (a (3 + 3 * k)))] := hl
  refine lv_aload_n S.1 S.2.1 dX0_removeLast_0 rfl (lv_at hl 0 rfl) ?_
  refine g0_size hk S hK hP dX0_removeLast_1 ?_
  refine lv_if_le (tgt := 17) S.1 S.2.1 dX0_removeLast_4 (by decide) (fun hh => absurd hh (nI_nle hp (by omega))) (fun _ => ?_)
  refine lv_aload_n S.1 S.2.1 dX0_removeLast_7 rfl (lv_at hl 0 rfl) ?_
  refine lv_dup S.1 S.2.1 dX0_removeLast_8 rfl ?_
  refine g0_size hk S hK hP dX0_removeLast_9 ?_
  refine lv_iconst (v := nI 1) S.1 S.2.1 dX0_removeLast_12 (by decide) ?_
  refine lv_isub S.1 S.2.1 dX0_removeLast_13 ?_
  refine tp (y := nI (cn k - 1)) (pk_sub hp) ?_
  refine p0_size (x := (cn k - 1)) S hK hP hD hS hk dX0_removeLast_14 (fun H locs hP hD hS => ?_)
  exact wr_retv hQ S hr hlk hP hS rfl dX0_removeLast_17
set_option maxHeartbeats 4000000 in
set_option maxRecDepth 100000 in
theorem c_X0_add {l : Launch} {D : va_G} {cI cL : ClassId} {a : Nat → Nat} {dep : Nat → Int32} {dk : Bool} {N pl : Nat} {pe : Int32} {cn : Nat → Nat} {P M : Nat → Nat → Int32} {k : Nat} {x y : Int32} (hk : k < 4) (hc : cn k < 24)   : MetW l yX0_add cX0_add 3 none 1 [.ref (a (3 + 3 * k)), .int x, .int y] D cI cL (RPw cI cL a dep dk N pl pe cn P M) (none) (RPw cI cL a dep dk N pl pe (va_up cn k (cn k + 1)) (va_up P k (upd (P k) (cn k) x)) (va_up M k (upd (M k) (cn k) y))) := by
  refine MetW.mk (by decide) (Nat.le_of_ble_eq_true rfl) ?_
  intro p e s m args below meth c Q A hQ S hr hlk hN hK hP hD hS ls hl
  have S : CallFix p m c cX0_add 3 s args wt RX0 := S
  have hl : lv_has ls 3 [(0, .ref (a (3 + 3 * k))), (1, .int x), (2, .int y)] := hl
  refine lv_aload_n S.1 S.2.1 dX0_add_0 rfl (lv_at hl 0 rfl) ?_
  refine rdV S cv_RX0_20 (c_X0_isFull (k := k) hk) hK hN hP (rp_rvk hk hK hP) ⟨Nat.le_of_ble_eq_true rfl, Nat.le_of_ble_eq_true rfl⟩ ⟨Nat.zero_le _, Nat.zero_le _⟩ rfl hl.1 rfl (Nat.le_of_ble_eq_true rfl) dX0_add_1 ?_
  refine lv_if_eq (tgt := 8) S.1 S.2.1 dX0_add_4 (by decide) (fun _ => ?_) (fun hh => absurd (by rw [show (!decide (nI (cn k) < nI 24)) = false from by simp [(nI_ltI (show cn k < 2 ^ 31 by omega) (show 24 < 2 ^ 31 by decide)).mpr hc]]; rfl) hh)
  refine lv_aload_n S.1 S.2.1 dX0_add_8 rfl (lv_at hl 0 rfl) ?_
  refine g0_pluses hk S hK hP dX0_add_9 ?_
  refine lv_aload_n S.1 S.2.1 dX0_add_12 rfl (lv_at hl 0 rfl) ?_
  refine g0_size hk S hK hP dX0_add_13 ?_
  refine lv_iload_n S.1 S.2.1 dX0_add_16 rfl (lv_at hl 1 rfl) ?_
  refine s0_pl (x := x) hk hc S hK hP hD hS dX0_add_17 (fun H locs hP hD hS => ?_)
  refine lv_aload_n S.1 S.2.1 dX0_add_18 rfl (lv_at hl 0 rfl) ?_
  refine g0_minuses hk S hK hP dX0_add_19 ?_
  refine lv_aload_n S.1 S.2.1 dX0_add_22 rfl (lv_at hl 0 rfl) ?_
  refine g0_size hk S hK hP dX0_add_23 ?_
  refine lv_iload_n S.1 S.2.1 dX0_add_26 rfl (lv_at hl 2 rfl) ?_
  refine s0_mi (x := y) hk hc S hK hP hD hS dX0_add_27 (fun H locs hP hD hS => ?_)
  refine lv_aload_n S.1 S.2.1 dX0_add_28 rfl (lv_at hl 0 rfl) ?_
  refine lv_dup S.1 S.2.1 dX0_add_29 rfl ?_
  refine g0_size hk S hK hP dX0_add_30 ?_
  refine lv_iconst (v := nI 1) S.1 S.2.1 dX0_add_33 (by decide) ?_
  refine lv_iadd S.1 S.2.1 dX0_add_34 ?_
  refine tp (y := nI (cn k + 1)) (nI_1 _) ?_
  refine p0_size (x := (cn k + 1)) S hK hP hD hS hk dX0_add_35 (fun H locs hP hD hS => ?_)
  exact wr_retv hQ S hr hlk hP hS rfl dX0_add_38
set_option maxHeartbeats 4000000 in
set_option maxRecDepth 100000 in
theorem c_X1_forgetWhatFollowed {l : Launch} {D : va_G} {cI cL : ClassId} {a : Nat → Nat} {dep : Nat → Int32} {dk : Bool} {N pl : Nat} {pe : Int32} {cn : Nat → Nat} {P M : Nat → Nat → Int32}   : MetW l yX1_forgetWhatFollowed cX1_forgetWhatFollowed 1 none 0 [.ref (a 0)] D cI cL (RPw cI cL a dep dk N pl pe cn P M) (none) (RPw cI cL a dep false N 0 pe cn P M) := by
  refine MetW.mk (by decide) (Nat.le_of_ble_eq_true rfl) ?_
  intro p e s m args below meth c Q A hQ S hr hlk hN hK hP hD hS ls hl
  have S : CallFix p m c cX1_forgetWhatFollowed 1 s args wt RX1 := S
  have hl : lv_has ls 1 [(0, .ref (a 0))] := hl
  refine lv_aload_n S.1 S.2.1 dX1_forgetWhatFollowed_0 rfl (lv_at hl 0 rfl) ?_
  refine lv_iconst (v := nI 0) S.1 S.2.1 dX1_forgetWhatFollowed_1 (by decide) ?_
  refine p1_pathLength (x := 0) S hK hP hD hS dX1_forgetWhatFollowed_2 (fun H locs hP hD hS => ?_)
  refine lv_aload_n S.1 S.2.1 dX1_forgetWhatFollowed_5 rfl (lv_at hl 0 rfl) ?_
  refine lv_iconst (v := nI 0) S.1 S.2.1 dX1_forgetWhatFollowed_6 (by decide) ?_
  refine tp (y := bI false) (by decide) ?_
  refine p1_depthsKnown (x := false) S hK hP hD hS dX1_forgetWhatFollowed_7 (fun H locs hP hD hS => ?_)
  exact wr_retv hQ S hr hlk hP hS rfl dX1_forgetWhatFollowed_10
set_option maxHeartbeats 4000000 in
set_option maxRecDepth 100000 in
theorem c_X1_begin_f {l : Launch} {D : va_G} {cI cL : ClassId} {a : Nat → Nat} {dep : Nat → Int32} {dk : Bool} {N pl : Nat} {pe : Int32} {cn : Nat → Nat} {P M : Nat → Nat → Int32} {x : Int32} (hb : bgB x = false)   : MetR l yX1_begin cX1_begin 3 (some .boolean) 1 [.ref (a 0), .int x] D cI cL (RPw cI cL a dep dk N pl pe cn P M) (bI false) := by
  refine MetR.mk (by decide) (Nat.le_of_ble_eq_true rfl) ?_
  intro p e s m args below meth c Q hQ S hr hlk hN hK hP ls hl
  have S : CallFix p m c cX1_begin 3 s args wt RX1 := S
  have hl : lv_has ls 3 [(0, .ref (a 0)), (1, .int x)] := hl
  refine lv_iload_n S.1 S.2.1 dX1_begin_0 rfl (lv_at hl 1 rfl) ?_
  refine lv_iconst (v := nI 1) S.1 S.2.1 dX1_begin_1 (by decide) ?_
  refine lv_icmp_lt (tgt := 11) S.1 S.2.1 dX1_begin_2 (by decide) (fun h2 => ?_) (fun h2 => ?_)
  · refine lv_iconst (v := nI 0) S.1 S.2.1 dX1_begin_11 (by decide) ?_
    exact rd_retz hQ S hr hlk (by decide) dX1_begin_12
  · refine lv_iload_n S.1 S.2.1 dX1_begin_5 rfl (lv_at hl 1 rfl) ?_
    refine lv_bipush (v := nI 6) S.1 S.2.1 dX1_begin_6 (by decide) ?_
    refine lv_icmp_le (tgt := 13) S.1 S.2.1 dX1_begin_8 (by decide) (fun h8 => ?_) (fun h8 => ?_)
    · exact absurd hb (by simp [bgB, h2, h8])
    · refine lv_iconst (v := nI 0) S.1 S.2.1 dX1_begin_11 (by decide) ?_
      exact rd_retz hQ S hr hlk (by decide) dX1_begin_12
set_option maxHeartbeats 4000000 in
set_option maxRecDepth 100000 in
theorem c_X1_begin_t {l : Launch} {D : va_G} {cI cL : ClassId} {a : Nat → Nat} {dep : Nat → Int32} {dk : Bool} {N pl : Nat} {pe : Int32} {cn : Nat → Nat} {P M : Nat → Nat → Int32} {n : Nat} (hn1 : 1 ≤ n) (hn6 : n ≤ 6)   : MetW l yX1_begin cX1_begin 3 (some .boolean) 1 [.ref (a 0), .int (nI n)] D cI cL (RPw cI cL a dep dk N pl pe cn P M) (some (.int (bI true))) (RPw cI cL a dep false n 0 pe (fd (fun k c => va_up c k 0) 4 0 cn) P M) := by
  refine MetW.mk (by decide) (Nat.le_of_ble_eq_true rfl) ?_
  intro p e s m args below meth c Q A hQ S hr hlk hN hK hP hD hS ls hl
  have S : CallFix p m c cX1_begin 3 s args wt RX1 := S
  have hl : lv_has ls 3 [(0, .ref (a 0)), (1, .int (nI n))] := hl
  refine lv_iload_n S.1 S.2.1 dX1_begin_0 rfl (lv_at hl 1 rfl) ?_
  refine lv_iconst (v := nI 1) S.1 S.2.1 dX1_begin_1 (by decide) ?_
  refine lv_icmp_lt (tgt := 11) S.1 S.2.1 dX1_begin_2 (by decide) (fun hh => absurd hh (fun q => absurd ((nI_ltI (by omega) (by decide)).mp q) (by omega))) (fun _ => ?_)
  refine lv_iload_n S.1 S.2.1 dX1_begin_5 rfl (lv_at hl 1 rfl) ?_
  refine lv_bipush (v := nI 6) S.1 S.2.1 dX1_begin_6 (by decide) ?_
  refine lv_icmp_le (tgt := 13) S.1 S.2.1 dX1_begin_8 (by decide) (fun _ => ?_) (fun hh => absurd ((nI_leI (by omega) (by decide)).mpr hn6) hh)
  refine lv_aload_n S.1 S.2.1 dX1_begin_13 rfl (lv_at hl 0 rfl) ?_
  refine lv_iload_n S.1 S.2.1 dX1_begin_14 rfl (lv_at hl 1 rfl) ?_
  refine p1_switchCount (x := n) S hK hP hD hS dX1_begin_15 (fun H locs hP hD hS => ?_)
  refine lv_iconst (v := nI 0) S.1 S.2.1 dX1_begin_18 (by decide) ?_
  refine lv_istore_n (lv' := [(2, .int (nI 0)), (0, .ref (a 0)), (1, .int (nI n))]) S.1 S.2.1 dX1_begin_19 rfl hl (by decide) rfl (fun ls hl => ?_)
  have loop20 : ∀ (nf : Nat) (i : Nat) (cn1 : Nat → Nat) (H : Heap) (locs : List Loc) (ls : Array Slot), 4 - i < nf → i ≤ 4 → fd (fun k c => va_up c k 0) 4 i cn1 = fd (fun k c => va_up c k 0) 4 0 cn → va_P D classes (RPw cI cL a dep dk n pl pe cn1 P M) H → va_D A (RPw cI cL a dep dk n pl pe cn1 P M) → va_S A s.heap H locs → lv_has ls 3 [(2, .int (nI i)), (0, .ref (a 0)), (1, .int (nI n))] → W p l e (rmd 1) s m args below meth c H locs 0 0 Q (F0 m 20 ls []) := by
    intro nf
    induction nf with
    | zero => exact fun i cn1 H locs ls hn => absurd hn (Nat.not_lt_zero _)
    | succ nf ih20 =>
      intro i cn1 H locs ls hn hi hv hP hD hS hl
      refine lv_iload_n S.1 S.2.1 dX1_begin_20 rfl (lv_at hl 0 rfl) ?_
      refine lv_iconst (v := nI 4) S.1 S.2.1 dX1_begin_21 (by decide) ?_
      refine lv_icmp_ge (tgt := 40) S.1 S.2.1 dX1_begin_22 (by decide) (fun h22 => ?_) (fun h22 => ?_)
      · have h22 := ge_n (by omega) (by decide) h22
        rw [fd_d h22] at hv
        subst hv
        refine lv_aload_n S.1 S.2.1 dX1_begin_40 rfl (lv_at hl 1 rfl) ?_
        refine wrVv S cv_RX1_37 (c_X1_forgetWhatFollowed) hK hN hP hD hS (rp_rv hK hP) ⟨Nat.le_of_ble_eq_true rfl, Nat.le_of_ble_eq_true rfl⟩ ⟨Nat.zero_le _, Nat.zero_le _⟩ rfl hl.1 rfl (Nat.le_of_ble_eq_true rfl) dX1_begin_41 (fun H locs hP hS _ => ?_)
        have hD : va_D A (RPw cI cL a dep false n 0 pe (fd (fun k c => va_up c k 0) 4 0 cn) P M) := D_same hD rfl
        refine lv_iconst (v := nI 1) S.1 S.2.1 dX1_begin_44 (by decide) ?_
        exact wr_retz hQ S hr hlk hP hS rfl (by decide) dX1_begin_45
      · have h22 := ge_f (by omega) (by decide) h22
        refine lv_aload_n S.1 S.2.1 dX1_begin_25 rfl (lv_at hl 1 rfl) ?_
        refine g1_lists S hK hP dX1_begin_26 ?_
        refine lv_iload_n S.1 S.2.1 dX1_begin_29 rfl (lv_at hl 0 rfl) ?_
        refine a1_lists (k := i) (by omega) S hK hP dX1_begin_30 ?_
        refine wrNv S cm_X0_removeAll hN.2.1 (c_X0_removeAll (k := i) (by omega)) hK hN hP hD hS (rp_rvk (by omega) hK hP) ⟨Nat.le_of_ble_eq_true rfl, Nat.le_of_ble_eq_true rfl⟩ ⟨Nat.zero_le _, Nat.zero_le _⟩ rfl hl.1 rfl (Nat.le_of_ble_eq_true rfl) dX1_begin_31 (fun H locs hP hS _ => ?_)
        have hD : va_D A (RPw cI cL a dep dk n pl pe (va_up cn1 i 0) P M) := D_same hD rfl
        refine lv_iinc (v := nI (i + 1)) (lv' := [(2, .int (nI (i + 1))), (0, .ref (a 0)), (1, .int (nI n))]) S.1 S.2.1 dX1_begin_34 hl (k := 0) rfl (nI_1 _) (by decide) rfl (fun ls hl => ?_)
        refine lv_goto (tgt := 20) S.1 S.2.1 dX1_begin_37 (by decide) ?_
        exact ih20 (i + 1) _ _ _ ls (by omega) (by omega) (fd_b h22 hv rfl) hP hD hS (lv_sub hl [0, 1, 2] rfl)
  exact loop20 _ 0 cn _ _ ls (Nat.lt_succ_self _) (by decide) rfl hP hD hS (lv_sub hl [0, 1, 2] rfl)
set_option maxHeartbeats 4000000 in
set_option maxRecDepth 100000 in
theorem c_X1_clause_f {l : Launch} {D : va_G} {cI cL : ClassId} {a : Nat → Nat} {dep : Nat → Int32} {dk : Bool} {N pl : Nat} {pe : Int32} {cn : Nat → Nat} {P M : Nat → Nat → Int32} {li x y : Int32} (hb : clB N cn li x y = false)  (hV : RInv N cn) : MetR l yX1_clause cX1_clause 4 (some .int) 2 [.ref (a 0), .int li, .int x, .int y] D cI cL (RPw cI cL a dep dk N pl pe cn P M) (-1) := by
  refine MetR.mk (by decide) (Nat.le_of_ble_eq_true rfl) ?_
  intro p e s m args below meth c Q hQ S hr hlk hN hK hP ls hl
  have S : CallFix p m c cX1_clause 4 s args wt RX1 := S
  have hl : lv_has ls 4 [(0, .ref (a 0)), (1, .int li), (2, .int x), (3, .int y)] := hl
  rcases hl1 : liB li with _ | _
  · skip
    refine lv_iload_n S.1 S.2.1 dX1_clause_0 rfl (lv_at hl 1 rfl) ?_
    refine rdS S ct_RX1_40 (c_X1_isList (x := li)) hK hN hP ⟨Nat.le_of_ble_eq_true rfl, Nat.le_of_ble_eq_true rfl⟩ ⟨Nat.zero_le _, Nat.zero_le _⟩ rfl hl.1 rfl (Nat.le_of_ble_eq_true rfl) dX1_clause_1 ?_
    refine lv_if_eq (tgt := 37) S.1 S.2.1 dX1_clause_4 (by decide) (fun _ => ?_) (fun hh => absurd (by rw [hl1]; rfl) hh)
    refine lv_iconst (v := -1) S.1 S.2.1 dX1_clause_37 (by decide) ?_
    exact rd_ret hQ S hr hlk rfl dX1_clause_38
  · obtain ⟨k, hk, rfl⟩ := liB_t hl1
    refine lv_iload_n S.1 S.2.1 dX1_clause_0 rfl (lv_at hl 1 rfl) ?_
    refine rdS S ct_RX1_40 (c_X1_isList (x := nI k)) hK hN hP ⟨Nat.le_of_ble_eq_true rfl, Nat.le_of_ble_eq_true rfl⟩ ⟨Nat.zero_le _, Nat.zero_le _⟩ rfl hl.1 rfl (Nat.le_of_ble_eq_true rfl) dX1_clause_1 ?_
    refine lv_if_eq (tgt := 37) S.1 S.2.1 dX1_clause_4 (by decide) (fun hh => absurd hh (by rw [hl1]; decide)) (fun _ => ?_)
    refine lv_aload_n S.1 S.2.1 dX1_clause_7 rfl (lv_at hl 0 rfl) ?_
    refine lv_iload_n S.1 S.2.1 dX1_clause_8 rfl (lv_at hl 1 rfl) ?_
    refine lv_iload_n S.1 S.2.1 dX1_clause_9 rfl (lv_at hl 2 rfl) ?_
    refine rdV S cv_RX1_44 (c_X1_isSetOf (li := nI k) (x := x) hV) hK hN hP (rp_rv hK hP) ⟨Nat.le_of_ble_eq_true rfl, Nat.le_of_ble_eq_true rfl⟩ ⟨Nat.zero_le _, Nat.zero_le _⟩ rfl hl.1 rfl (Nat.le_of_ble_eq_true rfl) dX1_clause_10 ?_
    refine lv_if_eq (tgt := 37) S.1 S.2.1 dX1_clause_13 (by decide) (fun h13 => ?_) (fun h13 => ?_)
    · have h13 : (seB N (nI k) x) = false := bI_f h13
      refine lv_iconst (v := -1) S.1 S.2.1 dX1_clause_37 (by decide) ?_
      exact rd_ret hQ S hr hlk rfl dX1_clause_38
    · have h13 : (seB N (nI k) x) = true := bI_t h13
      refine lv_aload_n S.1 S.2.1 dX1_clause_16 rfl (lv_at hl 0 rfl) ?_
      refine lv_iload_n S.1 S.2.1 dX1_clause_17 rfl (lv_at hl 1 rfl) ?_
      refine lv_iload_n S.1 S.2.1 dX1_clause_18 rfl (lv_at hl 3 rfl) ?_
      refine rdV S cv_RX1_44 (c_X1_isSetOf (li := nI k) (x := y) hV) hK hN hP (rp_rv hK hP) ⟨Nat.le_of_ble_eq_true rfl, Nat.le_of_ble_eq_true rfl⟩ ⟨Nat.zero_le _, Nat.zero_le _⟩ rfl hl.1 rfl (Nat.le_of_ble_eq_true rfl) dX1_clause_19 ?_
      refine lv_if_eq (tgt := 37) S.1 S.2.1 dX1_clause_22 (by decide) (fun h22 => ?_) (fun h22 => ?_)
      · have h22 : (seB N (nI k) y) = false := bI_f h22
        refine lv_iconst (v := -1) S.1 S.2.1 dX1_clause_37 (by decide) ?_
        exact rd_ret hQ S hr hlk rfl dX1_clause_38
      · have h22 : (seB N (nI k) y) = true := bI_t h22
        refine lv_aload_n S.1 S.2.1 dX1_clause_25 rfl (lv_at hl 0 rfl) ?_
        refine g1_lists S hK hP dX1_clause_26 ?_
        refine lv_iload_n S.1 S.2.1 dX1_clause_29 rfl (lv_at hl 1 rfl) ?_
        refine a1_lists (k := k) hk S hK hP dX1_clause_30 ?_
        refine rdN S cm_X0_isFull hN.2.2.1 (c_X0_isFull (k := k) hk) hK hN hP (rp_rvk hk hK hP) ⟨Nat.le_of_ble_eq_true rfl, Nat.le_of_ble_eq_true rfl⟩ ⟨Nat.zero_le _, Nat.zero_le _⟩ rfl hl.1 rfl (Nat.le_of_ble_eq_true rfl) dX1_clause_31 ?_
        refine lv_if_eq (tgt := 39) S.1 S.2.1 dX1_clause_34 (by decide) (fun h34 => ?_) (fun h34 => ?_)
        · have h34 : (!decide (nI (cn k) < nI 24)) = false := bI_f h34
          exact absurd hb (by simp at h34; simp [clB, hl1, h13, h22, nI_clamp (show k < 2 ^ 31 by omega), (nI_ltI (show cn k < 2 ^ 31 by have := hV.2.2 k hk; omega) (show 24 < 2 ^ 31 by decide)).mp h34])
        · have h34 : (!decide (nI (cn k) < nI 24)) = true := bI_t h34
          refine lv_iconst (v := -1) S.1 S.2.1 dX1_clause_37 (by decide) ?_
          exact rd_ret hQ S hr hlk rfl dX1_clause_38
set_option maxHeartbeats 4000000 in
set_option maxRecDepth 100000 in
theorem c_X1_clause_t {l : Launch} {D : va_G} {cI cL : ClassId} {a : Nat → Nat} {dep : Nat → Int32} {dk : Bool} {N pl : Nat} {pe : Int32} {cn : Nat → Nat} {P M : Nat → Nat → Int32} {k : Nat} {x y : Int32} (hk : k < 4) (hx : seB N (nI k) x = true) (hy : seB N (nI k) y = true) (hc : cn k < 24)  (hV : RInv N cn) : MetW l yX1_clause cX1_clause 4 (some .int) 2 [.ref (a 0), .int (nI k), .int x, .int y] D cI cL (RPw cI cL a dep dk N pl pe cn P M) (some (.int (nI (cn k)))) (RPw cI cL a dep false N 0 pe (va_up cn k (cn k + 1)) (va_up P k (upd (P k) (cn k) x)) (va_up M k (upd (M k) (cn k) y))) := by
  refine MetW.mk (by decide) (Nat.le_of_ble_eq_true rfl) ?_
  intro p e s m args below meth c Q A hQ S hr hlk hN hK hP hD hS ls hl
  have S : CallFix p m c cX1_clause 4 s args wt RX1 := S
  have hl : lv_has ls 4 [(0, .ref (a 0)), (1, .int (nI k)), (2, .int x), (3, .int y)] := hl
  refine lv_iload_n S.1 S.2.1 dX1_clause_0 rfl (lv_at hl 1 rfl) ?_
  refine rdS S ct_RX1_40 (c_X1_isList (x := nI k)) hK hN hP ⟨Nat.le_of_ble_eq_true rfl, Nat.le_of_ble_eq_true rfl⟩ ⟨Nat.zero_le _, Nat.zero_le _⟩ rfl hl.1 rfl (Nat.le_of_ble_eq_true rfl) dX1_clause_1 ?_
  refine lv_if_eq (tgt := 37) S.1 S.2.1 dX1_clause_4 (by decide) (fun hh => absurd hh (by rw [liB_n hk]; decide)) (fun _ => ?_)
  refine lv_aload_n S.1 S.2.1 dX1_clause_7 rfl (lv_at hl 0 rfl) ?_
  refine lv_iload_n S.1 S.2.1 dX1_clause_8 rfl (lv_at hl 1 rfl) ?_
  refine lv_iload_n S.1 S.2.1 dX1_clause_9 rfl (lv_at hl 2 rfl) ?_
  refine rdV S cv_RX1_44 (c_X1_isSetOf (li := nI k) (x := x) hV) hK hN hP (rp_rv hK hP) ⟨Nat.le_of_ble_eq_true rfl, Nat.le_of_ble_eq_true rfl⟩ ⟨Nat.zero_le _, Nat.zero_le _⟩ rfl hl.1 rfl (Nat.le_of_ble_eq_true rfl) dX1_clause_10 ?_
  refine lv_if_eq (tgt := 37) S.1 S.2.1 dX1_clause_13 (by decide) (fun hh => absurd hh (by rw [hx]; decide)) (fun _ => ?_)
  refine lv_aload_n S.1 S.2.1 dX1_clause_16 rfl (lv_at hl 0 rfl) ?_
  refine lv_iload_n S.1 S.2.1 dX1_clause_17 rfl (lv_at hl 1 rfl) ?_
  refine lv_iload_n S.1 S.2.1 dX1_clause_18 rfl (lv_at hl 3 rfl) ?_
  refine rdV S cv_RX1_44 (c_X1_isSetOf (li := nI k) (x := y) hV) hK hN hP (rp_rv hK hP) ⟨Nat.le_of_ble_eq_true rfl, Nat.le_of_ble_eq_true rfl⟩ ⟨Nat.zero_le _, Nat.zero_le _⟩ rfl hl.1 rfl (Nat.le_of_ble_eq_true rfl) dX1_clause_19 ?_
  refine lv_if_eq (tgt := 37) S.1 S.2.1 dX1_clause_22 (by decide) (fun hh => absurd hh (by rw [hy]; decide)) (fun _ => ?_)
  refine lv_aload_n S.1 S.2.1 dX1_clause_25 rfl (lv_at hl 0 rfl) ?_
  refine g1_lists S hK hP dX1_clause_26 ?_
  refine lv_iload_n S.1 S.2.1 dX1_clause_29 rfl (lv_at hl 1 rfl) ?_
  refine a1_lists (k := k) hk S hK hP dX1_clause_30 ?_
  refine rdN S cm_X0_isFull hN.2.2.1 (c_X0_isFull (k := k) hk) hK hN hP (rp_rvk hk hK hP) ⟨Nat.le_of_ble_eq_true rfl, Nat.le_of_ble_eq_true rfl⟩ ⟨Nat.zero_le _, Nat.zero_le _⟩ rfl hl.1 rfl (Nat.le_of_ble_eq_true rfl) dX1_clause_31 ?_
  refine lv_if_eq (tgt := 39) S.1 S.2.1 dX1_clause_34 (by decide) (fun _ => ?_) (fun hh => absurd (by rw [show (!decide (nI (cn k) < nI 24)) = false from by simp [(nI_ltI (show cn k < 2 ^ 31 by omega) (show 24 < 2 ^ 31 by decide)).mpr hc]]; rfl) hh)
  refine lv_aload_n S.1 S.2.1 dX1_clause_39 rfl (lv_at hl 0 rfl) ?_
  refine g1_lists S hK hP dX1_clause_40 ?_
  refine lv_iload_n S.1 S.2.1 dX1_clause_43 rfl (lv_at hl 1 rfl) ?_
  refine a1_lists (k := k) hk S hK hP dX1_clause_44 ?_
  refine lv_iload_n S.1 S.2.1 dX1_clause_45 rfl (lv_at hl 2 rfl) ?_
  refine lv_iload_n S.1 S.2.1 dX1_clause_46 rfl (lv_at hl 3 rfl) ?_
  refine wrNv S cm_X0_add hN.2.2.2.1 (c_X0_add (k := k) (x := x) (y := y) hk hc) hK hN hP hD hS (rp_rvk hk hK hP) ⟨Nat.le_of_ble_eq_true rfl, Nat.le_of_ble_eq_true rfl⟩ ⟨Nat.zero_le _, Nat.zero_le _⟩ rfl hl.1 rfl (Nat.le_of_ble_eq_true rfl) dX1_clause_47 (fun H locs hP hS _ => ?_)
  have hD : va_D A (RPw cI cL a dep dk N pl pe (va_up cn k (cn k + 1)) (va_up P k (upd (P k) (cn k) x)) (va_up M k (upd (M k) (cn k) y))) := D_same hD rfl
  refine lv_aload_n S.1 S.2.1 dX1_clause_50 rfl (lv_at hl 0 rfl) ?_
  refine wrVv S cv_RX1_37 (c_X1_forgetWhatFollowed) hK hN hP hD hS (rp_rv hK hP) ⟨Nat.le_of_ble_eq_true rfl, Nat.le_of_ble_eq_true rfl⟩ ⟨Nat.zero_le _, Nat.zero_le _⟩ rfl hl.1 rfl (Nat.le_of_ble_eq_true rfl) dX1_clause_51 (fun H locs hP hS _ => ?_)
  have hD : va_D A (RPw cI cL a dep false N 0 pe (va_up cn k (cn k + 1)) (va_up P k (upd (P k) (cn k) x)) (va_up M k (upd (M k) (cn k) y))) := D_same hD rfl
  refine lv_aload_n S.1 S.2.1 dX1_clause_54 rfl (lv_at hl 0 rfl) ?_
  refine g1_lists S hK hP dX1_clause_55 ?_
  refine lv_iload_n S.1 S.2.1 dX1_clause_58 rfl (lv_at hl 1 rfl) ?_
  refine a1_lists (k := k) hk S hK hP dX1_clause_59 ?_
  refine g1_size hk S hN hK hP dX1_clause_60 ?_
  refine lv_iconst (v := nI 1) S.1 S.2.1 dX1_clause_63 (by decide) ?_
  refine lv_isub S.1 S.2.1 dX1_clause_64 ?_
  exact wr_ret hQ S hr hlk hP hS rfl (by rw [show va_up cn k (cn k + 1) k = cn k + 1 from if_pos rfl]; exact nI_pred _) dX1_clause_65
set_option maxHeartbeats 4000000 in
set_option maxRecDepth 100000 in
theorem c_X1_drop_f {l : Launch} {D : va_G} {cI cL : ClassId} {a : Nat → Nat} {dep : Nat → Int32} {dk : Bool} {N pl : Nat} {pe : Int32} {cn : Nat → Nat} {P M : Nat → Nat → Int32} {li : Int32} (hb : drB cn li = false)  (hV : RInv N cn) : MetR l yX1_drop cX1_drop 2 (some .int) 1 [.ref (a 0), .int li] D cI cL (RPw cI cL a dep dk N pl pe cn P M) (-1) := by
  refine MetR.mk (by decide) (Nat.le_of_ble_eq_true rfl) ?_
  intro p e s m args below meth c Q hQ S hr hlk hN hK hP ls hl
  have S : CallFix p m c cX1_drop 2 s args wt RX1 := S
  have hl : lv_has ls 2 [(0, .ref (a 0)), (1, .int li)] := hl
  rcases hl1 : liB li with _ | _
  · skip
    refine lv_iload_n S.1 S.2.1 dX1_drop_0 rfl (lv_at hl 1 rfl) ?_
    refine rdS S ct_RX1_40 (c_X1_isList (x := li)) hK hN hP ⟨Nat.le_of_ble_eq_true rfl, Nat.le_of_ble_eq_true rfl⟩ ⟨Nat.zero_le _, Nat.zero_le _⟩ rfl hl.1 rfl (Nat.le_of_ble_eq_true rfl) dX1_drop_1 ?_
    refine lv_if_eq (tgt := 19) S.1 S.2.1 dX1_drop_4 (by decide) (fun _ => ?_) (fun hh => absurd (by rw [hl1]; rfl) hh)
    refine lv_iconst (v := -1) S.1 S.2.1 dX1_drop_19 (by decide) ?_
    exact rd_ret hQ S hr hlk rfl dX1_drop_20
  · obtain ⟨k, hk, rfl⟩ := liB_t hl1
    refine lv_iload_n S.1 S.2.1 dX1_drop_0 rfl (lv_at hl 1 rfl) ?_
    refine rdS S ct_RX1_40 (c_X1_isList (x := nI k)) hK hN hP ⟨Nat.le_of_ble_eq_true rfl, Nat.le_of_ble_eq_true rfl⟩ ⟨Nat.zero_le _, Nat.zero_le _⟩ rfl hl.1 rfl (Nat.le_of_ble_eq_true rfl) dX1_drop_1 ?_
    refine lv_if_eq (tgt := 19) S.1 S.2.1 dX1_drop_4 (by decide) (fun hh => absurd hh (by rw [hl1]; decide)) (fun _ => ?_)
    refine lv_aload_n S.1 S.2.1 dX1_drop_7 rfl (lv_at hl 0 rfl) ?_
    refine g1_lists S hK hP dX1_drop_8 ?_
    refine lv_iload_n S.1 S.2.1 dX1_drop_11 rfl (lv_at hl 1 rfl) ?_
    refine a1_lists (k := k) hk S hK hP dX1_drop_12 ?_
    refine g1_size hk S hN hK hP dX1_drop_13 ?_
    refine lv_if_ne (tgt := 21) S.1 S.2.1 dX1_drop_16 (by decide) (fun h16 => ?_) (fun h16 => ?_)
    · exact absurd hb (by simp [drB, hl1, nI_clamp (show k < 2 ^ 31 by omega)]; exact fun q => h16 (by rw [q]; rfl))
    · refine lv_iconst (v := -1) S.1 S.2.1 dX1_drop_19 (by decide) ?_
      exact rd_ret hQ S hr hlk rfl dX1_drop_20
set_option maxHeartbeats 4000000 in
set_option maxRecDepth 100000 in
theorem c_X1_drop_t {l : Launch} {D : va_G} {cI cL : ClassId} {a : Nat → Nat} {dep : Nat → Int32} {dk : Bool} {N pl : Nat} {pe : Int32} {cn : Nat → Nat} {P M : Nat → Nat → Int32} {k : Nat} (hk : k < 4) (hp : 0 < cn k)  (hV : RInv N cn) : MetW l yX1_drop cX1_drop 2 (some .int) 1 [.ref (a 0), .int (nI k)] D cI cL (RPw cI cL a dep dk N pl pe cn P M) (some (.int (nI (cn k - 1)))) (RPw cI cL a dep false N 0 pe (va_up cn k (cn k - 1)) P M) := by
  refine MetW.mk (by decide) (Nat.le_of_ble_eq_true rfl) ?_
  intro p e s m args below meth c Q A hQ S hr hlk hN hK hP hD hS ls hl
  have S : CallFix p m c cX1_drop 2 s args wt RX1 := S
  have hl : lv_has ls 2 [(0, .ref (a 0)), (1, .int (nI k))] := hl
  refine lv_iload_n S.1 S.2.1 dX1_drop_0 rfl (lv_at hl 1 rfl) ?_
  refine rdS S ct_RX1_40 (c_X1_isList (x := nI k)) hK hN hP ⟨Nat.le_of_ble_eq_true rfl, Nat.le_of_ble_eq_true rfl⟩ ⟨Nat.zero_le _, Nat.zero_le _⟩ rfl hl.1 rfl (Nat.le_of_ble_eq_true rfl) dX1_drop_1 ?_
  refine lv_if_eq (tgt := 19) S.1 S.2.1 dX1_drop_4 (by decide) (fun hh => absurd hh (by rw [liB_n hk]; decide)) (fun _ => ?_)
  refine lv_aload_n S.1 S.2.1 dX1_drop_7 rfl (lv_at hl 0 rfl) ?_
  refine g1_lists S hK hP dX1_drop_8 ?_
  refine lv_iload_n S.1 S.2.1 dX1_drop_11 rfl (lv_at hl 1 rfl) ?_
  refine a1_lists (k := k) hk S hK hP dX1_drop_12 ?_
  refine g1_size hk S hN hK hP dX1_drop_13 ?_
  refine lv_if_ne (tgt := 21) S.1 S.2.1 dX1_drop_16 (by decide) (fun _ => ?_) (fun hh => absurd hh (nI_ne0 hp (by have := hV.2.2 k hk; omega)))
  refine lv_aload_n S.1 S.2.1 dX1_drop_21 rfl (lv_at hl 0 rfl) ?_
  refine g1_lists S hK hP dX1_drop_22 ?_
  refine lv_iload_n S.1 S.2.1 dX1_drop_25 rfl (lv_at hl 1 rfl) ?_
  refine a1_lists (k := k) hk S hK hP dX1_drop_26 ?_
  refine wrNv S cm_X0_removeLast hN.2.2.2.2.1 (c_X0_removeLast (k := k) hk hp (hV.2.2 k hk)) hK hN hP hD hS (rp_rvk hk hK hP) ⟨Nat.le_of_ble_eq_true rfl, Nat.le_of_ble_eq_true rfl⟩ ⟨Nat.zero_le _, Nat.zero_le _⟩ rfl hl.1 rfl (Nat.le_of_ble_eq_true rfl) dX1_drop_27 (fun H locs hP hS _ => ?_)
  have hD : va_D A (RPw cI cL a dep dk N pl pe (va_up cn k (cn k - 1)) P M) := D_same hD rfl
  refine lv_aload_n S.1 S.2.1 dX1_drop_30 rfl (lv_at hl 0 rfl) ?_
  refine wrVv S cv_RX1_37 (c_X1_forgetWhatFollowed) hK hN hP hD hS (rp_rv hK hP) ⟨Nat.le_of_ble_eq_true rfl, Nat.le_of_ble_eq_true rfl⟩ ⟨Nat.zero_le _, Nat.zero_le _⟩ rfl hl.1 rfl (Nat.le_of_ble_eq_true rfl) dX1_drop_31 (fun H locs hP hS _ => ?_)
  have hD : va_D A (RPw cI cL a dep false N 0 pe (va_up cn k (cn k - 1)) P M) := D_same hD rfl
  refine lv_aload_n S.1 S.2.1 dX1_drop_34 rfl (lv_at hl 0 rfl) ?_
  refine g1_lists S hK hP dX1_drop_35 ?_
  refine lv_iload_n S.1 S.2.1 dX1_drop_38 rfl (lv_at hl 1 rfl) ?_
  refine a1_lists (k := k) hk S hK hP dX1_drop_39 ?_
  refine g1_size hk S hN hK hP dX1_drop_40 ?_
  exact wr_ret hQ S hr hlk hP hS rfl (by rw [show va_up cn k (cn k - 1) k = cn k - 1 from if_pos rfl]) dX1_drop_43
set_option maxHeartbeats 4000000 in
set_option maxRecDepth 100000 in
theorem c_X1_goOnFromState {l : Launch} {D : va_G} {cI cL : ClassId} {a : Nat → Nat} {dep : Nat → Int32} {dk : Bool} {N pl : Nat} {pe : Int32} {cn : Nat → Nat} {P M : Nat → Nat → Int32} {fr : Nat} (hf : fr < 64)  (hV : RInv N cn) : MetW l yX1_goOnFromState cX1_goOnFromState 3 none 2 [.ref (a 0), .int (nI fr)] D cI cL (RPw cI cL a dep dk N pl pe cn P M) (none) (RPw cI cL a (fd (stepC (fun f t => goC N cn P M (nI f) (nI t)) fr) (2 ^ N) 0 dep) dk N pl pe cn P M) := by
  refine MetW.mk (by decide) (Nat.le_of_ble_eq_true rfl) ?_
  intro p e s m args below meth c Q A hQ S hr hlk hN hK hP hD hS ls hl
  have S : CallFix p m c cX1_goOnFromState 3 s args wt RX1 := S
  have hl : lv_has ls 3 [(0, .ref (a 0)), (1, .int (nI fr))] := hl
  have hz := hV.S
  refine lv_iconst (v := nI 0) S.1 S.2.1 dX1_goOnFromState_0 (by decide) ?_
  refine lv_istore_n (lv' := [(2, .int (nI 0)), (0, .ref (a 0)), (1, .int (nI fr))]) S.1 S.2.1 dX1_goOnFromState_1 rfl hl (by decide) rfl (fun ls hl => ?_)
  have loop2 : ∀ (nf : Nat) (i : Nat) (dep1 : Nat → Int32) (H : Heap) (locs : List Loc) (ls : Array Slot), 2 ^ N - i < nf → i ≤ 2 ^ N → fd (stepC (fun f t => goC N cn P M (nI f) (nI t)) fr) (2 ^ N) i dep1 = fd (stepC (fun f t => goC N cn P M (nI f) (nI t)) fr) (2 ^ N) 0 dep → va_P D classes (RPw cI cL a dep1 dk N pl pe cn P M) H → va_D A (RPw cI cL a dep1 dk N pl pe cn P M) → va_S A s.heap H locs → lv_has ls 3 [(2, .int (nI i)), (0, .ref (a 0)), (1, .int (nI fr))] → W p l e (rmd 2) s m args below meth c H locs 0 0 Q (F0 m 2 ls []) := by
    intro nf
    induction nf with
    | zero => exact fun i dep1 H locs ls hn => absurd hn (Nat.not_lt_zero _)
    | succ nf ih2 =>
      intro i dep1 H locs ls hn hi hv hP hD hS hl
      refine lv_iload_n S.1 S.2.1 dX1_goOnFromState_2 rfl (lv_at hl 0 rfl) ?_
      refine lv_aload_n S.1 S.2.1 dX1_goOnFromState_3 rfl (lv_at hl 1 rfl) ?_
      refine rdV S cv_RX1_78 (c_X1_stateCount hV) hK hN hP (rp_rv hK hP) ⟨Nat.le_of_ble_eq_true rfl, Nat.le_of_ble_eq_true rfl⟩ ⟨Nat.zero_le _, Nat.zero_le _⟩ rfl hl.1 rfl (Nat.le_of_ble_eq_true rfl) dX1_goOnFromState_4 ?_
      refine lv_icmp_ge (tgt := 49) S.1 S.2.1 dX1_goOnFromState_7 (by decide) (fun h7 => ?_) (fun h7 => ?_)
      · have h7 := ge_n (by omega) (by omega) h7
        rw [fd_d h7] at hv
        subst hv
        exact wr_retv hQ S hr hlk hP hS rfl dX1_goOnFromState_49
      · have h7 := ge_f (by omega) (by omega) h7
        refine lv_aload_n S.1 S.2.1 dX1_goOnFromState_10 rfl (lv_at hl 1 rfl) ?_
        refine g1_depths S hK hP dX1_goOnFromState_11 ?_
        refine lv_iload_n S.1 S.2.1 dX1_goOnFromState_14 rfl (lv_at hl 0 rfl) ?_
        refine a1_dep (by omega) S hK hP dX1_goOnFromState_15 ?_
        refine lv_iconst (v := -1) S.1 S.2.1 dX1_goOnFromState_16 (by decide) ?_
        refine lv_icmp_ne (tgt := 43) S.1 S.2.1 dX1_goOnFromState_17 (by decide) (fun h17 => ?_) (fun h17 => ?_)
        · refine lv_iinc (v := nI (i + 1)) (lv' := [(2, .int (nI (i + 1))), (0, .ref (a 0)), (1, .int (nI fr))]) S.1 S.2.1 dX1_goOnFromState_43 hl (k := 0) rfl (nI_1 _) (by decide) rfl (fun ls hl => ?_)
          refine lv_goto (tgt := 2) S.1 S.2.1 dX1_goOnFromState_46 (by decide) ?_
          exact ih2 (i + 1) _ _ _ ls (by omega) (by omega) (fd_b h7 hv (by simp [stepC, h17])) hP hD hS (lv_sub hl [0, 1, 2] rfl)
        · refine lv_aload_n S.1 S.2.1 dX1_goOnFromState_20 rfl (lv_at hl 1 rfl) ?_
          refine lv_iload_n S.1 S.2.1 dX1_goOnFromState_21 rfl (lv_at hl 2 rfl) ?_
          refine lv_iload_n S.1 S.2.1 dX1_goOnFromState_22 rfl (lv_at hl 0 rfl) ?_
          refine rdV S cv_RX1_65 (c_X1_canGo (f := nI fr) (t := nI i) hV) hK hN hP (rp_rv hK hP) ⟨Nat.le_of_ble_eq_true rfl, Nat.le_of_ble_eq_true rfl⟩ ⟨Nat.zero_le _, Nat.zero_le _⟩ rfl hl.1 rfl (Nat.le_of_ble_eq_true rfl) dX1_goOnFromState_23 ?_
          refine lv_if_eq (tgt := 43) S.1 S.2.1 dX1_goOnFromState_26 (by decide) (fun h26 => ?_) (fun h26 => ?_)
          · have h26 : (goC N cn P M (nI fr) (nI i)) = false := bI_f h26
            refine lv_iinc (v := nI (i + 1)) (lv' := [(2, .int (nI (i + 1))), (0, .ref (a 0)), (1, .int (nI fr))]) S.1 S.2.1 dX1_goOnFromState_43 hl (k := 0) rfl (nI_1 _) (by decide) rfl (fun ls hl => ?_)
            refine lv_goto (tgt := 2) S.1 S.2.1 dX1_goOnFromState_46 (by decide) ?_
            exact ih2 (i + 1) _ _ _ ls (by omega) (by omega) (fd_b h7 hv (by simp [stepC, h17, h26])) hP hD hS (lv_sub hl [0, 1, 2] rfl)
          · have h26 : (goC N cn P M (nI fr) (nI i)) = true := bI_t h26
            refine lv_aload_n S.1 S.2.1 dX1_goOnFromState_29 rfl (lv_at hl 1 rfl) ?_
            refine g1_depths S hK hP dX1_goOnFromState_30 ?_
            refine lv_iload_n S.1 S.2.1 dX1_goOnFromState_33 rfl (lv_at hl 0 rfl) ?_
            refine lv_aload_n S.1 S.2.1 dX1_goOnFromState_34 rfl (lv_at hl 1 rfl) ?_
            refine g1_depths S hK hP dX1_goOnFromState_35 ?_
            refine lv_iload_n S.1 S.2.1 dX1_goOnFromState_38 rfl (lv_at hl 2 rfl) ?_
            refine a1_dep hf S hK hP dX1_goOnFromState_39 ?_
            refine lv_iconst (v := nI 1) S.1 S.2.1 dX1_goOnFromState_40 (by decide) ?_
            refine lv_iadd S.1 S.2.1 dX1_goOnFromState_41 ?_
            refine s1_dep (x := (dep1 fr) + (nI 1)) (by omega) S hK hP hD hS dX1_goOnFromState_42 (fun H locs hP hD hS => ?_)
            refine lv_iinc (v := nI (i + 1)) (lv' := [(2, .int (nI (i + 1))), (0, .ref (a 0)), (1, .int (nI fr))]) S.1 S.2.1 dX1_goOnFromState_43 hl (k := 0) rfl (nI_1 _) (by decide) rfl (fun ls hl => ?_)
            refine lv_goto (tgt := 2) S.1 S.2.1 dX1_goOnFromState_46 (by decide) ?_
            exact ih2 (i + 1) _ _ _ ls (by omega) (by omega) (fd_b h7 hv (by simp [stepC, h17, h26])) hP hD hS (lv_sub hl [0, 1, 2] rfl)
  exact loop2 _ 0 dep _ _ ls (Nat.lt_succ_self _) (Nat.zero_le _) rfl hP hD hS (lv_sub hl [0, 1, 2] rfl)
set_option maxHeartbeats 4000000 in
set_option maxRecDepth 100000 in
theorem c_X1_goOnFrom {l : Launch} {D : va_G} {cI cL : ClassId} {a : Nat → Nat} {dep : Nat → Int32} {dk : Bool} {N pl : Nat} {pe : Int32} {cn : Nat → Nat} {P M : Nat → Nat → Int32} {lev : Nat}  (hV : RInv N cn) : MetW l yX1_goOnFrom cX1_goOnFrom 3 none 3 [.ref (a 0), .int (nI lev)] D cI cL (RPw cI cL a dep dk N pl pe cn P M) (none) (RPw cI cL a (levC (fun f t => goC N cn P M (nI f) (nI t)) (2 ^ N) lev dep) dk N pl pe cn P M) := by
  refine MetW.mk (by decide) (Nat.le_of_ble_eq_true rfl) ?_
  intro p e s m args below meth c Q A hQ S hr hlk hN hK hP hD hS ls hl
  have S : CallFix p m c cX1_goOnFrom 3 s args wt RX1 := S
  have hl : lv_has ls 3 [(0, .ref (a 0)), (1, .int (nI lev))] := hl
  have hz := hV.S
  refine lv_iconst (v := nI 0) S.1 S.2.1 dX1_goOnFrom_0 (by decide) ?_
  refine lv_istore_n (lv' := [(2, .int (nI 0)), (0, .ref (a 0)), (1, .int (nI lev))]) S.1 S.2.1 dX1_goOnFrom_1 rfl hl (by decide) rfl (fun ls hl => ?_)
  have loop2 : ∀ (nf : Nat) (i : Nat) (dep1 : Nat → Int32) (H : Heap) (locs : List Loc) (ls : Array Slot), 2 ^ N - i < nf → i ≤ 2 ^ N → fd (fromC (fun f t => goC N cn P M (nI f) (nI t)) (2 ^ N) lev) (2 ^ N) i dep1 = levC (fun f t => goC N cn P M (nI f) (nI t)) (2 ^ N) lev dep → va_P D classes (RPw cI cL a dep1 dk N pl pe cn P M) H → va_D A (RPw cI cL a dep1 dk N pl pe cn P M) → va_S A s.heap H locs → lv_has ls 3 [(2, .int (nI i)), (0, .ref (a 0)), (1, .int (nI lev))] → W p l e (rmd 3) s m args below meth c H locs 0 0 Q (F0 m 2 ls []) := by
    intro nf
    induction nf with
    | zero => exact fun i dep1 H locs ls hn => absurd hn (Nat.not_lt_zero _)
    | succ nf ih2 =>
      intro i dep1 H locs ls hn hi hv hP hD hS hl
      refine lv_iload_n S.1 S.2.1 dX1_goOnFrom_2 rfl (lv_at hl 0 rfl) ?_
      refine lv_aload_n S.1 S.2.1 dX1_goOnFrom_3 rfl (lv_at hl 1 rfl) ?_
      refine rdV S cv_RX1_78 (c_X1_stateCount hV) hK hN hP (rp_rv hK hP) ⟨Nat.le_of_ble_eq_true rfl, Nat.le_of_ble_eq_true rfl⟩ ⟨Nat.zero_le _, Nat.zero_le _⟩ rfl hl.1 rfl (Nat.le_of_ble_eq_true rfl) dX1_goOnFrom_4 ?_
      refine lv_icmp_ge (tgt := 31) S.1 S.2.1 dX1_goOnFrom_7 (by decide) (fun h7 => ?_) (fun h7 => ?_)
      · have h7 := ge_n (by omega) (by omega) h7
        rw [fd_d h7] at hv
        subst hv
        exact wr_retv hQ S hr hlk hP hS rfl dX1_goOnFrom_31
      · have h7 := ge_f (by omega) (by omega) h7
        refine lv_aload_n S.1 S.2.1 dX1_goOnFrom_10 rfl (lv_at hl 1 rfl) ?_
        refine g1_depths S hK hP dX1_goOnFrom_11 ?_
        refine lv_iload_n S.1 S.2.1 dX1_goOnFrom_14 rfl (lv_at hl 0 rfl) ?_
        refine a1_dep (by omega) S hK hP dX1_goOnFrom_15 ?_
        refine lv_iload_n S.1 S.2.1 dX1_goOnFrom_16 rfl (lv_at hl 2 rfl) ?_
        refine lv_icmp_ne (tgt := 25) S.1 S.2.1 dX1_goOnFrom_17 (by decide) (fun h17 => ?_) (fun h17 => ?_)
        · refine lv_iinc (v := nI (i + 1)) (lv' := [(2, .int (nI (i + 1))), (0, .ref (a 0)), (1, .int (nI lev))]) S.1 S.2.1 dX1_goOnFrom_25 hl (k := 0) rfl (nI_1 _) (by decide) rfl (fun ls hl => ?_)
          refine lv_goto (tgt := 2) S.1 S.2.1 dX1_goOnFrom_28 (by decide) ?_
          exact ih2 (i + 1) _ _ _ ls (by omega) (by omega) (fd_b h7 hv (by simp [fromC, h17])) hP hD hS (lv_sub hl [0, 1, 2] rfl)
        · refine lv_aload_n S.1 S.2.1 dX1_goOnFrom_20 rfl (lv_at hl 1 rfl) ?_
          refine lv_iload_n S.1 S.2.1 dX1_goOnFrom_21 rfl (lv_at hl 0 rfl) ?_
          refine wrVv S cv_RX1_98 (c_X1_goOnFromState (fr := i) (by omega) hV) hK hN hP hD hS (rp_rv hK hP) ⟨Nat.le_of_ble_eq_true rfl, Nat.le_of_ble_eq_true rfl⟩ ⟨Nat.zero_le _, Nat.zero_le _⟩ rfl hl.1 rfl (Nat.le_of_ble_eq_true rfl) dX1_goOnFrom_22 (fun H locs hP hS _ => ?_)
          have hD : va_D A (RPw cI cL a (fd (stepC (fun f t => goC N cn P M (nI f) (nI t)) i) (2 ^ N) 0 dep1) dk N pl pe cn P M) := D_same hD rfl
          refine lv_iinc (v := nI (i + 1)) (lv' := [(2, .int (nI (i + 1))), (0, .ref (a 0)), (1, .int (nI lev))]) S.1 S.2.1 dX1_goOnFrom_25 hl (k := 0) rfl (nI_1 _) (by decide) rfl (fun ls hl => ?_)
          refine lv_goto (tgt := 2) S.1 S.2.1 dX1_goOnFrom_28 (by decide) ?_
          exact ih2 (i + 1) _ _ _ ls (by omega) (by omega) (fd_b h7 hv (by simp [fromC, h17])) hP hD hS (lv_sub hl [0, 1, 2] rfl)
  exact loop2 _ 0 dep _ _ ls (Nat.lt_succ_self _) (Nat.zero_le _) rfl hP hD hS (lv_sub hl [0, 1, 2] rfl)
set_option maxHeartbeats 4000000 in
set_option maxRecDepth 100000 in
theorem c_X1_findDepths {l : Launch} {D : va_G} {cI cL : ClassId} {a : Nat → Nat} {dep : Nat → Int32} {dk : Bool} {N pl : Nat} {pe : Int32} {cn : Nat → Nat} {P M : Nat → Nat → Int32}  (hV : RInv N cn) : MetW l yX1_findDepths cX1_findDepths 2 none 4 [.ref (a 0)] D cI cL (RPw cI cL a dep dk N pl pe cn P M) (none) (RPw cI cL a (depC dk N cn P M dep) true N pl pe cn P M) := by
  refine MetW.mk (by decide) (Nat.le_of_ble_eq_true rfl) ?_
  intro p e s m args below meth c Q A hQ S hr hlk hN hK hP hD hS ls hl
  have S : CallFix p m c cX1_findDepths 2 s args wt RX1 := S
  have hl : lv_has ls 2 [(0, .ref (a 0))] := hl
  have hz := hV.S
  rcases dk with _ | _
  · refine lv_aload_n S.1 S.2.1 dX1_findDepths_0 rfl (lv_at hl 0 rfl) ?_
    refine g1_depthsKnown S hK hP dX1_findDepths_1 ?_
    refine lv_if_eq (tgt := 8) S.1 S.2.1 dX1_findDepths_4 (by decide) (fun _ => ?_) (fun hh => absurd rfl hh)
    refine lv_iconst (v := nI 0) S.1 S.2.1 dX1_findDepths_8 (by decide) ?_
    refine lv_istore_n (lv' := [(1, .int (nI 0)), (0, .ref (a 0))]) S.1 S.2.1 dX1_findDepths_9 rfl hl (by decide) rfl (fun ls hl => ?_)
    have loop10 : ∀ (nf : Nat) (i : Nat) (dep1 : Nat → Int32) (H : Heap) (locs : List Loc) (ls : Array Slot), 2 ^ N - i < nf → i ≤ 2 ^ N → fd (iniC (fun i => inC cn P M 0 (nI i))) (2 ^ N) i dep1 = fd (iniC (fun i => inC cn P M 0 (nI i))) (2 ^ N) 0 dep → va_P D classes (RPw cI cL a dep1 false N pl pe cn P M) H → va_D A (RPw cI cL a dep1 false N pl pe cn P M) → va_S A s.heap H locs → lv_has ls 2 [(1, .int (nI i)), (0, .ref (a 0))] → W p l e (rmd 4) s m args below meth c H locs 0 0 Q (F0 m 10 ls []) := by
      intro nf
      induction nf with
      | zero => exact fun i dep1 H locs ls hn => absurd hn (Nat.not_lt_zero _)
      | succ nf ih10 =>
        intro i dep1 H locs ls hn hi hv hP hD hS hl
        refine lv_iload_n S.1 S.2.1 dX1_findDepths_10 rfl (lv_at hl 0 rfl) ?_
        refine lv_aload_n S.1 S.2.1 dX1_findDepths_11 rfl (lv_at hl 1 rfl) ?_
        refine rdV S cv_RX1_78 (c_X1_stateCount hV) hK hN hP (rp_rv hK hP) ⟨Nat.le_of_ble_eq_true rfl, Nat.le_of_ble_eq_true rfl⟩ ⟨Nat.zero_le _, Nat.zero_le _⟩ rfl hl.1 rfl (Nat.le_of_ble_eq_true rfl) dX1_findDepths_12 ?_
        refine lv_icmp_ge (tgt := 44) S.1 S.2.1 dX1_findDepths_15 (by decide) (fun h15 => ?_) (fun h15 => ?_)
        · have h15 := ge_n (by omega) (by omega) h15
          rw [fd_d h15] at hv
          subst hv
          refine lv_iconst (v := nI 0) S.1 S.2.1 dX1_findDepths_44 (by decide) ?_
          refine lv_istore_n (lv' := [(1, .int (nI 0)), (0, .ref (a 0))]) S.1 S.2.1 dX1_findDepths_45 rfl hl (by decide) rfl (fun ls hl => ?_)
          have loop46 : ∀ (nf : Nat) (i : Nat) (dep1 : Nat → Int32) (H : Heap) (locs : List Loc) (ls : Array Slot), 2 ^ N - i < nf → i ≤ 2 ^ N → fd (levC (fun f t => goC N cn P M (nI f) (nI t)) (2 ^ N)) (2 ^ N) i dep1 = findC N cn P M dep → va_P D classes (RPw cI cL a dep1 false N pl pe cn P M) H → va_D A (RPw cI cL a dep1 false N pl pe cn P M) → va_S A s.heap H locs → lv_has ls 2 [(1, .int (nI i)), (0, .ref (a 0))] → W p l e (rmd 4) s m args below meth c H locs 0 0 Q (F0 m 46 ls []) := by
            intro nf
            induction nf with
            | zero => exact fun i dep1 H locs ls hn => absurd hn (Nat.not_lt_zero _)
            | succ nf ih46 =>
              intro i dep1 H locs ls hn hi hv hP hD hS hl
              refine lv_iload_n S.1 S.2.1 dX1_findDepths_46 rfl (lv_at hl 0 rfl) ?_
              refine lv_aload_n S.1 S.2.1 dX1_findDepths_47 rfl (lv_at hl 1 rfl) ?_
              refine rdV S cv_RX1_78 (c_X1_stateCount hV) hK hN hP (rp_rv hK hP) ⟨Nat.le_of_ble_eq_true rfl, Nat.le_of_ble_eq_true rfl⟩ ⟨Nat.zero_le _, Nat.zero_le _⟩ rfl hl.1 rfl (Nat.le_of_ble_eq_true rfl) dX1_findDepths_48 ?_
              refine lv_icmp_ge (tgt := 65) S.1 S.2.1 dX1_findDepths_51 (by decide) (fun h51 => ?_) (fun h51 => ?_)
              · have h51 := ge_n (by omega) (by omega) h51
                rw [fd_d h51] at hv
                subst hv
                refine lv_aload_n S.1 S.2.1 dX1_findDepths_65 rfl (lv_at hl 1 rfl) ?_
                refine lv_iconst (v := nI 1) S.1 S.2.1 dX1_findDepths_66 (by decide) ?_
                refine tp (y := bI true) (by decide) ?_
                refine p1_depthsKnown (x := true) S hK hP hD hS dX1_findDepths_67 (fun H locs hP hD hS => ?_)
                exact wr_retv hQ S hr hlk hP hS rfl dX1_findDepths_70
              · have h51 := ge_f (by omega) (by omega) h51
                refine lv_aload_n S.1 S.2.1 dX1_findDepths_54 rfl (lv_at hl 1 rfl) ?_
                refine lv_iload_n S.1 S.2.1 dX1_findDepths_55 rfl (lv_at hl 0 rfl) ?_
                refine wrVv S cv_RX1_94 (c_X1_goOnFrom (lev := i) hV) hK hN hP hD hS (rp_rv hK hP) ⟨Nat.le_of_ble_eq_true rfl, Nat.le_of_ble_eq_true rfl⟩ ⟨Nat.zero_le _, Nat.zero_le _⟩ rfl hl.1 rfl (Nat.le_of_ble_eq_true rfl) dX1_findDepths_56 (fun H locs hP hS _ => ?_)
                have hD : va_D A (RPw cI cL a (levC (fun f t => goC N cn P M (nI f) (nI t)) (2 ^ N) i dep1) false N pl pe cn P M) := D_same hD rfl
                refine lv_iinc (v := nI (i + 1)) (lv' := [(1, .int (nI (i + 1))), (0, .ref (a 0))]) S.1 S.2.1 dX1_findDepths_59 hl (k := 0) rfl (nI_1 _) (by decide) rfl (fun ls hl => ?_)
                refine lv_goto (tgt := 46) S.1 S.2.1 dX1_findDepths_62 (by decide) ?_
                exact ih46 (i + 1) _ _ _ ls (by omega) (by omega) (fd_b h51 hv rfl) hP hD hS (lv_sub hl [0, 1] rfl)
          exact loop46 _ 0 _ _ _ ls (Nat.lt_succ_self _) (Nat.zero_le _) rfl hP hD hS (lv_sub hl [0, 1] rfl)
        · have h15 := ge_f (by omega) (by omega) h15
          refine lv_aload_n S.1 S.2.1 dX1_findDepths_18 rfl (lv_at hl 1 rfl) ?_
          refine g1_depths S hK hP dX1_findDepths_19 ?_
          refine lv_iload_n S.1 S.2.1 dX1_findDepths_22 rfl (lv_at hl 0 rfl) ?_
          refine lv_aload_n S.1 S.2.1 dX1_findDepths_23 rfl (lv_at hl 1 rfl) ?_
          refine lv_iconst (v := nI 0) S.1 S.2.1 dX1_findDepths_24 (by decide) ?_
          refine lv_iload_n S.1 S.2.1 dX1_findDepths_25 rfl (lv_at hl 0 rfl) ?_
          refine rdV S cv_RX1_68 (c_X1_isIn (k := 0) (x := nI i) (by decide) hV) hK hN hP (rp_rv hK hP) ⟨Nat.le_of_ble_eq_true rfl, Nat.le_of_ble_eq_true rfl⟩ ⟨Nat.zero_le _, Nat.zero_le _⟩ rfl hl.1 rfl (Nat.le_of_ble_eq_true rfl) dX1_findDepths_26 ?_
          refine lv_if_eq (tgt := 36) S.1 S.2.1 dX1_findDepths_29 (by decide) (fun h29 => ?_) (fun h29 => ?_)
          · have h29 : (inC cn P M 0 (nI i)) = false := bI_f h29
            refine lv_iconst (v := -1) S.1 S.2.1 dX1_findDepths_36 (by decide) ?_
            refine s1_dep (x := -1) (by omega) S hK hP hD hS dX1_findDepths_37 (fun H locs hP hD hS => ?_)
            refine lv_iinc (v := nI (i + 1)) (lv' := [(1, .int (nI (i + 1))), (0, .ref (a 0))]) S.1 S.2.1 dX1_findDepths_38 hl (k := 0) rfl (nI_1 _) (by decide) rfl (fun ls hl => ?_)
            refine lv_goto (tgt := 10) S.1 S.2.1 dX1_findDepths_41 (by decide) ?_
            exact ih10 (i + 1) _ _ _ ls (by omega) (by omega) (fd_b h15 hv (by simp [iniC, h29])) hP hD hS (lv_sub hl [0, 1] rfl)
          · have h29 : (inC cn P M 0 (nI i)) = true := bI_t h29
            refine lv_iconst (v := nI 0) S.1 S.2.1 dX1_findDepths_32 (by decide) ?_
            refine lv_goto (tgt := 37) S.1 S.2.1 dX1_findDepths_33 (by decide) ?_
            refine s1_dep (x := nI 0) (by omega) S hK hP hD hS dX1_findDepths_37 (fun H locs hP hD hS => ?_)
            refine lv_iinc (v := nI (i + 1)) (lv' := [(1, .int (nI (i + 1))), (0, .ref (a 0))]) S.1 S.2.1 dX1_findDepths_38 hl (k := 0) rfl (nI_1 _) (by decide) rfl (fun ls hl => ?_)
            refine lv_goto (tgt := 10) S.1 S.2.1 dX1_findDepths_41 (by decide) ?_
            exact ih10 (i + 1) _ _ _ ls (by omega) (by omega) (fd_b h15 hv (by simp [iniC, h29])) hP hD hS (lv_sub hl [0, 1] rfl)
    exact loop10 _ 0 dep _ _ ls (Nat.lt_succ_self _) (Nat.zero_le _) rfl hP hD hS (lv_sub hl [0, 1] rfl)
  · refine lv_aload_n S.1 S.2.1 dX1_findDepths_0 rfl (lv_at hl 0 rfl) ?_
    refine g1_depthsKnown S hK hP dX1_findDepths_1 ?_
    refine lv_if_eq (tgt := 8) S.1 S.2.1 dX1_findDepths_4 (by decide) (fun hh => absurd hh (by decide)) (fun _ => ?_)
    exact wr_retv hQ S hr hlk hP hS rfl dX1_findDepths_7
set_option maxHeartbeats 4000000 in
set_option maxRecDepth 100000 in
theorem c_X1_worst {l : Launch} {D : va_G} {cI cL : ClassId} {a : Nat → Nat} {dep : Nat → Int32} {dk : Bool} {N pl : Nat} {pe : Int32} {cn : Nat → Nat} {P M : Nat → Nat → Int32}  (hV : RInv N cn) : MetW l yX1_worst cX1_worst 2 (some .int) 5 [.ref (a 0)] D cI cL (RPw cI cL a dep dk N pl pe cn P M) (some (.int (oI (-1) (woC N cn P M (depC dk N cn P M dep))))) (RPw cI cL a (depC dk N cn P M dep) true N pl pe cn P M) := by
  refine MetW.mk (by decide) (Nat.le_of_ble_eq_true rfl) ?_
  intro p e s m args below meth c Q A hQ S hr hlk hN hK hP hD hS ls hl
  have S : CallFix p m c cX1_worst 2 s args wt RX1 := S
  have hl : lv_has ls 2 [(0, .ref (a 0))] := hl
  have hz := hV.S
  refine lv_aload_n S.1 S.2.1 dX1_worst_0 rfl (lv_at hl 0 rfl) ?_
  refine wrVv S cv_RX1_75 (c_X1_findDepths hV) hK hN hP hD hS (rp_rv hK hP) ⟨Nat.le_of_ble_eq_true rfl, Nat.le_of_ble_eq_true rfl⟩ ⟨Nat.zero_le _, Nat.zero_le _⟩ rfl hl.1 rfl (Nat.le_of_ble_eq_true rfl) dX1_worst_1 (fun H locs hP hS _ => ?_)
  have hD : va_D A (RPw cI cL a (depC dk N cn P M dep) true N pl pe cn P M) := D_same hD rfl
  refine lv_iconst (v := nI 0) S.1 S.2.1 dX1_worst_4 (by decide) ?_
  refine lv_istore_n (lv' := [(1, .int (nI 0)), (0, .ref (a 0))]) S.1 S.2.1 dX1_worst_5 rfl hl (by decide) rfl (fun ls hl => ?_)
  have loop6 : ∀ (nf : Nat) (i : Nat) (H : Heap) (locs : List Loc) (ls : Array Slot), 2 ^ N - i < nf → i ≤ 2 ^ N → fo (rbC (depC dk N cn P M dep) cn P M) (2 ^ N) i = woC N cn P M (depC dk N cn P M dep) → va_P D classes (RPw cI cL a (depC dk N cn P M dep) true N pl pe cn P M) H → va_D A (RPw cI cL a (depC dk N cn P M dep) true N pl pe cn P M) → va_S A s.heap H locs → lv_has ls 2 [(1, .int (nI i)), (0, .ref (a 0))] → W p l e (rmd 5) s m args below meth c H locs 0 0 Q (F0 m 6 ls []) := by
    intro nf
    induction nf with
    | zero => exact fun i H locs ls hn => absurd hn (Nat.not_lt_zero _)
    | succ nf ih6 =>
      intro i H locs ls hn hi hv hP hD hS hl
      refine lv_iload_n S.1 S.2.1 dX1_worst_6 rfl (lv_at hl 0 rfl) ?_
      refine lv_aload_n S.1 S.2.1 dX1_worst_7 rfl (lv_at hl 1 rfl) ?_
      refine rdV S cv_RX1_78 (c_X1_stateCount hV) hK hN hP (rp_rv hK hP) ⟨Nat.le_of_ble_eq_true rfl, Nat.le_of_ble_eq_true rfl⟩ ⟨Nat.zero_le _, Nat.zero_le _⟩ rfl hl.1 rfl (Nat.le_of_ble_eq_true rfl) dX1_worst_8 ?_
      refine lv_icmp_ge (tgt := 30) S.1 S.2.1 dX1_worst_11 (by decide) (fun h11 => ?_) (fun h11 => ?_)
      · have h11 := ge_n (by omega) (by omega) h11
        refine lv_iconst (v := -1) S.1 S.2.1 dX1_worst_30 (by decide) ?_
        exact wr_ret hQ S hr hlk hP hS rfl (by rw [← hv, fo_d h11]; rfl) dX1_worst_31
      · have h11 := ge_f (by omega) (by omega) h11
        refine lv_aload_n S.1 S.2.1 dX1_worst_14 rfl (lv_at hl 1 rfl) ?_
        refine lv_iload_n S.1 S.2.1 dX1_worst_15 rfl (lv_at hl 0 rfl) ?_
        refine rdV S cv_RX1_81 (c_X1_isReachedBad (i := i) (by omega) hV) hK hN hP (rp_rv hK hP) ⟨Nat.le_of_ble_eq_true rfl, Nat.le_of_ble_eq_true rfl⟩ ⟨Nat.zero_le _, Nat.zero_le _⟩ rfl hl.1 rfl (Nat.le_of_ble_eq_true rfl) dX1_worst_16 ?_
        refine lv_if_eq (tgt := 24) S.1 S.2.1 dX1_worst_19 (by decide) (fun h19 => ?_) (fun h19 => ?_)
        · have h19 : (rbC (depC dk N cn P M dep) cn P M i) = false := bI_f h19
          refine lv_iinc (v := nI (i + 1)) (lv' := [(1, .int (nI (i + 1))), (0, .ref (a 0))]) S.1 S.2.1 dX1_worst_24 hl (k := 0) rfl (nI_1 _) (by decide) rfl (fun ls hl => ?_)
          refine lv_goto (tgt := 6) S.1 S.2.1 dX1_worst_27 (by decide) ?_
          exact ih6 (i + 1) _ _ ls (by omega) (by omega) (by rw [← hv, fo_s h11, if_neg (by rw [h19]; decide)]) hP hD hS (lv_sub hl [0, 1] rfl)
        · have h19 : (rbC (depC dk N cn P M dep) cn P M i) = true := bI_t h19
          refine lv_iload_n S.1 S.2.1 dX1_worst_22 rfl (lv_at hl 0 rfl) ?_
          exact wr_ret hQ S hr hlk hP hS rfl (by rw [← hv, fo_s h11, if_pos h19]; rfl) dX1_worst_23
  exact loop6 _ 0 _ _ ls (Nat.lt_succ_self _) (Nat.zero_le _) rfl hP hD hS (lv_sub hl [0, 1] rfl)
set_option maxHeartbeats 4000000 in
set_option maxRecDepth 100000 in
theorem c_X1_safe {l : Launch} {D : va_G} {cI cL : ClassId} {a : Nat → Nat} {dep : Nat → Int32} {dk : Bool} {N pl : Nat} {pe : Int32} {cn : Nat → Nat} {P M : Nat → Nat → Int32}  (hV : RInv N cn) : MetW l yX1_safe cX1_safe 1 (some .boolean) 6 [.ref (a 0)] D cI cL (RPw cI cL a dep dk N pl pe cn P M) (some (.int (bI (decide (oI (-1) (woC N cn P M (depC dk N cn P M dep)) = -1))))) (RPw cI cL a (depC dk N cn P M dep) true N pl pe cn P M) := by
  refine MetW.mk (by decide) (Nat.le_of_ble_eq_true rfl) ?_
  intro p e s m args below meth c Q A hQ S hr hlk hN hK hP hD hS ls hl
  have S : CallFix p m c cX1_safe 1 s args wt RX1 := S
  have hl : lv_has ls 1 [(0, .ref (a 0))] := hl
  refine lv_aload_n S.1 S.2.1 dX1_safe_0 rfl (lv_at hl 0 rfl) ?_
  refine wrVi S cv_RX1_71 (c_X1_worst hV) hK hN hP hD hS (rp_rv hK hP) ⟨Nat.le_of_ble_eq_true rfl, Nat.le_of_ble_eq_true rfl⟩ ⟨Nat.zero_le _, Nat.zero_le _⟩ rfl hl.1 rfl (Nat.le_of_ble_eq_true rfl) dX1_safe_1 (fun H locs hP hS _ => ?_)
  have hD : va_D A (RPw cI cL a (depC dk N cn P M dep) true N pl pe cn P M) := D_same hD rfl
  refine lv_iconst (v := -1) S.1 S.2.1 dX1_safe_4 (by decide) ?_
  refine lv_icmp_ne (tgt := 12) S.1 S.2.1 dX1_safe_5 (by decide) (fun h5 => ?_) (fun h5 => ?_)
  · refine lv_iconst (v := nI 0) S.1 S.2.1 dX1_safe_12 (by decide) ?_
    exact wr_retz hQ S hr hlk hP hS rfl (r0 (by simp [h5])) dX1_safe_13
  · refine lv_iconst (v := nI 1) S.1 S.2.1 dX1_safe_8 (by decide) ?_
    refine lv_goto (tgt := 13) S.1 S.2.1 dX1_safe_9 (by decide) ?_
    exact wr_retz hQ S hr hlk hP hS rfl (r1 (by simp [h5])) dX1_safe_13
set_option maxHeartbeats 4000000 in
set_option maxRecDepth 100000 in
theorem c_X1_steps {l : Launch} {D : va_G} {cI cL : ClassId} {a : Nat → Nat} {dep : Nat → Int32} {dk : Bool} {N pl : Nat} {pe : Int32} {cn : Nat → Nat} {P M : Nat → Nat → Int32}  (hV : RInv N cn) : MetW l yX1_steps cX1_steps 3 (some .int) 5 [.ref (a 0)] D cI cL (RPw cI cL a dep dk N pl pe cn P M) (some (.int (stC N cn P M (depC dk N cn P M dep)))) (RPw cI cL a (depC dk N cn P M dep) true N pl pe cn P M) := by
  refine MetW.mk (by decide) (Nat.le_of_ble_eq_true rfl) ?_
  intro p e s m args below meth c Q A hQ S hr hlk hN hK hP hD hS ls hl
  have S : CallFix p m c cX1_steps 3 s args wt RX1 := S
  have hl : lv_has ls 3 [(0, .ref (a 0))] := hl
  have hz := hV.S
  refine lv_aload_n S.1 S.2.1 dX1_steps_0 rfl (lv_at hl 0 rfl) ?_
  refine wrVv S cv_RX1_75 (c_X1_findDepths hV) hK hN hP hD hS (rp_rv hK hP) ⟨Nat.le_of_ble_eq_true rfl, Nat.le_of_ble_eq_true rfl⟩ ⟨Nat.zero_le _, Nat.zero_le _⟩ rfl hl.1 rfl (Nat.le_of_ble_eq_true rfl) dX1_steps_1 (fun H locs hP hS _ => ?_)
  have hD : va_D A (RPw cI cL a (depC dk N cn P M dep) true N pl pe cn P M) := D_same hD rfl
  refine lv_iconst (v := -1) S.1 S.2.1 dX1_steps_4 (by decide) ?_
  refine lv_istore_n (lv' := [(1, .int (-1)), (0, .ref (a 0))]) S.1 S.2.1 dX1_steps_5 rfl hl (by decide) rfl (fun ls hl => ?_)
  refine lv_iconst (v := nI 0) S.1 S.2.1 dX1_steps_6 (by decide) ?_
  refine lv_istore_n (lv' := [(2, .int (nI 0)), (1, .int (-1)), (0, .ref (a 0))]) S.1 S.2.1 dX1_steps_7 rfl hl (by decide) rfl (fun ls hl => ?_)
  have loop8 : ∀ (nf : Nat) (i : Nat) (x : Int32) (H : Heap) (locs : List Loc) (ls : Array Slot), 2 ^ N - i < nf → i ≤ 2 ^ N → fd (minF (fun i x => rbC (depC dk N cn P M dep) cn P M i && (decide (x = -1) || !decide (x ≤ (depC dk N cn P M dep) i))) (depC dk N cn P M dep)) (2 ^ N) i x = stC N cn P M (depC dk N cn P M dep) → va_P D classes (RPw cI cL a (depC dk N cn P M dep) true N pl pe cn P M) H → va_D A (RPw cI cL a (depC dk N cn P M dep) true N pl pe cn P M) → va_S A s.heap H locs → lv_has ls 3 [(2, .int (nI i)), (1, .int x), (0, .ref (a 0))] → W p l e (rmd 5) s m args below meth c H locs 0 0 Q (F0 m 8 ls []) := by
    intro nf
    induction nf with
    | zero => exact fun i x H locs ls hn => absurd hn (Nat.not_lt_zero _)
    | succ nf ih8 =>
      intro i x H locs ls hn hi hv hP hD hS hl
      refine lv_iload_n S.1 S.2.1 dX1_steps_8 rfl (lv_at hl 0 rfl) ?_
      refine lv_aload_n S.1 S.2.1 dX1_steps_9 rfl (lv_at hl 2 rfl) ?_
      refine rdV S cv_RX1_78 (c_X1_stateCount hV) hK hN hP (rp_rv hK hP) ⟨Nat.le_of_ble_eq_true rfl, Nat.le_of_ble_eq_true rfl⟩ ⟨Nat.zero_le _, Nat.zero_le _⟩ rfl hl.1 rfl (Nat.le_of_ble_eq_true rfl) dX1_steps_10 ?_
      refine lv_icmp_ge (tgt := 52) S.1 S.2.1 dX1_steps_13 (by decide) (fun h13 => ?_) (fun h13 => ?_)
      · have h13 := ge_n (by omega) (by omega) h13
        refine lv_iload_n S.1 S.2.1 dX1_steps_52 rfl (lv_at hl 1 rfl) ?_
        exact wr_ret hQ S hr hlk hP hS rfl (by rw [← hv, fd_d h13]) dX1_steps_53
      · have h13 := ge_f (by omega) (by omega) h13
        refine lv_aload_n S.1 S.2.1 dX1_steps_16 rfl (lv_at hl 2 rfl) ?_
        refine lv_iload_n S.1 S.2.1 dX1_steps_17 rfl (lv_at hl 0 rfl) ?_
        refine rdV S cv_RX1_81 (c_X1_isReachedBad (i := i) (by omega) hV) hK hN hP (rp_rv hK hP) ⟨Nat.le_of_ble_eq_true rfl, Nat.le_of_ble_eq_true rfl⟩ ⟨Nat.zero_le _, Nat.zero_le _⟩ rfl hl.1 rfl (Nat.le_of_ble_eq_true rfl) dX1_steps_18 ?_
        refine lv_if_eq (tgt := 46) S.1 S.2.1 dX1_steps_21 (by decide) (fun h21 => ?_) (fun h21 => ?_)
        · have h21 : (rbC (depC dk N cn P M dep) cn P M i) = false := bI_f h21
          refine lv_iinc (v := nI (i + 1)) (lv' := [(2, .int (nI (i + 1))), (1, .int x), (0, .ref (a 0))]) S.1 S.2.1 dX1_steps_46 hl (k := 0) rfl (nI_1 _) (by decide) rfl (fun ls hl => ?_)
          refine lv_goto (tgt := 8) S.1 S.2.1 dX1_steps_49 (by decide) ?_
          exact ih8 (i + 1) _ _ _ ls (by omega) (by omega) (fd_b h13 hv (by simp [minF, h21])) hP hD hS (lv_sub hl [0, 1, 2] rfl)
        · have h21 : (rbC (depC dk N cn P M dep) cn P M i) = true := bI_t h21
          refine lv_iload_n S.1 S.2.1 dX1_steps_24 rfl (lv_at hl 1 rfl) ?_
          refine lv_iconst (v := -1) S.1 S.2.1 dX1_steps_25 (by decide) ?_
          refine lv_icmp_eq (tgt := 39) S.1 S.2.1 dX1_steps_26 (by decide) (fun h26 => ?_) (fun h26 => ?_)
          · refine lv_aload_n S.1 S.2.1 dX1_steps_39 rfl (lv_at hl 2 rfl) ?_
            refine g1_depths S hK hP dX1_steps_40 ?_
            refine lv_iload_n S.1 S.2.1 dX1_steps_43 rfl (lv_at hl 0 rfl) ?_
            refine a1_dep (by omega) S hK hP dX1_steps_44 ?_
            refine lv_istore_n (lv' := [(1, .int ((depC dk N cn P M dep) i)), (2, .int (nI i)), (0, .ref (a 0))]) S.1 S.2.1 dX1_steps_45 rfl hl (by decide) rfl (fun ls hl => ?_)
            refine lv_iinc (v := nI (i + 1)) (lv' := [(2, .int (nI (i + 1))), (1, .int ((depC dk N cn P M dep) i)), (0, .ref (a 0))]) S.1 S.2.1 dX1_steps_46 hl (k := 1) rfl (nI_1 _) (by decide) rfl (fun ls hl => ?_)
            refine lv_goto (tgt := 8) S.1 S.2.1 dX1_steps_49 (by decide) ?_
            exact ih8 (i + 1) _ _ _ ls (by omega) (by omega) (fd_b h13 hv (by simp [minF, h21, h26])) hP hD hS (lv_sub hl [0, 1, 2] rfl)
          · refine lv_aload_n S.1 S.2.1 dX1_steps_29 rfl (lv_at hl 2 rfl) ?_
            refine g1_depths S hK hP dX1_steps_30 ?_
            refine lv_iload_n S.1 S.2.1 dX1_steps_33 rfl (lv_at hl 0 rfl) ?_
            refine a1_dep (by omega) S hK hP dX1_steps_34 ?_
            refine lv_iload_n S.1 S.2.1 dX1_steps_35 rfl (lv_at hl 1 rfl) ?_
            refine lv_icmp_ge (tgt := 46) S.1 S.2.1 dX1_steps_36 (by decide) (fun h36 => ?_) (fun h36 => ?_)
            · refine lv_iinc (v := nI (i + 1)) (lv' := [(2, .int (nI (i + 1))), (1, .int x), (0, .ref (a 0))]) S.1 S.2.1 dX1_steps_46 hl (k := 0) rfl (nI_1 _) (by decide) rfl (fun ls hl => ?_)
              refine lv_goto (tgt := 8) S.1 S.2.1 dX1_steps_49 (by decide) ?_
              exact ih8 (i + 1) _ _ _ ls (by omega) (by omega) (fd_b h13 hv (by simp [minF, h21, h26, h36])) hP hD hS (lv_sub hl [0, 1, 2] rfl)
            · refine lv_aload_n S.1 S.2.1 dX1_steps_39 rfl (lv_at hl 2 rfl) ?_
              refine g1_depths S hK hP dX1_steps_40 ?_
              refine lv_iload_n S.1 S.2.1 dX1_steps_43 rfl (lv_at hl 0 rfl) ?_
              refine a1_dep (by omega) S hK hP dX1_steps_44 ?_
              refine lv_istore_n (lv' := [(1, .int ((depC dk N cn P M dep) i)), (2, .int (nI i)), (0, .ref (a 0))]) S.1 S.2.1 dX1_steps_45 rfl hl (by decide) rfl (fun ls hl => ?_)
              refine lv_iinc (v := nI (i + 1)) (lv' := [(2, .int (nI (i + 1))), (1, .int ((depC dk N cn P M dep) i)), (0, .ref (a 0))]) S.1 S.2.1 dX1_steps_46 hl (k := 1) rfl (nI_1 _) (by decide) rfl (fun ls hl => ?_)
              refine lv_goto (tgt := 8) S.1 S.2.1 dX1_steps_49 (by decide) ?_
              exact ih8 (i + 1) _ _ _ ls (by omega) (by omega) (fd_b h13 hv (by simp [minF, h21, h26, h36])) hP hD hS (lv_sub hl [0, 1, 2] rfl)
  exact loop8 _ 0 _ _ _ ls (Nat.lt_succ_self _) (Nat.zero_le _) rfl hP hD hS (lv_sub hl [0, 1, 2] rfl)
set_option maxHeartbeats 4000000 in
set_option maxRecDepth 100000 in
theorem c_X1_depth_f {l : Launch} {D : va_G} {cI cL : ClassId} {a : Nat → Nat} {dep : Nat → Int32} {dk : Bool} {N pl : Nat} {pe : Int32} {cn : Nat → Nat} {P M : Nat → Nat → Int32} {x : Int32} (hb : stB N x = false)  (hV : RInv N cn) : MetR l yX1_depth cX1_depth 2 (some .int) 5 [.ref (a 0), .int x] D cI cL (RPw cI cL a dep dk N pl pe cn P M) (-1) := by
  refine MetR.mk (by decide) (Nat.le_of_ble_eq_true rfl) ?_
  intro p e s m args below meth c Q hQ S hr hlk hN hK hP ls hl
  have S : CallFix p m c cX1_depth 2 s args wt RX1 := S
  have hl : lv_has ls 2 [(0, .ref (a 0)), (1, .int x)] := hl
  refine lv_aload_n S.1 S.2.1 dX1_depth_0 rfl (lv_at hl 0 rfl) ?_
  refine lv_iload_n S.1 S.2.1 dX1_depth_1 rfl (lv_at hl 1 rfl) ?_
  refine rdV S cv_RX1_62 (c_X1_isState (x := x) hV) hK hN hP (rp_rv hK hP) ⟨Nat.le_of_ble_eq_true rfl, Nat.le_of_ble_eq_true rfl⟩ ⟨Nat.zero_le _, Nat.zero_le _⟩ rfl hl.1 rfl (Nat.le_of_ble_eq_true rfl) dX1_depth_2 ?_
  refine lv_if_ne (tgt := 10) S.1 S.2.1 dX1_depth_5 (by decide) (fun hh => absurd (by rw [hb]; rfl) hh) (fun _ => ?_)
  refine lv_iconst (v := -1) S.1 S.2.1 dX1_depth_8 (by decide) ?_
  exact rd_ret hQ S hr hlk rfl dX1_depth_9
set_option maxHeartbeats 4000000 in
set_option maxRecDepth 100000 in
theorem c_X1_depth_t {l : Launch} {D : va_G} {cI cL : ClassId} {a : Nat → Nat} {dep : Nat → Int32} {dk : Bool} {N pl : Nat} {pe : Int32} {cn : Nat → Nat} {P M : Nat → Nat → Int32} {i : Nat} (hi : i < 2 ^ N)  (hV : RInv N cn) : MetW l yX1_depth cX1_depth 2 (some .int) 5 [.ref (a 0), .int (nI i)] D cI cL (RPw cI cL a dep dk N pl pe cn P M) (some (.int ((depC dk N cn P M dep) i))) (RPw cI cL a (depC dk N cn P M dep) true N pl pe cn P M) := by
  refine MetW.mk (by decide) (Nat.le_of_ble_eq_true rfl) ?_
  intro p e s m args below meth c Q A hQ S hr hlk hN hK hP hD hS ls hl
  have S : CallFix p m c cX1_depth 2 s args wt RX1 := S
  have hl : lv_has ls 2 [(0, .ref (a 0)), (1, .int (nI i))] := hl
  have hz := hV.S
  refine lv_aload_n S.1 S.2.1 dX1_depth_0 rfl (lv_at hl 0 rfl) ?_
  refine lv_iload_n S.1 S.2.1 dX1_depth_1 rfl (lv_at hl 1 rfl) ?_
  refine rdV S cv_RX1_62 (c_X1_isState (x := nI i) hV) hK hN hP (rp_rv hK hP) ⟨Nat.le_of_ble_eq_true rfl, Nat.le_of_ble_eq_true rfl⟩ ⟨Nat.zero_le _, Nat.zero_le _⟩ rfl hl.1 rfl (Nat.le_of_ble_eq_true rfl) dX1_depth_2 ?_
  refine lv_if_ne (tgt := 10) S.1 S.2.1 dX1_depth_5 (by decide) (fun _ => ?_) (fun hh => absurd hh (by rw [stB_n hV hi]; decide))
  refine lv_aload_n S.1 S.2.1 dX1_depth_10 rfl (lv_at hl 0 rfl) ?_
  refine wrVv S cv_RX1_75 (c_X1_findDepths hV) hK hN hP hD hS (rp_rv hK hP) ⟨Nat.le_of_ble_eq_true rfl, Nat.le_of_ble_eq_true rfl⟩ ⟨Nat.zero_le _, Nat.zero_le _⟩ rfl hl.1 rfl (Nat.le_of_ble_eq_true rfl) dX1_depth_11 (fun H locs hP hS _ => ?_)
  have hD : va_D A (RPw cI cL a (depC dk N cn P M dep) true N pl pe cn P M) := D_same hD rfl
  refine lv_aload_n S.1 S.2.1 dX1_depth_14 rfl (lv_at hl 0 rfl) ?_
  refine g1_depths S hK hP dX1_depth_15 ?_
  refine lv_iload_n S.1 S.2.1 dX1_depth_18 rfl (lv_at hl 1 rfl) ?_
  refine a1_dep (by omega) S hK hP dX1_depth_19 ?_
  exact wr_ret hQ S hr hlk hP hS rfl rfl dX1_depth_20
set_option maxHeartbeats 4000000 in
set_option maxRecDepth 100000 in
theorem c_X1_reached {l : Launch} {D : va_G} {cI cL : ClassId} {a : Nat → Nat} {dep : Nat → Int32} {dk : Bool} {N pl : Nat} {pe : Int32} {cn : Nat → Nat} {P M : Nat → Nat → Int32}  (hV : RInv N cn) : MetW l yX1_reached cX1_reached 3 (some .int) 5 [.ref (a 0)] D cI cL (RPw cI cL a dep dk N pl pe cn P M) (some (.int (nI (reC N (depC dk N cn P M dep))))) (RPw cI cL a (depC dk N cn P M dep) true N pl pe cn P M) := by
  refine MetW.mk (by decide) (Nat.le_of_ble_eq_true rfl) ?_
  intro p e s m args below meth c Q A hQ S hr hlk hN hK hP hD hS ls hl
  have S : CallFix p m c cX1_reached 3 s args wt RX1 := S
  have hl : lv_has ls 3 [(0, .ref (a 0))] := hl
  have hz := hV.S
  refine lv_aload_n S.1 S.2.1 dX1_reached_0 rfl (lv_at hl 0 rfl) ?_
  refine wrVv S cv_RX1_75 (c_X1_findDepths hV) hK hN hP hD hS (rp_rv hK hP) ⟨Nat.le_of_ble_eq_true rfl, Nat.le_of_ble_eq_true rfl⟩ ⟨Nat.zero_le _, Nat.zero_le _⟩ rfl hl.1 rfl (Nat.le_of_ble_eq_true rfl) dX1_reached_1 (fun H locs hP hS _ => ?_)
  have hD : va_D A (RPw cI cL a (depC dk N cn P M dep) true N pl pe cn P M) := D_same hD rfl
  refine lv_iconst (v := nI 0) S.1 S.2.1 dX1_reached_4 (by decide) ?_
  refine lv_istore_n (lv' := [(1, .int (nI 0)), (0, .ref (a 0))]) S.1 S.2.1 dX1_reached_5 rfl hl (by decide) rfl (fun ls hl => ?_)
  refine lv_iconst (v := nI 0) S.1 S.2.1 dX1_reached_6 (by decide) ?_
  refine lv_istore_n (lv' := [(2, .int (nI 0)), (1, .int (nI 0)), (0, .ref (a 0))]) S.1 S.2.1 dX1_reached_7 rfl hl (by decide) rfl (fun ls hl => ?_)
  have loop8 : ∀ (nf : Nat) (i : Nat) (x : Nat) (H : Heap) (locs : List Loc) (ls : Array Slot), 2 ^ N - i < nf → i ≤ 2 ^ N → fd (cntF (fun i => !decide ((depC dk N cn P M dep) i = -1))) (2 ^ N) i x = reC N (depC dk N cn P M dep) → va_P D classes (RPw cI cL a (depC dk N cn P M dep) true N pl pe cn P M) H → va_D A (RPw cI cL a (depC dk N cn P M dep) true N pl pe cn P M) → va_S A s.heap H locs → lv_has ls 3 [(2, .int (nI i)), (1, .int (nI x)), (0, .ref (a 0))] → W p l e (rmd 5) s m args below meth c H locs 0 0 Q (F0 m 8 ls []) := by
    intro nf
    induction nf with
    | zero => exact fun i x H locs ls hn => absurd hn (Nat.not_lt_zero _)
    | succ nf ih8 =>
      intro i x H locs ls hn hi hv hP hD hS hl
      refine lv_iload_n S.1 S.2.1 dX1_reached_8 rfl (lv_at hl 0 rfl) ?_
      refine lv_aload_n S.1 S.2.1 dX1_reached_9 rfl (lv_at hl 2 rfl) ?_
      refine rdV S cv_RX1_78 (c_X1_stateCount hV) hK hN hP (rp_rv hK hP) ⟨Nat.le_of_ble_eq_true rfl, Nat.le_of_ble_eq_true rfl⟩ ⟨Nat.zero_le _, Nat.zero_le _⟩ rfl hl.1 rfl (Nat.le_of_ble_eq_true rfl) dX1_reached_10 ?_
      refine lv_icmp_ge (tgt := 35) S.1 S.2.1 dX1_reached_13 (by decide) (fun h13 => ?_) (fun h13 => ?_)
      · have h13 := ge_n (by omega) (by omega) h13
        refine lv_iload_n S.1 S.2.1 dX1_reached_35 rfl (lv_at hl 1 rfl) ?_
        exact wr_ret hQ S hr hlk hP hS rfl (by rw [← hv, fd_d h13]) dX1_reached_36
      · have h13 := ge_f (by omega) (by omega) h13
        refine lv_aload_n S.1 S.2.1 dX1_reached_16 rfl (lv_at hl 2 rfl) ?_
        refine g1_depths S hK hP dX1_reached_17 ?_
        refine lv_iload_n S.1 S.2.1 dX1_reached_20 rfl (lv_at hl 0 rfl) ?_
        refine a1_dep (by omega) S hK hP dX1_reached_21 ?_
        refine lv_iconst (v := -1) S.1 S.2.1 dX1_reached_22 (by decide) ?_
        refine lv_icmp_eq (tgt := 29) S.1 S.2.1 dX1_reached_23 (by decide) (fun h23 => ?_) (fun h23 => ?_)
        · refine lv_iinc (v := nI (i + 1)) (lv' := [(2, .int (nI (i + 1))), (1, .int (nI x)), (0, .ref (a 0))]) S.1 S.2.1 dX1_reached_29 hl (k := 0) rfl (nI_1 _) (by decide) rfl (fun ls hl => ?_)
          refine lv_goto (tgt := 8) S.1 S.2.1 dX1_reached_32 (by decide) ?_
          exact ih8 (i + 1) _ _ _ ls (by omega) (by omega) (fd_b h13 hv (by simp [cntF, h23])) hP hD hS (lv_sub hl [0, 1, 2] rfl)
        · refine lv_iinc (v := nI (x + 1)) (lv' := [(1, .int (nI (x + 1))), (2, .int (nI i)), (0, .ref (a 0))]) S.1 S.2.1 dX1_reached_26 hl (k := 1) rfl (nI_1 _) (by decide) rfl (fun ls hl => ?_)
          refine lv_iinc (v := nI (i + 1)) (lv' := [(2, .int (nI (i + 1))), (1, .int (nI (x + 1))), (0, .ref (a 0))]) S.1 S.2.1 dX1_reached_29 hl (k := 1) rfl (nI_1 _) (by decide) rfl (fun ls hl => ?_)
          refine lv_goto (tgt := 8) S.1 S.2.1 dX1_reached_32 (by decide) ?_
          exact ih8 (i + 1) _ _ _ ls (by omega) (by omega) (fd_b h13 hv (by simp [cntF, h23])) hP hD hS (lv_sub hl [0, 1, 2] rfl)
  exact loop8 _ 0 0 _ _ ls (Nat.lt_succ_self _) (Nat.zero_le _) rfl hP hD hS (lv_sub hl [0, 1, 2] rfl)
set_option maxHeartbeats 4000000 in
set_option maxRecDepth 100000 in
theorem c_X1_walk_f {l : Launch} {D : va_G} {cI cL : ClassId} {a : Nat → Nat} {dep : Nat → Int32} {dk : Bool} {N pl : Nat} {pe : Int32} {cn : Nat → Nat} {P M : Nat → Nat → Int32} {x : Int32} (hb : waB N pl pe cn P M x = false) (hp : pl ≤ 64)  (hV : RInv N cn) : MetR l yX1_walk cX1_walk 3 (some .int) 2 [.ref (a 0), .int x] D cI cL (RPw cI cL a dep dk N pl pe cn P M) (-1) := by
  refine MetR.mk (by decide) (Nat.le_of_ble_eq_true rfl) ?_
  intro p e s m args below meth c Q hQ S hr hlk hN hK hP ls hl
  have S : CallFix p m c cX1_walk 3 s args wt RX1 := S
  have hl : lv_has ls 3 [(0, .ref (a 0)), (1, .int x)] := hl
  refine lv_aload_n S.1 S.2.1 dX1_walk_0 rfl (lv_at hl 0 rfl) ?_
  refine lv_iload_n S.1 S.2.1 dX1_walk_1 rfl (lv_at hl 1 rfl) ?_
  refine rdV S cv_RX1_62 (c_X1_isState (x := x) hV) hK hN hP (rp_rv hK hP) ⟨Nat.le_of_ble_eq_true rfl, Nat.le_of_ble_eq_true rfl⟩ ⟨Nat.zero_le _, Nat.zero_le _⟩ rfl hl.1 rfl (Nat.le_of_ble_eq_true rfl) dX1_walk_2 ?_
  refine lv_if_eq (tgt := 17) S.1 S.2.1 dX1_walk_5 (by decide) (fun h5 => ?_) (fun h5 => ?_)
  · have h5 : (stB N x) = false := bI_f h5
    refine lv_iconst (v := -1) S.1 S.2.1 dX1_walk_17 (by decide) ?_
    exact rd_ret hQ S hr hlk rfl dX1_walk_18
  · have h5 : (stB N x) = true := bI_t h5
    refine lv_aload_n S.1 S.2.1 dX1_walk_8 rfl (lv_at hl 0 rfl) ?_
    refine g1_pathLength S hK hP dX1_walk_9 ?_
    refine lv_bipush (v := nI 64) S.1 S.2.1 dX1_walk_12 (by decide) ?_
    refine lv_icmp_lt (tgt := 19) S.1 S.2.1 dX1_walk_14 (by decide) (fun h14 => ?_) (fun h14 => ?_)
    · have h14 := lt_n (by omega) (by decide) h14
      refine lv_aload_n S.1 S.2.1 dX1_walk_19 rfl (lv_at hl 0 rfl) ?_
      refine g1_pathLength S hK hP dX1_walk_20 ?_
      refine lv_if_ne (tgt := 35) S.1 S.2.1 dX1_walk_23 (by decide) (fun h23 => ?_) (fun h23 => ?_)
      · refine lv_aload_n S.1 S.2.1 dX1_walk_35 rfl (lv_at hl 0 rfl) ?_
        refine lv_aload_n S.1 S.2.1 dX1_walk_36 rfl (lv_at hl 0 rfl) ?_
        refine g1_pathEnd S hK hP dX1_walk_37 ?_
        refine lv_iload_n S.1 S.2.1 dX1_walk_40 rfl (lv_at hl 1 rfl) ?_
        refine rdV S cv_RX1_65 (c_X1_canGo (f := pe) (t := x) hV) hK hN hP (rp_rv hK hP) ⟨Nat.le_of_ble_eq_true rfl, Nat.le_of_ble_eq_true rfl⟩ ⟨Nat.zero_le _, Nat.zero_le _⟩ rfl hl.1 rfl (Nat.le_of_ble_eq_true rfl) dX1_walk_41 ?_
        refine lv_istore_n (lv' := [(2, .int (bI (goC N cn P M pe x))), (0, .ref (a 0)), (1, .int x)]) S.1 S.2.1 dX1_walk_44 rfl hl (by decide) rfl (fun ls hl => ?_)
        refine lv_iload_n S.1 S.2.1 dX1_walk_45 rfl (lv_at hl 0 rfl) ?_
        refine lv_if_ne (tgt := 51) S.1 S.2.1 dX1_walk_46 (by decide) (fun h46 => ?_) (fun h46 => ?_)
        · have h46 : (goC N cn P M pe x) = true := bI_t h46
          exact absurd hb (by rw [waB_t h5 h14 (Or.inr ⟨h23, h46⟩)]; decide)
        · have h46 : (goC N cn P M pe x) = false := bI_f h46
          refine lv_iconst (v := -1) S.1 S.2.1 dX1_walk_49 (by decide) ?_
          exact rd_ret hQ S hr hlk rfl dX1_walk_50
      · refine lv_aload_n S.1 S.2.1 dX1_walk_26 rfl (lv_at hl 0 rfl) ?_
        refine lv_iconst (v := nI 0) S.1 S.2.1 dX1_walk_27 (by decide) ?_
        refine lv_iload_n S.1 S.2.1 dX1_walk_28 rfl (lv_at hl 1 rfl) ?_
        refine rdV S cv_RX1_68 (c_X1_isIn (k := 0) (x := x) (by decide) hV) hK hN hP (rp_rv hK hP) ⟨Nat.le_of_ble_eq_true rfl, Nat.le_of_ble_eq_true rfl⟩ ⟨Nat.zero_le _, Nat.zero_le _⟩ rfl hl.1 rfl (Nat.le_of_ble_eq_true rfl) dX1_walk_29 ?_
        refine lv_goto (tgt := 44) S.1 S.2.1 dX1_walk_32 (by decide) ?_
        refine lv_istore_n (lv' := [(2, .int (bI (inC cn P M 0 x))), (0, .ref (a 0)), (1, .int x)]) S.1 S.2.1 dX1_walk_44 rfl hl (by decide) rfl (fun ls hl => ?_)
        refine lv_iload_n S.1 S.2.1 dX1_walk_45 rfl (lv_at hl 0 rfl) ?_
        refine lv_if_ne (tgt := 51) S.1 S.2.1 dX1_walk_46 (by decide) (fun h46 => ?_) (fun h46 => ?_)
        · have h46 : (inC cn P M 0 x) = true := bI_t h46
          exact absurd hb (by rw [waB_t h5 h14 (Or.inl ⟨h23, h46⟩)]; decide)
        · have h46 : (inC cn P M 0 x) = false := bI_f h46
          refine lv_iconst (v := -1) S.1 S.2.1 dX1_walk_49 (by decide) ?_
          exact rd_ret hQ S hr hlk rfl dX1_walk_50
    · refine lv_iconst (v := -1) S.1 S.2.1 dX1_walk_17 (by decide) ?_
      exact rd_ret hQ S hr hlk rfl dX1_walk_18
set_option maxHeartbeats 4000000 in
set_option maxRecDepth 100000 in
theorem c_X1_walk_t {l : Launch} {D : va_G} {cI cL : ClassId} {a : Nat → Nat} {dep : Nat → Int32} {dk : Bool} {N pl : Nat} {pe : Int32} {cn : Nat → Nat} {P M : Nat → Nat → Int32} {x : Int32} (hb : waB N pl pe cn P M x = true)  (hV : RInv N cn) : MetW l yX1_walk cX1_walk 3 (some .int) 2 [.ref (a 0), .int x] D cI cL (RPw cI cL a dep dk N pl pe cn P M) (some (.int (nI (pl + 1)))) (RPw cI cL a dep dk N (pl + 1) x cn P M) := by
  refine MetW.mk (by decide) (Nat.le_of_ble_eq_true rfl) ?_
  intro p e s m args below meth c Q A hQ S hr hlk hN hK hP hD hS ls hl
  have S : CallFix p m c cX1_walk 3 s args wt RX1 := S
  have hl : lv_has ls 3 [(0, .ref (a 0)), (1, .int x)] := hl
  obtain ⟨hs, hp, hc⟩ := waB_e hb
  refine lv_aload_n S.1 S.2.1 dX1_walk_0 rfl (lv_at hl 0 rfl) ?_
  refine lv_iload_n S.1 S.2.1 dX1_walk_1 rfl (lv_at hl 1 rfl) ?_
  refine rdV S cv_RX1_62 (c_X1_isState (x := x) hV) hK hN hP (rp_rv hK hP) ⟨Nat.le_of_ble_eq_true rfl, Nat.le_of_ble_eq_true rfl⟩ ⟨Nat.zero_le _, Nat.zero_le _⟩ rfl hl.1 rfl (Nat.le_of_ble_eq_true rfl) dX1_walk_2 ?_
  refine lv_if_eq (tgt := 17) S.1 S.2.1 dX1_walk_5 (by decide) (fun hh => absurd hh (by rw [hs]; decide)) (fun _ => ?_)
  refine lv_aload_n S.1 S.2.1 dX1_walk_8 rfl (lv_at hl 0 rfl) ?_
  refine g1_pathLength S hK hP dX1_walk_9 ?_
  refine lv_bipush (v := nI 64) S.1 S.2.1 dX1_walk_12 (by decide) ?_
  refine lv_icmp_lt (tgt := 19) S.1 S.2.1 dX1_walk_14 (by decide) (fun _ => ?_) (fun hh => absurd ((nI_ltI (by omega) (by decide)).mpr hp) hh)
  refine lv_aload_n S.1 S.2.1 dX1_walk_19 rfl (lv_at hl 0 rfl) ?_
  refine g1_pathLength S hK hP dX1_walk_20 ?_
  refine lv_if_ne (tgt := 35) S.1 S.2.1 dX1_walk_23 (by decide) (fun h23 => ?_) (fun h23 => ?_)
  · refine lv_aload_n S.1 S.2.1 dX1_walk_35 rfl (lv_at hl 0 rfl) ?_
    refine lv_aload_n S.1 S.2.1 dX1_walk_36 rfl (lv_at hl 0 rfl) ?_
    refine g1_pathEnd S hK hP dX1_walk_37 ?_
    refine lv_iload_n S.1 S.2.1 dX1_walk_40 rfl (lv_at hl 1 rfl) ?_
    refine rdV S cv_RX1_65 (c_X1_canGo (f := pe) (t := x) hV) hK hN hP (rp_rv hK hP) ⟨Nat.le_of_ble_eq_true rfl, Nat.le_of_ble_eq_true rfl⟩ ⟨Nat.zero_le _, Nat.zero_le _⟩ rfl hl.1 rfl (Nat.le_of_ble_eq_true rfl) dX1_walk_41 ?_
    refine lv_istore_n (lv' := [(2, .int (bI (goC N cn P M pe x))), (0, .ref (a 0)), (1, .int x)]) S.1 S.2.1 dX1_walk_44 rfl hl (by decide) rfl (fun ls hl => ?_)
    refine lv_iload_n S.1 S.2.1 dX1_walk_45 rfl (lv_at hl 0 rfl) ?_
    refine lv_if_ne (tgt := 51) S.1 S.2.1 dX1_walk_46 (by decide) (fun _ => ?_) (fun hh => absurd hh (by rw [hc.2 h23]; decide))
    refine lv_aload_n S.1 S.2.1 dX1_walk_51 rfl (lv_at hl 1 rfl) ?_
    refine lv_iload_n S.1 S.2.1 dX1_walk_52 rfl (lv_at hl 2 rfl) ?_
    refine p1_pathEnd (x := x) S hK hP hD hS dX1_walk_53 (fun H locs hP hD hS => ?_)
    refine lv_aload_n S.1 S.2.1 dX1_walk_56 rfl (lv_at hl 1 rfl) ?_
    refine lv_dup S.1 S.2.1 dX1_walk_57 rfl ?_
    refine g1_pathLength S hK hP dX1_walk_58 ?_
    refine lv_iconst (v := nI 1) S.1 S.2.1 dX1_walk_61 (by decide) ?_
    refine lv_iadd S.1 S.2.1 dX1_walk_62 ?_
    refine tp (y := nI (pl + 1)) (nI_1 _) ?_
    refine p1_pathLength (x := (pl + 1)) S hK hP hD hS dX1_walk_63 (fun H locs hP hD hS => ?_)
    refine lv_aload_n S.1 S.2.1 dX1_walk_66 rfl (lv_at hl 1 rfl) ?_
    refine g1_pathLength S hK hP dX1_walk_67 ?_
    exact wr_ret hQ S hr hlk hP hS rfl rfl dX1_walk_70
  · refine lv_aload_n S.1 S.2.1 dX1_walk_26 rfl (lv_at hl 0 rfl) ?_
    refine lv_iconst (v := nI 0) S.1 S.2.1 dX1_walk_27 (by decide) ?_
    refine lv_iload_n S.1 S.2.1 dX1_walk_28 rfl (lv_at hl 1 rfl) ?_
    refine rdV S cv_RX1_68 (c_X1_isIn (k := 0) (x := x) (by decide) hV) hK hN hP (rp_rv hK hP) ⟨Nat.le_of_ble_eq_true rfl, Nat.le_of_ble_eq_true rfl⟩ ⟨Nat.zero_le _, Nat.zero_le _⟩ rfl hl.1 rfl (Nat.le_of_ble_eq_true rfl) dX1_walk_29 ?_
    refine lv_goto (tgt := 44) S.1 S.2.1 dX1_walk_32 (by decide) ?_
    refine lv_istore_n (lv' := [(2, .int (bI (inC cn P M 0 x))), (0, .ref (a 0)), (1, .int x)]) S.1 S.2.1 dX1_walk_44 rfl hl (by decide) rfl (fun ls hl => ?_)
    refine lv_iload_n S.1 S.2.1 dX1_walk_45 rfl (lv_at hl 0 rfl) ?_
    refine lv_if_ne (tgt := 51) S.1 S.2.1 dX1_walk_46 (by decide) (fun _ => ?_) (fun hh => absurd hh (by rw [hc.1 h23]; decide))
    refine lv_aload_n S.1 S.2.1 dX1_walk_51 rfl (lv_at hl 1 rfl) ?_
    refine lv_iload_n S.1 S.2.1 dX1_walk_52 rfl (lv_at hl 2 rfl) ?_
    refine p1_pathEnd (x := x) S hK hP hD hS dX1_walk_53 (fun H locs hP hD hS => ?_)
    refine lv_aload_n S.1 S.2.1 dX1_walk_56 rfl (lv_at hl 1 rfl) ?_
    refine lv_dup S.1 S.2.1 dX1_walk_57 rfl ?_
    refine g1_pathLength S hK hP dX1_walk_58 ?_
    refine lv_iconst (v := nI 1) S.1 S.2.1 dX1_walk_61 (by decide) ?_
    refine lv_iadd S.1 S.2.1 dX1_walk_62 ?_
    refine tp (y := nI (pl + 1)) (nI_1 _) ?_
    refine p1_pathLength (x := (pl + 1)) S hK hP hD hS dX1_walk_63 (fun H locs hP hD hS => ?_)
    refine lv_aload_n S.1 S.2.1 dX1_walk_66 rfl (lv_at hl 1 rfl) ?_
    refine g1_pathLength S hK hP dX1_walk_67 ?_
    exact wr_ret hQ S hr hlk hP hS rfl rfl dX1_walk_70
end
section
/-! the reference: what its methods compute, and their contracts -/
def btM (v : Int32) (i : Nat) : Bool := decide ((v >>> (nI i &&& 31)) &&& nI 1 = nI 1)
def cbM (p m x : Int32) (i : Nat) (h : Bool) : Bool := h || ((btM p i && btM x i) || (btM m i && !btM x i))
def clM (N : Nat) (p m x : Int32) : Bool := fd (cbM p m x) (2 * N) 0 false
def soM (N : Nat) (cn : Nat → Nat) (P M : Nat → Int32) (k : Nat) (x : Int32) : Bool := al (fun c => clM N (P (24 * k + c)) (M (24 * k + c)) x) (cn k) 0
def goM (N : Nat) (cn : Nat → Nat) (P M : Nat → Int32) (f t : Int32) : Bool := soM N cn P M 1 (f ||| (t <<< (nI N &&& 31)))
def hoM (N : Nat) (cn : Nat → Nat) (P M : Nat → Int32) (li x y : Int32) : Bool := liB li && (stB N x && (if li = nI 1 then stB N y && goM N cn P M x y else soM N cn P M li.toNatClampNeg x))
def tsM (g : Nat → Nat → Bool) (k s t : Nat) (x : (Nat → Int32) × Bool) : (Nat → Int32) × Bool := if ¬ 0 ≤ x.1 t ∧ g s t = true then (upd x.1 t (nI k + nI 1), true) else x
def tiK (g : Nat → Nat → Bool) (k s : Nat) : Nat → Nat → (Nat → Int32) × Bool → (Nat → Int32) × Bool
  | 0, _, x => x
  | f + 1, t, x => if x.1 s = nI k then tiK g k s f (t + 1) (tsM g k s t x) else x
def ti (g : Nat → Nat → Bool) (k s S t : Nat) (x : (Nat → Int32) × Bool) : (Nat → Int32) × Bool := tiK g k s (S - t) t x
theorem ti_d {g : Nat → Nat → Bool} {k s S t : Nat} {x : (Nat → Int32) × Bool} (h : S ≤ t) : ti g k s S t x = x := by
  unfold ti
  rw [Nat.sub_eq_zero_of_le h]
  rfl
theorem ti_n {g : Nat → Nat → Bool} {k s S t : Nat} {dp : Nat → Int32} {m : Bool} (h : ¬ dp s = nI k) : ti g k s S t (dp, m) = (dp, m) := by
  unfold ti
  cases S - t with
  | zero => rfl
  | succ f => unfold tiK; rw [if_neg h]
theorem ti_b {g : Nat → Nat → Bool} {k s S t : Nat} {dp : Nat → Int32} {m : Bool} {x' r : (Nat → Int32) × Bool} (h : t < S) (hs : dp s = nI k) (hv : ti g k s S t (dp, m) = r) (e : tsM g k s t (dp, m) = x') : ti g k s S (t + 1) x' = r := by
  rw [← hv, ← e]
  unfold ti
  obtain ⟨f, hf⟩ : ∃ f, S - t = f + 1 := ⟨S - t - 1, by omega⟩
  rw [hf, show S - (t + 1) = f by omega, tiK, if_pos hs]
def rnd (g : Nat → Nat → Bool) (S k : Nat) (dp : Nat → Int32) : (Nat → Int32) × Bool := fd (fun s x => ti g k s S 0 x) S 0 (dp, false)
def xpK (g : Nat → Nat → Bool) (S : Nat) : Nat → Nat → (Nat → Int32) → (Nat → Int32)
  | 0, _, dp => dp
  | f + 1, k, dp => if (rnd g S k dp).2 = true then xpK g S f (k + 1) (rnd g S k dp).1 else (rnd g S k dp).1
def xplM (N : Nat) (cn : Nat → Nat) (P M : Nat → Int32) (dep : Nat → Int32) : Nat → Int32 := xpK (fun f t => goM N cn P M (nI f) (nI t)) (2 ^ N) (2 ^ N + 1) 0 (fd (iniC (fun i => soM N cn P M 0 (nI i))) (2 ^ N) 0 dep)
/-- how many are not reached -/
def unK (dp : Nat → Int32) : Nat → Nat
  | 0 => 0
  | k + 1 => unK dp k + (if 0 ≤ dp k then 0 else 1)
def unr (S : Nat) (dp : Nat → Int32) : Nat := unK dp S
theorem unr_le : ∀ (S : Nat) (dp : Nat → Int32), unr S dp ≤ S
  | 0, _ => Nat.le_refl _
  | S + 1, dp => by
    have h := unr_le S dp
    unfold unr at h ⊢
    unfold unK
    split <;> omega
theorem unK_up {dp : Nat → Int32} {t : Nat} {v : Int32} (hv : 0 ≤ v) (ht : ¬ 0 ≤ dp t) : ∀ S, unK (upd dp t v) S = unK dp S - (if t < S then 1 else 0) ∧ (t < S → 1 ≤ unK dp S)
  | 0 => ⟨by simp [unK], fun h => absurd h (Nat.not_lt_zero _)⟩
  | S + 1 => by
    obtain ⟨h1, h2⟩ := unK_up hv ht S
    by_cases e : S = t
    · subst e
      have e1 : upd dp S v S = v := if_pos rfl
      simp only [unK, e1, h1, if_pos hv, if_neg ht]
      simp
    · have e1 : upd dp t v S = dp S := if_neg e
      by_cases hlt : t < S
      · have h3 := h2 hlt
        simp only [unK, e1, h1, if_pos hlt, if_pos (show t < S + 1 by omega)]
        exact ⟨by omega, fun _ => by omega⟩
      · simp only [unK, e1, h1, if_neg hlt, if_neg (show ¬ t < S + 1 by omega)]
        exact ⟨by omega, fun h => by omega⟩
/-- a round: it never loses a reached one; where it says 'more', it has found one -/
def mor (S : Nat) (x y : (Nat → Int32) × Bool) : Prop := unr S y.1 ≤ unr S x.1 ∧ (y.2 = true → x.2 = true ∨ unr S y.1 < unr S x.1)
theorem mor_rf {S : Nat} {x : (Nat → Int32) × Bool} : mor S x x := ⟨Nat.le_refl _, Or.inl⟩
theorem mor_tr {S : Nat} {x y z : (Nat → Int32) × Bool} (h1 : mor S x y) (h2 : mor S y z) : mor S x z := by
  refine ⟨Nat.le_trans h2.1 h1.1, fun h => ?_⟩
  rcases h2.2 h with h3 | h3
  · rcases h1.2 h3 with h4 | h4
    · exact Or.inl h4
    · exact Or.inr (Nat.lt_of_le_of_lt h2.1 h4)
  · exact Or.inr (Nat.lt_of_lt_of_le h3 h1.1)
theorem k1_pos {k : Nat} (hk : k < 2 ^ 30) : 0 ≤ nI k + nI 1 := by
  rw [nI_add]
  exact nI_pos' (by omega)
theorem mor_ts {g : Nat → Nat → Bool} {k s t S : Nat} {x : (Nat → Int32) × Bool} (hk : k < 2 ^ 30) (ht : t < S) : mor S x (tsM g k s t x) := by
  unfold tsM
  split
  · rename_i h
    obtain ⟨h1, h2⟩ := unK_up (dp := x.1) (k1_pos hk) h.1 S
    rw [if_pos ht] at h1
    have h3 := h2 ht
    have h4 : unr S (upd x.1 t (nI k + nI 1)) = unr S x.1 - 1 := h1
    have h5 : 1 ≤ unr S x.1 := h3
    exact ⟨by show unr S (upd x.1 t (nI k + nI 1)) ≤ _; omega, fun _ => Or.inr (by show unr S (upd x.1 t (nI k + nI 1)) < _; omega)⟩
  · exact mor_rf
theorem mor_tiK {g : Nat → Nat → Bool} {k s S : Nat} (hk : k < 2 ^ 30) : ∀ (f t : Nat) (x : (Nat → Int32) × Bool), t + f ≤ S → mor S x (tiK g k s f t x)
  | 0, _, _, _ => mor_rf
  | f + 1, t, x, h => by
    unfold tiK
    split
    · exact mor_tr (mor_ts hk (by omega)) (mor_tiK hk f (t + 1) _ (by omega))
    · exact mor_rf
theorem mor_fdK {S : Nat} {f : Nat → (Nat → Int32) × Bool → (Nat → Int32) × Bool} (hf : ∀ i x, i < S → mor S x (f i x)) : ∀ (n i : Nat) (x : (Nat → Int32) × Bool), i + n ≤ S → mor S x (fdK f n i x)
  | 0, _, _, _ => mor_rf
  | n + 1, i, x, h => by
    unfold fdK
    exact mor_tr (hf i x (by omega)) (mor_fdK hf n (i + 1) _ (by omega))
theorem rnd_mor {g : Nat → Nat → Bool} {S k : Nat} {dp : Nat → Int32} (hk : k < 2 ^ 30) : mor S (dp, false) (rnd g S k dp) := by
  unfold rnd fd
  exact mor_fdK (fun i x hi => mor_tiK hk _ _ _ (by omega)) _ _ _ (by omega)
theorem rnd_m {g : Nat → Nat → Bool} {S k f1 : Nat} {dp dp2 X : Nat → Int32} {mr : Bool} (hw : (dp2, mr) = rnd g S k dp) (q : mr = true) (hk : k < 2 ^ 30) (h3 : unr S dp < f1 + 1) (h4 : xpK g S (f1 + 1) k dp = X) : unr S dp2 < f1 ∧ xpK g S f1 (k + 1) dp2 = X := by
  have hm := rnd_mor (g := g) (S := S) (dp := dp) hk
  rw [xpK, ← hw] at h4
  rw [← hw] at hm
  subst q
  rcases hm.2 rfl with h | h
  · cases h
  · exact ⟨by have h' : unr S dp2 < unr S dp := h; omega, h4⟩
theorem rnd_0 {g : Nat → Nat → Bool} {S k f1 : Nat} {dp dp2 X : Nat → Int32} {mr : Bool} (hw : (dp2, mr) = rnd g S k dp) (q : mr = false) (h4 : xpK g S (f1 + 1) k dp = X) : dp2 = X := by
  rw [xpK, ← hw] at h4
  subst q
  exact h4
def stM (N : Nat) (cn : Nat → Nat) (P M : Nat → Int32) (dep : Nat → Int32) : Int32 := fd (minF (fun i x => !decide (dep i < 0) && ((decide (x < 0) || !decide (x ≤ dep i)) && soM N cn P M 2 (nI i))) dep) (2 ^ N) 0 (-1)
def reM (N : Nat) (dep : Nat → Int32) : Nat := fd (cntF (fun i => !decide (dep i < 0))) (2 ^ N) 0 0
def woM (N : Nat) (cn : Nat → Nat) (P M : Nat → Int32) (dep : Nat → Int32) : Option Nat := fo (fun i => !decide (dep i < 0) && soM N cn P M 2 (nI i)) (2 ^ N) 0
def esM (N : Nat) (cn : Nat → Nat) (P M : Nat → Int32) (i : Nat) : Bool := an (fun t => !soM N cn P M 3 (nI t) && goM N cn P M (nI i) (nI t)) (2 ^ N) 0
def leM (N : Nat) (cn : Nat → Nat) (P M : Nat → Int32) (r i : Nat) : Bool := if r = 1 then !soM N cn P M 3 (nI i) && soM N cn P M 0 (nI i) else if r = 2 then soM N cn P M 3 (nI i) && esM N cn P M i else soM N cn P M 3 (nI i) && soM N cn P M 2 (nI i)
def lmM (N : Nat) (cn : Nat → Nat) (P M : Nat → Int32) (r : Nat) : Option Nat := fo (leM N cn P M r) (2 ^ N) 0
def chM (N : Nat) (cn : Nat → Nat) (P M : Nat → Int32) : Option Nat := fo (fun r => !decide (oI (-1) (lmM N cn P M r) < 0)) 4 1
def flM (N : Nat) (cn : Nat → Nat) (P M : Nat → Int32) : Int32 := match chM N cn P M with
  | none => -1
  | some r => oI (-1) (lmM N cn P M r)
def waM (N len : Nat) (cn : Nat → Nat) (P M pth : Nat → Int32) (x : Int32) : Bool := stB N x && (decide (len < 64) && (if nI len = 0 then soM N cn P M 0 x else goM N cn P M (pth (len - 1)) x))
theorem waM_t {N len : Nat} {cn : Nat → Nat} {P M pth : Nat → Int32} {x : Int32} (h1 : stB N x = true) (h2 : len < 64) (h3 : (nI len = 0 ∧ soM N cn P M 0 x = true) ∨ (¬ nI len = 0 ∧ goM N cn P M (pth (len - 1)) x = true)) : waM N len cn P M pth x = true := by
  unfold waM
  rw [h1, decide_eq_true h2]
  rcases h3 with ⟨a, b⟩ | ⟨a, b⟩
  · rw [if_pos a, b]; rfl
  · rw [if_neg a, b]; rfl
theorem waM_e {N len : Nat} {cn : Nat → Nat} {P M pth : Nat → Int32} {x : Int32} (h : waM N len cn P M pth x = true) : stB N x = true ∧ len < 64 ∧ ((nI len = 0 → soM N cn P M 0 x = true) ∧ (¬ nI len = 0 → goM N cn P M (pth (len - 1)) x = true)) := by
  unfold waM at h
  simp only [Bool.and_eq_true, decide_eq_true_eq] at h
  refine ⟨h.1, h.2.1, fun q => ?_, fun q => ?_⟩
  · have := h.2.2; rw [if_pos q] at this; exact this
  · have := h.2.2; rw [if_neg q] at this; exact this
theorem len_ne {n : Nat} (h : ¬ nI n = 0) : 1 ≤ n := by
  rcases n with _ | n
  · exact absurd (by decide) h
  · omega
theorem len_pos {n : Nat} (hn : n < 2 ^ 31) (h : ¬ nI n ≤ 0) : 1 ≤ n := by
  rcases n with _ | n
  · exact absurd (by decide) h
  · omega
theorem len64 {n : Nat} (hp : n ≤ 64) (h : ¬ nI n = nI 64) : n < 64 := by
  rcases Nat.lt_or_ge n 64 with h1 | h1
  · exact h1
  · exact absurd (by rw [show n = 64 by omega]) h
theorem ne24 {n : Nat} (hp : n ≤ 24) (h : ¬ nI n = nI 24) : n < 24 := by
  rcases Nat.lt_or_ge n 24 with h1 | h1
  · exact h1
  · exact absurd (by rw [show n = 24 by omega]) h
theorem seB_e {N : Nat} {li x : Int32} (h : seB N li x = true) : ¬ x < 0 ∧ ¬ nI (2 ^ (if li = nI 1 then 2 * N else N)) ≤ x := by
  unfold seB at h
  simp only [Bool.and_eq_true, Bool.not_eq_true', decide_eq_false_iff_not] at h
  exact h
theorem ltI {x y : Int32} (h : ¬ y ≤ x) : x < y := Int32.not_le.mp h
theorem seB_t {N : Nat} {li x : Int32} (h1 : ¬ x < 0) (h2 : ¬ nI (2 ^ (if li = nI 1 then 2 * N else N)) ≤ x) : seB N li x = true := by
  unfold seB
  rw [decide_eq_false h1, decide_eq_false h2]
  rfl
theorem clB_t {N : Nat} {cn : Nat → Nat} {li x y : Int32} (h1 : liB li = true) (h2 : seB N li x = true) (h3 : seB N li y = true) (h4 : cn li.toNatClampNeg < 24) : clB N cn li x y = true := by
  unfold clB
  rw [h1, h2, h3, decide_eq_true h4]
  rfl
set_option maxHeartbeats 4000000 in
set_option maxRecDepth 100000 in
theorem c_X2_states {l : Launch} {D : va_G} {cI cL : ClassId} {b : Nat → Nat} {N len : Nat} {cn : Nat → Nat} {P M pth dep : Nat → Int32}  (hV : RInv N cn) : MetR l yX2_states cX2_states 1 (some .int) 0 [.ref (b 0)] D cI cL (MDw cI b N len cn P M pth dep) (nI (2 ^ N)) := by
  refine MetR.mk (by decide) (Nat.le_of_ble_eq_true rfl) ?_
  intro p e s m args below meth c Q hQ S hr hlk hN hK hP ls hl
  have S : CallFix p m c cX2_states 1 s args wt RX2 := S
  have hl : lv_has ls 1 [(0, .ref (b 0))] := hl
  refine lv_iconst (v := nI 1) S.1 S.2.1 dX2_states_0 (by decide) ?_
  refine lv_aload_n S.1 S.2.1 dX2_states_1 rfl (lv_at hl 0 rfl) ?_
  refine g2_n S hK hP dX2_states_2 ?_
  refine lv_ishl S.1 S.2.1 dX2_states_5 ?_
  refine tp (y := nI (2 ^ N)) (sh1 N (by have := hV.2.1; omega)) ?_
  exact rd_ret hQ S hr hlk rfl dX2_states_6
set_option maxHeartbeats 4000000 in
set_option maxRecDepth 100000 in
theorem c_X2_isState {l : Launch} {D : va_G} {cI cL : ClassId} {b : Nat → Nat} {N len : Nat} {cn : Nat → Nat} {P M pth dep : Nat → Int32} {x : Int32}  (hV : RInv N cn) : MetR l yX2_isState cX2_isState 2 (some .boolean) 1 [.ref (b 0), .int x] D cI cL (MDw cI b N len cn P M pth dep) (bI (stB N x)) := by
  refine MetR.mk (by decide) (Nat.le_of_ble_eq_true rfl) ?_
  intro p e s m args below meth c Q hQ S hr hlk hN hK hP ls hl
  have S : CallFix p m c cX2_isState 2 s args wt RX2 := S
  have hl : lv_has ls 2 [(0, .ref (b 0)), (1, .int x)] := hl
  refine lv_iload_n S.1 S.2.1 dX2_isState_0 rfl (lv_at hl 1 rfl) ?_
  refine lv_if_lt (tgt := 16) S.1 S.2.1 dX2_isState_1 (by decide) (fun h1 => ?_) (fun h1 => ?_)
  · refine lv_iconst (v := nI 0) S.1 S.2.1 dX2_isState_16 (by decide) ?_
    exact rd_retz hQ S hr hlk (r0 (by simp [stB, h1])) dX2_isState_17
  · refine lv_iload_n S.1 S.2.1 dX2_isState_4 rfl (lv_at hl 1 rfl) ?_
    refine lv_aload_n S.1 S.2.1 dX2_isState_5 rfl (lv_at hl 0 rfl) ?_
    refine rdV S cv_RX2_29 (c_X2_states hV) hK hN hP (md_rv hK hP) ⟨Nat.le_of_ble_eq_true rfl, Nat.le_of_ble_eq_true rfl⟩ ⟨Nat.zero_le _, Nat.zero_le _⟩ rfl hl.1 rfl (Nat.le_of_ble_eq_true rfl) dX2_isState_6 ?_
    refine lv_icmp_ge (tgt := 16) S.1 S.2.1 dX2_isState_9 (by decide) (fun h9 => ?_) (fun h9 => ?_)
    · refine lv_iconst (v := nI 0) S.1 S.2.1 dX2_isState_16 (by decide) ?_
      exact rd_retz hQ S hr hlk (r0 (by simp [stB, h1, h9])) dX2_isState_17
    · refine lv_iconst (v := nI 1) S.1 S.2.1 dX2_isState_12 (by decide) ?_
      refine lv_goto (tgt := 17) S.1 S.2.1 dX2_isState_13 (by decide) ?_
      exact rd_retz hQ S hr hlk (r1 (by simp [stB, h1, h9])) dX2_isState_17
set_option maxHeartbeats 4000000 in
set_option maxRecDepth 100000 in
theorem c_X2_isList {l : Launch} {D : va_G} {cI cL : ClassId} {b : Nat → Nat} {N len : Nat} {cn : Nat → Nat} {P M pth dep : Nat → Int32} {x : Int32}   : MetR l yX2_isList cX2_isList 1 (some .boolean) 0 [.int x] D cI cL (MDw cI b N len cn P M pth dep) (bI (liB x)) := by
  refine MetR.mk (by decide) (Nat.le_of_ble_eq_true rfl) ?_
  intro p e s m args below meth c Q hQ S hr hlk hN hK hP ls hl
  have S : CallFix p m c cX2_isList 1 s args wt RX2 := S
  have hl : lv_has ls 1 [(0, .int x)] := hl
  refine lv_iload_n S.1 S.2.1 dX2_isList_0 rfl (lv_at hl 0 rfl) ?_
  refine lv_if_lt (tgt := 13) S.1 S.2.1 dX2_isList_1 (by decide) (fun h1 => ?_) (fun h1 => ?_)
  · refine lv_iconst (v := nI 0) S.1 S.2.1 dX2_isList_13 (by decide) ?_
    exact rd_retz hQ S hr hlk (r0 (by simp [liB, h1])) dX2_isList_14
  · refine lv_iload_n S.1 S.2.1 dX2_isList_4 rfl (lv_at hl 0 rfl) ?_
    refine lv_iconst (v := nI 4) S.1 S.2.1 dX2_isList_5 (by decide) ?_
    refine lv_icmp_ge (tgt := 13) S.1 S.2.1 dX2_isList_6 (by decide) (fun h6 => ?_) (fun h6 => ?_)
    · refine lv_iconst (v := nI 0) S.1 S.2.1 dX2_isList_13 (by decide) ?_
      exact rd_retz hQ S hr hlk (r0 (by simp [liB, h1, h6])) dX2_isList_14
    · refine lv_iconst (v := nI 1) S.1 S.2.1 dX2_isList_9 (by decide) ?_
      refine lv_goto (tgt := 14) S.1 S.2.1 dX2_isList_10 (by decide) ?_
      exact rd_retz hQ S hr hlk (r1 (by simp [liB, h1, h6])) dX2_isList_14
set_option maxHeartbeats 4000000 in
set_option maxRecDepth 100000 in
theorem c_X2_isSo {l : Launch} {D : va_G} {cI cL : ClassId} {b : Nat → Nat} {N len : Nat} {cn : Nat → Nat} {P M pth dep : Nat → Int32} {k : Nat} {x : Int32} (hk : k < 4)  (hV : RInv N cn) : MetR l yX2_isSo cX2_isSo 8 (some .boolean) 0 [.ref (b 0), .int (nI k), .int x] D cI cL (MDw cI b N len cn P M pth dep) (bI (soM N cn P M k x)) := by
  refine MetR.mk (by decide) (Nat.le_of_ble_eq_true rfl) ?_
  intro p e s m args below meth c Q hQ S hr hlk hN hK hP ls hl
  have S : CallFix p m c cX2_isSo 8 s args wt RX2 := S
  have hl : lv_has ls 8 [(0, .ref (b 0)), (1, .int (nI k)), (2, .int x)] := hl
  have hc4 := hV.2.2 k hk
  have hn6 := hV.2.1
  refine lv_iconst (v := nI 0) S.1 S.2.1 dX2_isSo_0 (by decide) ?_
  refine lv_istore_n (lv' := [(3, .int (nI 0)), (0, .ref (b 0)), (1, .int (nI k)), (2, .int x)]) S.1 S.2.1 dX2_isSo_1 rfl hl (by decide) rfl (fun ls hl => ?_)
  have loop2 : ∀ (nf : Nat) (c1 : Nat) (ls : Array Slot), cn k - c1 < nf → c1 ≤ cn k → al (fun c => clM N (P (24 * k + c)) (M (24 * k + c)) x) (cn k) c1 = soM N cn P M k x → lv_has ls 8 [(3, .int (nI c1)), (0, .ref (b 0)), (1, .int (nI k)), (2, .int x)] → W p l e (rmd 0) s m args below meth c s.heap [] 0 0 Q (F0 m 2 ls []) := by
    intro nf
    induction nf with
    | zero => exact fun c1 ls hn => absurd hn (Nat.not_lt_zero _)
    | succ nf ih2 =>
      intro c1 ls hn hi hv hl
      refine lv_iload_n S.1 S.2.1 dX2_isSo_2 rfl (lv_at hl 0 rfl) ?_
      refine lv_aload_n S.1 S.2.1 dX2_isSo_3 rfl (lv_at hl 1 rfl) ?_
      refine g2_counts S hK hP dX2_isSo_4 ?_
      refine lv_iload_n S.1 S.2.1 dX2_isSo_7 rfl (lv_at hl 2 rfl) ?_
      refine a2_counts hk S hK hP dX2_isSo_8 ?_
      refine lv_icmp_ge (tgt := 127) S.1 S.2.1 dX2_isSo_9 (by decide) (fun h9 => ?_) (fun h9 => ?_)
      · have h9 := ge_n (by omega) (by omega) h9
        refine lv_iconst (v := nI 1) S.1 S.2.1 dX2_isSo_127 (by decide) ?_
        exact rd_retz hQ S hr hlk (r1 (by rw [← hv, al_d h9])) dX2_isSo_128
      · have h9 := ge_f (by omega) (by omega) h9
        refine lv_bipush (v := nI 24) S.1 S.2.1 dX2_isSo_12 (by decide) ?_
        refine lv_iload_n S.1 S.2.1 dX2_isSo_14 rfl (lv_at hl 2 rfl) ?_
        refine lv_imul S.1 S.2.1 dX2_isSo_15 ?_
        refine tp (y := nI (24 * k)) (ml 24 k) ?_
        refine lv_iload_n S.1 S.2.1 dX2_isSo_16 rfl (lv_at hl 0 rfl) ?_
        refine lv_iadd S.1 S.2.1 dX2_isSo_17 ?_
        refine tp (y := nI (24 * k + c1)) (nI_add _ _) ?_
        refine lv_istore (lv' := [(4, .int (nI (24 * k + c1))), (3, .int (nI c1)), (0, .ref (b 0)), (1, .int (nI k)), (2, .int x)]) S.1 S.2.1 dX2_isSo_18 hl (by decide) rfl (fun ls hl => ?_)
        refine lv_iconst (v := nI 0) S.1 S.2.1 dX2_isSo_20 (by decide) ?_
        refine lv_istore (lv' := [(5, .int (nI 0)), (4, .int (nI (24 * k + c1))), (3, .int (nI c1)), (0, .ref (b 0)), (1, .int (nI k)), (2, .int x)]) S.1 S.2.1 dX2_isSo_21 hl (by decide) rfl (fun ls hl => ?_)
        refine lv_iconst (v := nI 0) S.1 S.2.1 dX2_isSo_23 (by decide) ?_
        refine lv_istore (lv' := [(6, .int (nI 0)), (5, .int (nI 0)), (4, .int (nI (24 * k + c1))), (3, .int (nI c1)), (0, .ref (b 0)), (1, .int (nI k)), (2, .int x)]) S.1 S.2.1 dX2_isSo_24 hl (by decide) rfl (fun ls hl => ?_)
        have loop26 : ∀ (nf : Nat) (i : Nat) (h : Bool) (ls : Array Slot), 2 * N - i < nf → i ≤ 2 * N → fd (cbM (P (24 * k + c1)) (M (24 * k + c1)) x) (2 * N) i h = fd (cbM (P (24 * k + c1)) (M (24 * k + c1)) x) (2 * N) 0 false → lv_has ls 8 [(6, .int (nI i)), (5, .int (bI h)), (4, .int (nI (24 * k + c1))), (3, .int (nI c1)), (0, .ref (b 0)), (1, .int (nI k)), (2, .int x)] → W p l e (rmd 0) s m args below meth c s.heap [] 0 0 Q (F0 m 26 ls []) := by
          intro nf
          induction nf with
          | zero => exact fun i h ls hn => absurd hn (Nat.not_lt_zero _)
          | succ nf ih26 =>
            intro i h ls hn hj hw hl
            refine lv_iload S.1 S.2.1 dX2_isSo_26 (lv_at hl 0 rfl) ?_
            refine lv_iconst (v := nI 2) S.1 S.2.1 dX2_isSo_28 (by decide) ?_
            refine lv_aload_n S.1 S.2.1 dX2_isSo_29 rfl (lv_at hl 4 rfl) ?_
            refine g2_n S hK hP dX2_isSo_30 ?_
            refine lv_imul S.1 S.2.1 dX2_isSo_33 ?_
            refine tp (y := nI (2 * N)) (ml 2 N) ?_
            refine lv_icmp_ge (tgt := 114) S.1 S.2.1 dX2_isSo_34 (by decide) (fun h34 => ?_) (fun h34 => ?_)
            · have h34 := ge_n (by omega) (by omega) h34
              rw [fd_d h34] at hw
              refine lv_iload S.1 S.2.1 dX2_isSo_114 (lv_at hl 1 rfl) ?_
              refine lv_if_ne (tgt := 121) S.1 S.2.1 dX2_isSo_116 (by decide) (fun h116 => ?_) (fun h116 => ?_)
              · have h116 : (h) = true := bI_t h116
                refine lv_iinc (v := nI (c1 + 1)) (lv' := [(3, .int (nI (c1 + 1))), (6, .int (nI i)), (5, .int (bI h)), (4, .int (nI (24 * k + c1))), (0, .ref (b 0)), (1, .int (nI k)), (2, .int x)]) S.1 S.2.1 dX2_isSo_121 hl (k := 3) rfl (nI_1 _) (by decide) rfl (fun ls hl => ?_)
                refine lv_goto (tgt := 2) S.1 S.2.1 dX2_isSo_124 (by decide) ?_
                exact ih2 (c1 + 1) ls (by omega) (by omega) (by rw [← hv, al_s h9]; simp only [clM, ← hw, h116, Bool.true_and]) (lv_sub hl [0, 4, 5, 6] rfl)
              · have h116 : (h) = false := bI_f h116
                refine lv_iconst (v := nI 0) S.1 S.2.1 dX2_isSo_119 (by decide) ?_
                exact rd_retz hQ S hr hlk (r0 (by rw [← hv, al_s h9]; simp only [clM, ← hw, h116, Bool.false_and])) dX2_isSo_120
            · have h34 := ge_f (by omega) (by omega) h34
              refine lv_iload_n S.1 S.2.1 dX2_isSo_37 rfl (lv_at hl 6 rfl) ?_
              refine lv_iload S.1 S.2.1 dX2_isSo_38 (lv_at hl 0 rfl) ?_
              refine lv_ishr S.1 S.2.1 dX2_isSo_40 ?_
              refine lv_iconst (v := nI 1) S.1 S.2.1 dX2_isSo_41 (by decide) ?_
              refine lv_iand S.1 S.2.1 dX2_isSo_42 ?_
              refine lv_iconst (v := nI 1) S.1 S.2.1 dX2_isSo_43 (by decide) ?_
              refine lv_icmp_ne (tgt := 51) S.1 S.2.1 dX2_isSo_44 (by decide) (fun h44 => ?_) (fun h44 => ?_)
              · refine lv_iconst (v := nI 0) S.1 S.2.1 dX2_isSo_51 (by decide) ?_
                refine lv_istore (lv' := [(7, .int (nI 0)), (6, .int (nI i)), (5, .int (bI h)), (4, .int (nI (24 * k + c1))), (3, .int (nI c1)), (0, .ref (b 0)), (1, .int (nI k)), (2, .int x)]) S.1 S.2.1 dX2_isSo_52 hl (by decide) rfl (fun ls hl => ?_)
                refine lv_iload S.1 S.2.1 dX2_isSo_54 (lv_at hl 2 rfl) ?_
                refine lv_if_ne (tgt := 101) S.1 S.2.1 dX2_isSo_56 (by decide) (fun h56 => ?_) (fun h56 => ?_)
                · have h56 : (h) = true := bI_t h56
                  refine lv_iconst (v := nI 1) S.1 S.2.1 dX2_isSo_101 (by decide) ?_
                  refine lv_goto (tgt := 106) S.1 S.2.1 dX2_isSo_102 (by decide) ?_
                  refine lv_istore (lv' := [(5, .int (nI 1)), (7, .int (nI 0)), (6, .int (nI i)), (4, .int (nI (24 * k + c1))), (3, .int (nI c1)), (0, .ref (b 0)), (1, .int (nI k)), (2, .int x)]) S.1 S.2.1 dX2_isSo_106 hl (by decide) rfl (fun ls hl => ?_)
                  refine lv_iinc (v := nI (i + 1)) (lv' := [(6, .int (nI (i + 1))), (5, .int (nI 1)), (7, .int (nI 0)), (4, .int (nI (24 * k + c1))), (3, .int (nI c1)), (0, .ref (b 0)), (1, .int (nI k)), (2, .int x)]) S.1 S.2.1 dX2_isSo_108 hl (k := 2) rfl (nI_1 _) (by decide) rfl (fun ls hl => ?_)
                  refine lv_goto (tgt := 26) S.1 S.2.1 dX2_isSo_111 (by decide) ?_
                  exact ih26 (i + 1) true ls (by omega) (by omega) (fd_b h34 hw (by simp [cbM, btM, h44, h56])) (lv_sub hl [0, 1, 3, 4, 5, 6, 7] rfl)
                · have h56 : (h) = false := bI_f h56
                  refine lv_aload_n S.1 S.2.1 dX2_isSo_59 rfl (lv_at hl 5 rfl) ?_
                  refine g2_plus S hK hP dX2_isSo_60 ?_
                  refine lv_iload S.1 S.2.1 dX2_isSo_63 (lv_at hl 3 rfl) ?_
                  refine a2_plus (by omega) S hK hP dX2_isSo_65 ?_
                  refine lv_iload S.1 S.2.1 dX2_isSo_66 (lv_at hl 1 rfl) ?_
                  refine lv_ishr S.1 S.2.1 dX2_isSo_68 ?_
                  refine lv_iconst (v := nI 1) S.1 S.2.1 dX2_isSo_69 (by decide) ?_
                  refine lv_iand S.1 S.2.1 dX2_isSo_70 ?_
                  refine lv_iconst (v := nI 1) S.1 S.2.1 dX2_isSo_71 (by decide) ?_
                  refine lv_icmp_ne (tgt := 80) S.1 S.2.1 dX2_isSo_72 (by decide) (fun h72 => ?_) (fun h72 => ?_)
                  · refine lv_aload_n S.1 S.2.1 dX2_isSo_80 rfl (lv_at hl 5 rfl) ?_
                    refine g2_minus S hK hP dX2_isSo_81 ?_
                    refine lv_iload S.1 S.2.1 dX2_isSo_84 (lv_at hl 3 rfl) ?_
                    refine a2_minus (by omega) S hK hP dX2_isSo_86 ?_
                    refine lv_iload S.1 S.2.1 dX2_isSo_87 (lv_at hl 1 rfl) ?_
                    refine lv_ishr S.1 S.2.1 dX2_isSo_89 ?_
                    refine lv_iconst (v := nI 1) S.1 S.2.1 dX2_isSo_90 (by decide) ?_
                    refine lv_iand S.1 S.2.1 dX2_isSo_91 ?_
                    refine lv_iconst (v := nI 1) S.1 S.2.1 dX2_isSo_92 (by decide) ?_
                    refine lv_icmp_ne (tgt := 105) S.1 S.2.1 dX2_isSo_93 (by decide) (fun h93 => ?_) (fun h93 => ?_)
                    · refine lv_iconst (v := nI 0) S.1 S.2.1 dX2_isSo_105 (by decide) ?_
                      refine lv_istore (lv' := [(5, .int (nI 0)), (7, .int (nI 0)), (6, .int (nI i)), (4, .int (nI (24 * k + c1))), (3, .int (nI c1)), (0, .ref (b 0)), (1, .int (nI k)), (2, .int x)]) S.1 S.2.1 dX2_isSo_106 hl (by decide) rfl (fun ls hl => ?_)
                      refine lv_iinc (v := nI (i + 1)) (lv' := [(6, .int (nI (i + 1))), (5, .int (nI 0)), (7, .int (nI 0)), (4, .int (nI (24 * k + c1))), (3, .int (nI c1)), (0, .ref (b 0)), (1, .int (nI k)), (2, .int x)]) S.1 S.2.1 dX2_isSo_108 hl (k := 2) rfl (nI_1 _) (by decide) rfl (fun ls hl => ?_)
                      refine lv_goto (tgt := 26) S.1 S.2.1 dX2_isSo_111 (by decide) ?_
                      exact ih26 (i + 1) false ls (by omega) (by omega) (fd_b h34 hw (by simp [cbM, btM, h44, h56, h72, h93])) (lv_sub hl [0, 1, 3, 4, 5, 6, 7] rfl)
                    · refine lv_iload S.1 S.2.1 dX2_isSo_96 (lv_at hl 0 rfl) ?_
                      refine lv_if_ne (tgt := 105) S.1 S.2.1 dX2_isSo_98 (by decide) (fun hh => absurd (by decide) hh) (fun _ => ?_)
                      refine lv_iconst (v := nI 1) S.1 S.2.1 dX2_isSo_101 (by decide) ?_
                      refine lv_goto (tgt := 106) S.1 S.2.1 dX2_isSo_102 (by decide) ?_
                      refine lv_istore (lv' := [(5, .int (nI 1)), (7, .int (nI 0)), (6, .int (nI i)), (4, .int (nI (24 * k + c1))), (3, .int (nI c1)), (0, .ref (b 0)), (1, .int (nI k)), (2, .int x)]) S.1 S.2.1 dX2_isSo_106 hl (by decide) rfl (fun ls hl => ?_)
                      refine lv_iinc (v := nI (i + 1)) (lv' := [(6, .int (nI (i + 1))), (5, .int (nI 1)), (7, .int (nI 0)), (4, .int (nI (24 * k + c1))), (3, .int (nI c1)), (0, .ref (b 0)), (1, .int (nI k)), (2, .int x)]) S.1 S.2.1 dX2_isSo_108 hl (k := 2) rfl (nI_1 _) (by decide) rfl (fun ls hl => ?_)
                      refine lv_goto (tgt := 26) S.1 S.2.1 dX2_isSo_111 (by decide) ?_
                      exact ih26 (i + 1) true ls (by omega) (by omega) (fd_b h34 hw (by simp [cbM, btM, h44, h56, h72, h93])) (lv_sub hl [0, 1, 3, 4, 5, 6, 7] rfl)
                  · refine lv_iload S.1 S.2.1 dX2_isSo_75 (lv_at hl 0 rfl) ?_
                    refine lv_if_ne (tgt := 101) S.1 S.2.1 dX2_isSo_77 (by decide) (fun hh => absurd (by decide) hh) (fun _ => ?_)
                    refine lv_aload_n S.1 S.2.1 dX2_isSo_80 rfl (lv_at hl 5 rfl) ?_
                    refine g2_minus S hK hP dX2_isSo_81 ?_
                    refine lv_iload S.1 S.2.1 dX2_isSo_84 (lv_at hl 3 rfl) ?_
                    refine a2_minus (by omega) S hK hP dX2_isSo_86 ?_
                    refine lv_iload S.1 S.2.1 dX2_isSo_87 (lv_at hl 1 rfl) ?_
                    refine lv_ishr S.1 S.2.1 dX2_isSo_89 ?_
                    refine lv_iconst (v := nI 1) S.1 S.2.1 dX2_isSo_90 (by decide) ?_
                    refine lv_iand S.1 S.2.1 dX2_isSo_91 ?_
                    refine lv_iconst (v := nI 1) S.1 S.2.1 dX2_isSo_92 (by decide) ?_
                    refine lv_icmp_ne (tgt := 105) S.1 S.2.1 dX2_isSo_93 (by decide) (fun h93 => ?_) (fun h93 => ?_)
                    · refine lv_iconst (v := nI 0) S.1 S.2.1 dX2_isSo_105 (by decide) ?_
                      refine lv_istore (lv' := [(5, .int (nI 0)), (7, .int (nI 0)), (6, .int (nI i)), (4, .int (nI (24 * k + c1))), (3, .int (nI c1)), (0, .ref (b 0)), (1, .int (nI k)), (2, .int x)]) S.1 S.2.1 dX2_isSo_106 hl (by decide) rfl (fun ls hl => ?_)
                      refine lv_iinc (v := nI (i + 1)) (lv' := [(6, .int (nI (i + 1))), (5, .int (nI 0)), (7, .int (nI 0)), (4, .int (nI (24 * k + c1))), (3, .int (nI c1)), (0, .ref (b 0)), (1, .int (nI k)), (2, .int x)]) S.1 S.2.1 dX2_isSo_108 hl (k := 2) rfl (nI_1 _) (by decide) rfl (fun ls hl => ?_)
                      refine lv_goto (tgt := 26) S.1 S.2.1 dX2_isSo_111 (by decide) ?_
                      exact ih26 (i + 1) false ls (by omega) (by omega) (fd_b h34 hw (by simp [cbM, btM, h44, h56, h72, h93])) (lv_sub hl [0, 1, 3, 4, 5, 6, 7] rfl)
                    · refine lv_iload S.1 S.2.1 dX2_isSo_96 (lv_at hl 0 rfl) ?_
                      refine lv_if_ne (tgt := 105) S.1 S.2.1 dX2_isSo_98 (by decide) (fun hh => absurd (by decide) hh) (fun _ => ?_)
                      refine lv_iconst (v := nI 1) S.1 S.2.1 dX2_isSo_101 (by decide) ?_
                      refine lv_goto (tgt := 106) S.1 S.2.1 dX2_isSo_102 (by decide) ?_
                      refine lv_istore (lv' := [(5, .int (nI 1)), (7, .int (nI 0)), (6, .int (nI i)), (4, .int (nI (24 * k + c1))), (3, .int (nI c1)), (0, .ref (b 0)), (1, .int (nI k)), (2, .int x)]) S.1 S.2.1 dX2_isSo_106 hl (by decide) rfl (fun ls hl => ?_)
                      refine lv_iinc (v := nI (i + 1)) (lv' := [(6, .int (nI (i + 1))), (5, .int (nI 1)), (7, .int (nI 0)), (4, .int (nI (24 * k + c1))), (3, .int (nI c1)), (0, .ref (b 0)), (1, .int (nI k)), (2, .int x)]) S.1 S.2.1 dX2_isSo_108 hl (k := 2) rfl (nI_1 _) (by decide) rfl (fun ls hl => ?_)
                      refine lv_goto (tgt := 26) S.1 S.2.1 dX2_isSo_111 (by decide) ?_
                      exact ih26 (i + 1) true ls (by omega) (by omega) (fd_b h34 hw (by simp [cbM, btM, h44, h56, h72, h93])) (lv_sub hl [0, 1, 3, 4, 5, 6, 7] rfl)
              · refine lv_iconst (v := nI 1) S.1 S.2.1 dX2_isSo_47 (by decide) ?_
                refine lv_goto (tgt := 52) S.1 S.2.1 dX2_isSo_48 (by decide) ?_
                refine lv_istore (lv' := [(7, .int (nI 1)), (6, .int (nI i)), (5, .int (bI h)), (4, .int (nI (24 * k + c1))), (3, .int (nI c1)), (0, .ref (b 0)), (1, .int (nI k)), (2, .int x)]) S.1 S.2.1 dX2_isSo_52 hl (by decide) rfl (fun ls hl => ?_)
                refine lv_iload S.1 S.2.1 dX2_isSo_54 (lv_at hl 2 rfl) ?_
                refine lv_if_ne (tgt := 101) S.1 S.2.1 dX2_isSo_56 (by decide) (fun h56 => ?_) (fun h56 => ?_)
                · have h56 : (h) = true := bI_t h56
                  refine lv_iconst (v := nI 1) S.1 S.2.1 dX2_isSo_101 (by decide) ?_
                  refine lv_goto (tgt := 106) S.1 S.2.1 dX2_isSo_102 (by decide) ?_
                  refine lv_istore (lv' := [(5, .int (nI 1)), (7, .int (nI 1)), (6, .int (nI i)), (4, .int (nI (24 * k + c1))), (3, .int (nI c1)), (0, .ref (b 0)), (1, .int (nI k)), (2, .int x)]) S.1 S.2.1 dX2_isSo_106 hl (by decide) rfl (fun ls hl => ?_)
                  refine lv_iinc (v := nI (i + 1)) (lv' := [(6, .int (nI (i + 1))), (5, .int (nI 1)), (7, .int (nI 1)), (4, .int (nI (24 * k + c1))), (3, .int (nI c1)), (0, .ref (b 0)), (1, .int (nI k)), (2, .int x)]) S.1 S.2.1 dX2_isSo_108 hl (k := 2) rfl (nI_1 _) (by decide) rfl (fun ls hl => ?_)
                  refine lv_goto (tgt := 26) S.1 S.2.1 dX2_isSo_111 (by decide) ?_
                  exact ih26 (i + 1) true ls (by omega) (by omega) (fd_b h34 hw (by simp [cbM, btM, h44, h56])) (lv_sub hl [0, 1, 3, 4, 5, 6, 7] rfl)
                · have h56 : (h) = false := bI_f h56
                  refine lv_aload_n S.1 S.2.1 dX2_isSo_59 rfl (lv_at hl 5 rfl) ?_
                  refine g2_plus S hK hP dX2_isSo_60 ?_
                  refine lv_iload S.1 S.2.1 dX2_isSo_63 (lv_at hl 3 rfl) ?_
                  refine a2_plus (by omega) S hK hP dX2_isSo_65 ?_
                  refine lv_iload S.1 S.2.1 dX2_isSo_66 (lv_at hl 1 rfl) ?_
                  refine lv_ishr S.1 S.2.1 dX2_isSo_68 ?_
                  refine lv_iconst (v := nI 1) S.1 S.2.1 dX2_isSo_69 (by decide) ?_
                  refine lv_iand S.1 S.2.1 dX2_isSo_70 ?_
                  refine lv_iconst (v := nI 1) S.1 S.2.1 dX2_isSo_71 (by decide) ?_
                  refine lv_icmp_ne (tgt := 80) S.1 S.2.1 dX2_isSo_72 (by decide) (fun h72 => ?_) (fun h72 => ?_)
                  · refine lv_aload_n S.1 S.2.1 dX2_isSo_80 rfl (lv_at hl 5 rfl) ?_
                    refine g2_minus S hK hP dX2_isSo_81 ?_
                    refine lv_iload S.1 S.2.1 dX2_isSo_84 (lv_at hl 3 rfl) ?_
                    refine a2_minus (by omega) S hK hP dX2_isSo_86 ?_
                    refine lv_iload S.1 S.2.1 dX2_isSo_87 (lv_at hl 1 rfl) ?_
                    refine lv_ishr S.1 S.2.1 dX2_isSo_89 ?_
                    refine lv_iconst (v := nI 1) S.1 S.2.1 dX2_isSo_90 (by decide) ?_
                    refine lv_iand S.1 S.2.1 dX2_isSo_91 ?_
                    refine lv_iconst (v := nI 1) S.1 S.2.1 dX2_isSo_92 (by decide) ?_
                    refine lv_icmp_ne (tgt := 105) S.1 S.2.1 dX2_isSo_93 (by decide) (fun h93 => ?_) (fun h93 => ?_)
                    · refine lv_iconst (v := nI 0) S.1 S.2.1 dX2_isSo_105 (by decide) ?_
                      refine lv_istore (lv' := [(5, .int (nI 0)), (7, .int (nI 1)), (6, .int (nI i)), (4, .int (nI (24 * k + c1))), (3, .int (nI c1)), (0, .ref (b 0)), (1, .int (nI k)), (2, .int x)]) S.1 S.2.1 dX2_isSo_106 hl (by decide) rfl (fun ls hl => ?_)
                      refine lv_iinc (v := nI (i + 1)) (lv' := [(6, .int (nI (i + 1))), (5, .int (nI 0)), (7, .int (nI 1)), (4, .int (nI (24 * k + c1))), (3, .int (nI c1)), (0, .ref (b 0)), (1, .int (nI k)), (2, .int x)]) S.1 S.2.1 dX2_isSo_108 hl (k := 2) rfl (nI_1 _) (by decide) rfl (fun ls hl => ?_)
                      refine lv_goto (tgt := 26) S.1 S.2.1 dX2_isSo_111 (by decide) ?_
                      exact ih26 (i + 1) false ls (by omega) (by omega) (fd_b h34 hw (by simp [cbM, btM, h44, h56, h72, h93])) (lv_sub hl [0, 1, 3, 4, 5, 6, 7] rfl)
                    · refine lv_iload S.1 S.2.1 dX2_isSo_96 (lv_at hl 0 rfl) ?_
                      refine lv_if_ne (tgt := 105) S.1 S.2.1 dX2_isSo_98 (by decide) (fun _ => ?_) (fun hh => absurd hh (by decide))
                      refine lv_iconst (v := nI 0) S.1 S.2.1 dX2_isSo_105 (by decide) ?_
                      refine lv_istore (lv' := [(5, .int (nI 0)), (7, .int (nI 1)), (6, .int (nI i)), (4, .int (nI (24 * k + c1))), (3, .int (nI c1)), (0, .ref (b 0)), (1, .int (nI k)), (2, .int x)]) S.1 S.2.1 dX2_isSo_106 hl (by decide) rfl (fun ls hl => ?_)
                      refine lv_iinc (v := nI (i + 1)) (lv' := [(6, .int (nI (i + 1))), (5, .int (nI 0)), (7, .int (nI 1)), (4, .int (nI (24 * k + c1))), (3, .int (nI c1)), (0, .ref (b 0)), (1, .int (nI k)), (2, .int x)]) S.1 S.2.1 dX2_isSo_108 hl (k := 2) rfl (nI_1 _) (by decide) rfl (fun ls hl => ?_)
                      refine lv_goto (tgt := 26) S.1 S.2.1 dX2_isSo_111 (by decide) ?_
                      exact ih26 (i + 1) false ls (by omega) (by omega) (fd_b h34 hw (by simp [cbM, btM, h44, h56, h72, h93])) (lv_sub hl [0, 1, 3, 4, 5, 6, 7] rfl)
                  · refine lv_iload S.1 S.2.1 dX2_isSo_75 (lv_at hl 0 rfl) ?_
                    refine lv_if_ne (tgt := 101) S.1 S.2.1 dX2_isSo_77 (by decide) (fun _ => ?_) (fun hh => absurd hh (by decide))
                    refine lv_iconst (v := nI 1) S.1 S.2.1 dX2_isSo_101 (by decide) ?_
                    refine lv_goto (tgt := 106) S.1 S.2.1 dX2_isSo_102 (by decide) ?_
                    refine lv_istore (lv' := [(5, .int (nI 1)), (7, .int (nI 1)), (6, .int (nI i)), (4, .int (nI (24 * k + c1))), (3, .int (nI c1)), (0, .ref (b 0)), (1, .int (nI k)), (2, .int x)]) S.1 S.2.1 dX2_isSo_106 hl (by decide) rfl (fun ls hl => ?_)
                    refine lv_iinc (v := nI (i + 1)) (lv' := [(6, .int (nI (i + 1))), (5, .int (nI 1)), (7, .int (nI 1)), (4, .int (nI (24 * k + c1))), (3, .int (nI c1)), (0, .ref (b 0)), (1, .int (nI k)), (2, .int x)]) S.1 S.2.1 dX2_isSo_108 hl (k := 2) rfl (nI_1 _) (by decide) rfl (fun ls hl => ?_)
                    refine lv_goto (tgt := 26) S.1 S.2.1 dX2_isSo_111 (by decide) ?_
                    exact ih26 (i + 1) true ls (by omega) (by omega) (fd_b h34 hw (by simp [cbM, btM, h44, h56, h72])) (lv_sub hl [0, 1, 3, 4, 5, 6, 7] rfl)
        exact loop26 _ 0 false ls (Nat.lt_succ_self _) (Nat.zero_le _) rfl (lv_sub hl [0, 1, 2, 3, 4, 5, 6] rfl)
  exact loop2 _ 0 ls (Nat.lt_succ_self _) (Nat.zero_le _) rfl (lv_sub hl [0, 1, 2, 3] rfl)
set_option maxHeartbeats 4000000 in
set_option maxRecDepth 100000 in
theorem c_X2_leads {l : Launch} {D : va_G} {cI cL : ClassId} {b : Nat → Nat} {N len : Nat} {cn : Nat → Nat} {P M pth dep : Nat → Int32} {f t : Int32}  (hV : RInv N cn) : MetR l yX2_leads cX2_leads 3 (some .boolean) 1 [.ref (b 0), .int f, .int t] D cI cL (MDw cI b N len cn P M pth dep) (bI (goM N cn P M f t)) := by
  refine MetR.mk (by decide) (Nat.le_of_ble_eq_true rfl) ?_
  intro p e s m args below meth c Q hQ S hr hlk hN hK hP ls hl
  have S : CallFix p m c cX2_leads 3 s args wt RX2 := S
  have hl : lv_has ls 3 [(0, .ref (b 0)), (1, .int f), (2, .int t)] := hl
  refine lv_aload_n S.1 S.2.1 dX2_leads_0 rfl (lv_at hl 0 rfl) ?_
  refine lv_iconst (v := nI 1) S.1 S.2.1 dX2_leads_1 (by decide) ?_
  refine lv_iload_n S.1 S.2.1 dX2_leads_2 rfl (lv_at hl 1 rfl) ?_
  refine lv_iload_n S.1 S.2.1 dX2_leads_3 rfl (lv_at hl 2 rfl) ?_
  refine lv_aload_n S.1 S.2.1 dX2_leads_4 rfl (lv_at hl 0 rfl) ?_
  refine g2_n S hK hP dX2_leads_5 ?_
  refine lv_ishl S.1 S.2.1 dX2_leads_8 ?_
  refine lv_ior S.1 S.2.1 dX2_leads_9 ?_
  refine rdV S cv_RX2_40 (c_X2_isSo (k := 1) (x := f ||| (t <<< ((nI N) &&& 31))) (by decide) hV) hK hN hP (md_rv hK hP) ⟨Nat.le_of_ble_eq_true rfl, Nat.le_of_ble_eq_true rfl⟩ ⟨Nat.zero_le _, Nat.zero_le _⟩ rfl hl.1 rfl (Nat.le_of_ble_eq_true rfl) dX2_leads_10 ?_
  exact rd_retz hQ S hr hlk rfl dX2_leads_13
set_option maxHeartbeats 4000000 in
set_option maxRecDepth 100000 in
theorem c_X2_switches {l : Launch} {D : va_G} {cI cL : ClassId} {b : Nat → Nat} {N len : Nat} {cn : Nat → Nat} {P M pth dep : Nat → Int32}   : MetR l yX2_switches cX2_switches 1 (some .int) 0 [.ref (b 0)] D cI cL (MDw cI b N len cn P M pth dep) (nI N) := by
  refine MetR.mk (by decide) (Nat.le_of_ble_eq_true rfl) ?_
  intro p e s m args below meth c Q hQ S hr hlk hN hK hP ls hl
  have S : CallFix p m c cX2_switches 1 s args wt RX2 := S
  have hl : lv_has ls 1 [(0, .ref (b 0))] := hl
  refine lv_aload_n S.1 S.2.1 dX2_switches_0 rfl (lv_at hl 0 rfl) ?_
  refine g2_n S hK hP dX2_switches_1 ?_
  exact rd_ret hQ S hr hlk rfl dX2_switches_4
set_option maxHeartbeats 4000000 in
set_option maxRecDepth 100000 in
theorem c_X2_count {l : Launch} {D : va_G} {cI cL : ClassId} {b : Nat → Nat} {N len : Nat} {cn : Nat → Nat} {P M pth dep : Nat → Int32} {x : Int32}   : MetR l yX2_count cX2_count 2 (some .int) 1 [.ref (b 0), .int x] D cI cL (MDw cI b N len cn P M pth dep) (if liB x = true then nI (cn x.toNatClampNeg) else -1) := by
  refine MetR.mk (by decide) (Nat.le_of_ble_eq_true rfl) ?_
  intro p e s m args below meth c Q hQ S hr hlk hN hK hP ls hl
  have S : CallFix p m c cX2_count 2 s args wt RX2 := S
  have hl : lv_has ls 2 [(0, .ref (b 0)), (1, .int x)] := hl
  rcases hb : liB x with _ | _
  · skip
    refine lv_iload_n S.1 S.2.1 dX2_count_0 rfl (lv_at hl 1 rfl) ?_
    refine rdS S ct_RX2_36 (c_X2_isList (x := x)) hK hN hP ⟨Nat.le_of_ble_eq_true rfl, Nat.le_of_ble_eq_true rfl⟩ ⟨Nat.zero_le _, Nat.zero_le _⟩ rfl hl.1 rfl (Nat.le_of_ble_eq_true rfl) dX2_count_1 ?_
    refine lv_if_eq (tgt := 16) S.1 S.2.1 dX2_count_4 (by decide) (fun _ => ?_) (fun hh => absurd (by rw [hb]; rfl) hh)
    refine lv_iconst (v := -1) S.1 S.2.1 dX2_count_16 (by decide) ?_
    exact rd_ret hQ S hr hlk (by rw [hb]; rfl) dX2_count_17
  · obtain ⟨k, hk, rfl⟩ := liB_t hb
    refine lv_iload_n S.1 S.2.1 dX2_count_0 rfl (lv_at hl 1 rfl) ?_
    refine rdS S ct_RX2_36 (c_X2_isList (x := nI k)) hK hN hP ⟨Nat.le_of_ble_eq_true rfl, Nat.le_of_ble_eq_true rfl⟩ ⟨Nat.zero_le _, Nat.zero_le _⟩ rfl hl.1 rfl (Nat.le_of_ble_eq_true rfl) dX2_count_1 ?_
    refine lv_if_eq (tgt := 16) S.1 S.2.1 dX2_count_4 (by decide) (fun hh => absurd hh (by rw [hb]; decide)) (fun _ => ?_)
    refine lv_aload_n S.1 S.2.1 dX2_count_7 rfl (lv_at hl 0 rfl) ?_
    refine g2_counts S hK hP dX2_count_8 ?_
    refine lv_iload_n S.1 S.2.1 dX2_count_11 rfl (lv_at hl 1 rfl) ?_
    refine a2_counts hk S hK hP dX2_count_12 ?_
    refine lv_goto (tgt := 17) S.1 S.2.1 dX2_count_13 (by decide) ?_
    exact rd_ret hQ S hr hlk (by rw [if_pos hb, nI_clamp (by omega)]) dX2_count_17
set_option maxHeartbeats 4000000 in
set_option maxRecDepth 100000 in
theorem c_X2_holds {l : Launch} {D : va_G} {cI cL : ClassId} {b : Nat → Nat} {N len : Nat} {cn : Nat → Nat} {P M pth dep : Nat → Int32} {li x y : Int32}  (hV : RInv N cn) : MetR l yX2_holds cX2_holds 4 (some .boolean) 2 [.ref (b 0), .int li, .int x, .int y] D cI cL (MDw cI b N len cn P M pth dep) (bI (hoM N cn P M li x y)) := by
  refine MetR.mk (by decide) (Nat.le_of_ble_eq_true rfl) ?_
  intro p e s m args below meth c Q hQ S hr hlk hN hK hP ls hl
  have S : CallFix p m c cX2_holds 4 s args wt RX2 := S
  have hl : lv_has ls 4 [(0, .ref (b 0)), (1, .int li), (2, .int x), (3, .int y)] := hl
  rcases hb : liB li with _ | _
  · skip
    refine lv_iload_n S.1 S.2.1 dX2_holds_0 rfl (lv_at hl 1 rfl) ?_
    refine rdS S ct_RX2_36 (c_X2_isList (x := li)) hK hN hP ⟨Nat.le_of_ble_eq_true rfl, Nat.le_of_ble_eq_true rfl⟩ ⟨Nat.zero_le _, Nat.zero_le _⟩ rfl hl.1 rfl (Nat.le_of_ble_eq_true rfl) dX2_holds_1 ?_
    refine lv_if_eq (tgt := 28) S.1 S.2.1 dX2_holds_4 (by decide) (fun _ => ?_) (fun hh => absurd (by rw [hb]; rfl) hh)
    refine lv_iconst (v := nI 0) S.1 S.2.1 dX2_holds_28 (by decide) ?_
    exact rd_retz hQ S hr hlk (r0 (by simp [hoM, show liB (nI 1) = true from by decide, hb])) dX2_holds_29
  · obtain ⟨k, hk, rfl⟩ := liB_t hb
    refine lv_iload_n S.1 S.2.1 dX2_holds_0 rfl (lv_at hl 1 rfl) ?_
    refine rdS S ct_RX2_36 (c_X2_isList (x := nI k)) hK hN hP ⟨Nat.le_of_ble_eq_true rfl, Nat.le_of_ble_eq_true rfl⟩ ⟨Nat.zero_le _, Nat.zero_le _⟩ rfl hl.1 rfl (Nat.le_of_ble_eq_true rfl) dX2_holds_1 ?_
    refine lv_if_eq (tgt := 28) S.1 S.2.1 dX2_holds_4 (by decide) (fun hh => absurd hh (by rw [hb]; decide)) (fun _ => ?_)
    refine lv_aload_n S.1 S.2.1 dX2_holds_7 rfl (lv_at hl 0 rfl) ?_
    refine lv_iload_n S.1 S.2.1 dX2_holds_8 rfl (lv_at hl 2 rfl) ?_
    refine rdV S cv_RX2_44 (c_X2_isState (x := x) hV) hK hN hP (md_rv hK hP) ⟨Nat.le_of_ble_eq_true rfl, Nat.le_of_ble_eq_true rfl⟩ ⟨Nat.zero_le _, Nat.zero_le _⟩ rfl hl.1 rfl (Nat.le_of_ble_eq_true rfl) dX2_holds_9 ?_
    refine lv_if_eq (tgt := 28) S.1 S.2.1 dX2_holds_12 (by decide) (fun h12 => ?_) (fun h12 => ?_)
    · have h12 : (stB N x) = false := bI_f h12
      refine lv_iconst (v := nI 0) S.1 S.2.1 dX2_holds_28 (by decide) ?_
      exact rd_retz hQ S hr hlk (r0 (by simp [hoM, show liB (nI 1) = true from by decide, hb, h12])) dX2_holds_29
    · have h12 : (stB N x) = true := bI_t h12
      refine lv_iload_n S.1 S.2.1 dX2_holds_15 rfl (lv_at hl 1 rfl) ?_
      refine lv_iconst (v := nI 1) S.1 S.2.1 dX2_holds_16 (by decide) ?_
      refine lv_icmp_ne (tgt := 30) S.1 S.2.1 dX2_holds_17 (by decide) (fun h17 => ?_) (fun h17 => ?_)
      · refine lv_iload_n S.1 S.2.1 dX2_holds_30 rfl (lv_at hl 1 rfl) ?_
        refine lv_iconst (v := nI 1) S.1 S.2.1 dX2_holds_31 (by decide) ?_
        refine lv_icmp_ne (tgt := 44) S.1 S.2.1 dX2_holds_32 (by decide) (fun _ => ?_) (fun hh => absurd hh h17)
        refine lv_aload_n S.1 S.2.1 dX2_holds_44 rfl (lv_at hl 0 rfl) ?_
        refine lv_iload_n S.1 S.2.1 dX2_holds_45 rfl (lv_at hl 1 rfl) ?_
        refine lv_iload_n S.1 S.2.1 dX2_holds_46 rfl (lv_at hl 2 rfl) ?_
        refine rdV S cv_RX2_40 (c_X2_isSo (k := k) (x := x) hk hV) hK hN hP (md_rv hK hP) ⟨Nat.le_of_ble_eq_true rfl, Nat.le_of_ble_eq_true rfl⟩ ⟨Nat.zero_le _, Nat.zero_le _⟩ rfl hl.1 rfl (Nat.le_of_ble_eq_true rfl) dX2_holds_47 ?_
        exact rd_retz hQ S hr hlk (by simp [hoM, show liB (nI 1) = true from by decide, nI_clamp (show k < 2 ^ 31 by omega), hb, h12, h17]) dX2_holds_50
      · refine lv_aload_n S.1 S.2.1 dX2_holds_20 rfl (lv_at hl 0 rfl) ?_
        refine lv_iload_n S.1 S.2.1 dX2_holds_21 rfl (lv_at hl 3 rfl) ?_
        refine rdV S cv_RX2_44 (c_X2_isState (x := y) hV) hK hN hP (md_rv hK hP) ⟨Nat.le_of_ble_eq_true rfl, Nat.le_of_ble_eq_true rfl⟩ ⟨Nat.zero_le _, Nat.zero_le _⟩ rfl hl.1 rfl (Nat.le_of_ble_eq_true rfl) dX2_holds_22 ?_
        refine lv_if_ne (tgt := 30) S.1 S.2.1 dX2_holds_25 (by decide) (fun h25 => ?_) (fun h25 => ?_)
        · have h25 : (stB N y) = true := bI_t h25
          refine lv_iload_n S.1 S.2.1 dX2_holds_30 rfl (lv_at hl 1 rfl) ?_
          refine lv_iconst (v := nI 1) S.1 S.2.1 dX2_holds_31 (by decide) ?_
          refine lv_icmp_ne (tgt := 44) S.1 S.2.1 dX2_holds_32 (by decide) (fun hh => absurd h17 hh) (fun _ => ?_)
          refine lv_aload_n S.1 S.2.1 dX2_holds_35 rfl (lv_at hl 0 rfl) ?_
          refine lv_iload_n S.1 S.2.1 dX2_holds_36 rfl (lv_at hl 2 rfl) ?_
          refine lv_iload_n S.1 S.2.1 dX2_holds_37 rfl (lv_at hl 3 rfl) ?_
          refine rdV S cv_RX2_47 (c_X2_leads (f := x) (t := y) hV) hK hN hP (md_rv hK hP) ⟨Nat.le_of_ble_eq_true rfl, Nat.le_of_ble_eq_true rfl⟩ ⟨Nat.zero_le _, Nat.zero_le _⟩ rfl hl.1 rfl (Nat.le_of_ble_eq_true rfl) dX2_holds_38 ?_
          refine lv_goto (tgt := 50) S.1 S.2.1 dX2_holds_41 (by decide) ?_
          exact rd_retz hQ S hr hlk (by simp [hoM, show liB (nI 1) = true from by decide, nI_clamp (show k < 2 ^ 31 by omega), hb, h12, h17, h25]) dX2_holds_50
        · have h25 : (stB N y) = false := bI_f h25
          refine lv_iconst (v := nI 0) S.1 S.2.1 dX2_holds_28 (by decide) ?_
          exact rd_retz hQ S hr hlk (r0 (by simp [hoM, show liB (nI 1) = true from by decide, hb, h12, h17, h25])) dX2_holds_29
set_option maxHeartbeats 4000000 in
set_option maxRecDepth 100000 in
theorem c_X2_explore {l : Launch} {D : va_G} {cI cL : ClassId} {b : Nat → Nat} {N len : Nat} {cn : Nat → Nat} {P M pth dep : Nat → Int32}  (hV : RInv N cn) : MetW l yX2_explore cX2_explore 5 none 2 [.ref (b 0)] D cI cL (MDw cI b N len cn P M pth dep) (none) (MDw cI b N len cn P M pth (xplM N cn P M dep)) := by
  refine MetW.mk (by decide) (Nat.le_of_ble_eq_true rfl) ?_
  intro p e s m args below meth c Q A hQ S hr hlk hN hK hP hD hS ls hl
  have S : CallFix p m c cX2_explore 5 s args wt RX2 := S
  have hl : lv_has ls 5 [(0, .ref (b 0))] := hl
  have hz := hV.S
  refine lv_iconst (v := nI 0) S.1 S.2.1 dX2_explore_0 (by decide) ?_
  refine lv_istore_n (lv' := [(1, .int (nI 0)), (0, .ref (b 0))]) S.1 S.2.1 dX2_explore_1 rfl hl (by decide) rfl (fun ls hl => ?_)
  have loop2 : ∀ (nf : Nat) (i : Nat) (dep1 : Nat → Int32) (H : Heap) (locs : List Loc) (ls : Array Slot), 2 ^ N - i < nf → i ≤ 2 ^ N → fd (iniC (fun i => soM N cn P M 0 (nI i))) (2 ^ N) i dep1 = fd (iniC (fun i => soM N cn P M 0 (nI i))) (2 ^ N) 0 dep → va_P D classes (MDw cI b N len cn P M pth dep1) H → va_D A (MDw cI b N len cn P M pth dep1) → va_S A s.heap H locs → lv_has ls 5 [(1, .int (nI i)), (0, .ref (b 0))] → W p l e (rmd 2) s m args below meth c H locs 0 0 Q (F0 m 2 ls []) := by
    intro nf
    induction nf with
    | zero => exact fun i dep1 H locs ls hn => absurd hn (Nat.not_lt_zero _)
    | succ nf ih2 =>
      intro i dep1 H locs ls hn hi hv hP hD hS hl
      refine lv_iload_n S.1 S.2.1 dX2_explore_2 rfl (lv_at hl 0 rfl) ?_
      refine lv_aload_n S.1 S.2.1 dX2_explore_3 rfl (lv_at hl 1 rfl) ?_
      refine rdV S cv_RX2_29 (c_X2_states hV) hK hN hP (md_rv hK hP) ⟨Nat.le_of_ble_eq_true rfl, Nat.le_of_ble_eq_true rfl⟩ ⟨Nat.zero_le _, Nat.zero_le _⟩ rfl hl.1 rfl (Nat.le_of_ble_eq_true rfl) dX2_explore_4 ?_
      refine lv_icmp_ge (tgt := 36) S.1 S.2.1 dX2_explore_7 (by decide) (fun h7 => ?_) (fun h7 => ?_)
      · have h7 := ge_n (by omega) (by omega) h7
        rw [fd_d h7] at hv
        subst hv
        refine lv_iconst (v := nI 1) S.1 S.2.1 dX2_explore_36 (by decide) ?_
        refine lv_istore_n (lv' := [(1, .int (nI 1)), (0, .ref (b 0))]) S.1 S.2.1 dX2_explore_37 rfl hl (by decide) rfl (fun ls hl => ?_)
        refine lv_iconst (v := nI 0) S.1 S.2.1 dX2_explore_38 (by decide) ?_
        refine lv_istore_n (lv' := [(2, .int (nI 0)), (1, .int (nI 1)), (0, .ref (b 0))]) S.1 S.2.1 dX2_explore_39 rfl hl (by decide) rfl (fun ls hl => ?_)
        have loop40 : ∀ (nf : Nat) (f : Nat) (k : Nat) (dep1 : Nat → Int32) (more : Bool) (H : Heap) (locs : List Loc) (ls : Array Slot), f < nf → k + f ≤ 2 ^ N + 1 → (more = true → unr (2 ^ N) dep1 < f ∧ xpK (fun f t => goM N cn P M (nI f) (nI t)) (2 ^ N) f k dep1 = xplM N cn P M dep) → (more = false → dep1 = xplM N cn P M dep) → va_P D classes (MDw cI b N len cn P M pth dep1) H → va_D A (MDw cI b N len cn P M pth dep1) → va_S A s.heap H locs → lv_has ls 5 [(1, .int (bI more)), (2, .int (nI k)), (0, .ref (b 0))] → W p l e (rmd 2) s m args below meth c H locs 0 0 Q (F0 m 40 ls []) := by
          intro nf
          induction nf with
          | zero => exact fun f k dep1 more H locs ls hn => absurd hn (Nat.not_lt_zero _)
          | succ nf ih40 =>
            intro f k dep1 more H locs ls hn hm0 hm hm2 hP hD hS hl
            refine lv_iload_n S.1 S.2.1 dX2_explore_40 rfl (lv_at hl 0 rfl) ?_
            refine lv_if_eq (tgt := 128) S.1 S.2.1 dX2_explore_41 (by decide) (fun h41 => ?_) (fun h41 => ?_)
            · have h41 : (more) = false := bI_f h41
              obtain rfl := hm2 h41
              exact wr_retv hQ S hr hlk hP hS rfl dX2_explore_128
            · have h41 : (more) = true := bI_t h41
              obtain ⟨hm3, hm4⟩ := hm h41
              obtain ⟨f1, rfl⟩ : ∃ f1, f = f1 + 1 := ⟨f - 1, by omega⟩
              refine lv_iconst (v := nI 0) S.1 S.2.1 dX2_explore_44 (by decide) ?_
              refine lv_istore_n (lv' := [(1, .int (nI 0)), (2, .int (nI k)), (0, .ref (b 0))]) S.1 S.2.1 dX2_explore_45 rfl hl (by decide) rfl (fun ls hl => ?_)
              refine lv_iconst (v := nI 0) S.1 S.2.1 dX2_explore_46 (by decide) ?_
              refine lv_istore_n (lv' := [(3, .int (nI 0)), (1, .int (nI 0)), (2, .int (nI k)), (0, .ref (b 0))]) S.1 S.2.1 dX2_explore_47 rfl hl (by decide) rfl (fun ls hl => ?_)
              have loop48 : ∀ (nf : Nat) (si : Nat) (dep2 : Nat → Int32) (mr : Bool) (H : Heap) (locs : List Loc) (ls : Array Slot), 2 ^ N - si < nf → si ≤ 2 ^ N → fd (fun s x => ti (fun f t => goM N cn P M (nI f) (nI t)) k s (2 ^ N) 0 x) (2 ^ N) si (dep2, mr) = rnd (fun f t => goM N cn P M (nI f) (nI t)) (2 ^ N) k dep1 → va_P D classes (MDw cI b N len cn P M pth dep2) H → va_D A (MDw cI b N len cn P M pth dep2) → va_S A s.heap H locs → lv_has ls 5 [(3, .int (nI si)), (1, .int (bI mr)), (2, .int (nI k)), (0, .ref (b 0))] → W p l e (rmd 2) s m args below meth c H locs 0 0 Q (F0 m 48 ls []) := by
                intro nf
                induction nf with
                | zero => exact fun si dep2 mr H locs ls hn => absurd hn (Nat.not_lt_zero _)
                | succ nf ih48 =>
                  intro si dep2 mr H locs ls hn hs hw hP hD hS hl
                  refine lv_iload_n S.1 S.2.1 dX2_explore_48 rfl (lv_at hl 0 rfl) ?_
                  refine lv_aload_n S.1 S.2.1 dX2_explore_49 rfl (lv_at hl 3 rfl) ?_
                  refine rdV S cv_RX2_29 (c_X2_states hV) hK hN hP (md_rv hK hP) ⟨Nat.le_of_ble_eq_true rfl, Nat.le_of_ble_eq_true rfl⟩ ⟨Nat.zero_le _, Nat.zero_le _⟩ rfl hl.1 rfl (Nat.le_of_ble_eq_true rfl) dX2_explore_50 ?_
                  refine lv_icmp_ge (tgt := 122) S.1 S.2.1 dX2_explore_53 (by decide) (fun h53 => ?_) (fun h53 => ?_)
                  · have h53 := ge_n (by omega) (by omega) h53
                    rw [fd_d h53] at hw
                    refine lv_iinc (v := nI (k + 1)) (lv' := [(2, .int (nI (k + 1))), (3, .int (nI si)), (1, .int (bI mr)), (0, .ref (b 0))]) S.1 S.2.1 dX2_explore_122 hl (k := 2) rfl (nI_1 _) (by decide) rfl (fun ls hl => ?_)
                    refine lv_goto (tgt := 40) S.1 S.2.1 dX2_explore_125 (by decide) ?_
                    exact ih40 f1 (k + 1) dep2 mr _ _ ls (by omega) (by omega) (fun q => rnd_m hw q (by omega) hm3 hm4) (fun q => rnd_0 hw q hm4) hP hD hS (lv_sub hl [2, 0, 3] rfl)
                  · have h53 := ge_f (by omega) (by omega) h53
                    refine lv_iconst (v := nI 0) S.1 S.2.1 dX2_explore_56 (by decide) ?_
                    refine lv_istore (lv' := [(4, .int (nI 0)), (3, .int (nI si)), (1, .int (bI mr)), (2, .int (nI k)), (0, .ref (b 0))]) S.1 S.2.1 dX2_explore_57 hl (by decide) rfl (fun ls hl => ?_)
                    have loop59 : ∀ (nf : Nat) (t : Nat) (dep3 : Nat → Int32) (mr3 : Bool) (H : Heap) (locs : List Loc) (ls : Array Slot), 2 ^ N - t < nf → t ≤ 2 ^ N → ti (fun f t => goM N cn P M (nI f) (nI t)) k si (2 ^ N) t (dep3, mr3) = ti (fun f t => goM N cn P M (nI f) (nI t)) k si (2 ^ N) 0 (dep2, mr) → va_P D classes (MDw cI b N len cn P M pth dep3) H → va_D A (MDw cI b N len cn P M pth dep3) → va_S A s.heap H locs → lv_has ls 5 [(4, .int (nI t)), (1, .int (bI mr3)), (2, .int (nI k)), (3, .int (nI si)), (0, .ref (b 0))] → W p l e (rmd 2) s m args below meth c H locs 0 0 Q (F0 m 59 ls []) := by
                      intro nf
                      induction nf with
                      | zero => exact fun t dep3 mr3 H locs ls hn => absurd hn (Nat.not_lt_zero _)
                      | succ nf ih59 =>
                        intro t dep3 mr3 H locs ls hn ht hu hP hD hS hl
                        refine lv_iload S.1 S.2.1 dX2_explore_59 (lv_at hl 0 rfl) ?_
                        refine lv_aload_n S.1 S.2.1 dX2_explore_61 rfl (lv_at hl 4 rfl) ?_
                        refine rdV S cv_RX2_29 (c_X2_states hV) hK hN hP (md_rv hK hP) ⟨Nat.le_of_ble_eq_true rfl, Nat.le_of_ble_eq_true rfl⟩ ⟨Nat.zero_le _, Nat.zero_le _⟩ rfl hl.1 rfl (Nat.le_of_ble_eq_true rfl) dX2_explore_62 ?_
                        refine lv_icmp_ge (tgt := 116) S.1 S.2.1 dX2_explore_65 (by decide) (fun h65 => ?_) (fun h65 => ?_)
                        · have h65 := ge_n (by omega) (by omega) h65
                          rw [ti_d h65] at hu
                          refine lv_iinc (v := nI (si + 1)) (lv' := [(3, .int (nI (si + 1))), (4, .int (nI t)), (1, .int (bI mr3)), (2, .int (nI k)), (0, .ref (b 0))]) S.1 S.2.1 dX2_explore_116 hl (k := 3) rfl (nI_1 _) (by decide) rfl (fun ls hl => ?_)
                          refine lv_goto (tgt := 48) S.1 S.2.1 dX2_explore_119 (by decide) ?_
                          exact ih48 (si + 1) dep3 mr3 _ _ ls (by omega) (by omega) (fd_b h53 hw hu.symm) hP hD hS (lv_sub hl [0, 2, 3, 4] rfl)
                        · have h65 := ge_f (by omega) (by omega) h65
                          refine lv_aload_n S.1 S.2.1 dX2_explore_68 rfl (lv_at hl 4 rfl) ?_
                          refine g2_depths S hK hP dX2_explore_69 ?_
                          refine lv_iload_n S.1 S.2.1 dX2_explore_72 rfl (lv_at hl 3 rfl) ?_
                          refine a2_dep (by omega) S hK hP dX2_explore_73 ?_
                          refine lv_iload_n S.1 S.2.1 dX2_explore_74 rfl (lv_at hl 2 rfl) ?_
                          refine lv_icmp_ne (tgt := 116) S.1 S.2.1 dX2_explore_75 (by decide) (fun h75 => ?_) (fun h75 => ?_)
                          · rw [ti_n h75] at hu
                            refine lv_iinc (v := nI (si + 1)) (lv' := [(3, .int (nI (si + 1))), (4, .int (nI t)), (1, .int (bI mr3)), (2, .int (nI k)), (0, .ref (b 0))]) S.1 S.2.1 dX2_explore_116 hl (k := 3) rfl (nI_1 _) (by decide) rfl (fun ls hl => ?_)
                            refine lv_goto (tgt := 48) S.1 S.2.1 dX2_explore_119 (by decide) ?_
                            exact ih48 (si + 1) dep3 mr3 _ _ ls (by omega) (by omega) (fd_b h53 hw hu.symm) hP hD hS (lv_sub hl [0, 2, 3, 4] rfl)
                          · refine lv_aload_n S.1 S.2.1 dX2_explore_78 rfl (lv_at hl 4 rfl) ?_
                            refine g2_depths S hK hP dX2_explore_79 ?_
                            refine lv_iload S.1 S.2.1 dX2_explore_82 (lv_at hl 0 rfl) ?_
                            refine a2_dep (by omega) S hK hP dX2_explore_84 ?_
                            refine lv_if_ge (tgt := 110) S.1 S.2.1 dX2_explore_85 (by decide) (fun h85 => ?_) (fun h85 => ?_)
                            · refine lv_iinc (v := nI (t + 1)) (lv' := [(4, .int (nI (t + 1))), (1, .int (bI mr3)), (2, .int (nI k)), (3, .int (nI si)), (0, .ref (b 0))]) S.1 S.2.1 dX2_explore_110 hl (k := 0) rfl (nI_1 _) (by decide) rfl (fun ls hl => ?_)
                              refine lv_goto (tgt := 59) S.1 S.2.1 dX2_explore_113 (by decide) ?_
                              exact ih59 (t + 1) _ mr3 _ _ ls (by omega) (by omega) (ti_b h65 h75 hu (by simp [tsM, h53, h85])) hP hD hS (lv_sub hl [0, 1, 2, 3, 4] rfl)
                            · refine lv_aload_n S.1 S.2.1 dX2_explore_88 rfl (lv_at hl 4 rfl) ?_
                              refine lv_iload_n S.1 S.2.1 dX2_explore_89 rfl (lv_at hl 3 rfl) ?_
                              refine lv_iload S.1 S.2.1 dX2_explore_90 (lv_at hl 0 rfl) ?_
                              refine rdV S cv_RX2_47 (c_X2_leads (f := nI si) (t := nI t) hV) hK hN hP (md_rv hK hP) ⟨Nat.le_of_ble_eq_true rfl, Nat.le_of_ble_eq_true rfl⟩ ⟨Nat.zero_le _, Nat.zero_le _⟩ rfl hl.1 rfl (Nat.le_of_ble_eq_true rfl) dX2_explore_92 ?_
                              refine lv_if_eq (tgt := 110) S.1 S.2.1 dX2_explore_95 (by decide) (fun h95 => ?_) (fun h95 => ?_)
                              · have h95 : (goM N cn P M (nI si) (nI t)) = false := bI_f h95
                                refine lv_iinc (v := nI (t + 1)) (lv' := [(4, .int (nI (t + 1))), (1, .int (bI mr3)), (2, .int (nI k)), (3, .int (nI si)), (0, .ref (b 0))]) S.1 S.2.1 dX2_explore_110 hl (k := 0) rfl (nI_1 _) (by decide) rfl (fun ls hl => ?_)
                                refine lv_goto (tgt := 59) S.1 S.2.1 dX2_explore_113 (by decide) ?_
                                exact ih59 (t + 1) _ mr3 _ _ ls (by omega) (by omega) (ti_b h65 h75 hu (by simp [tsM, h53, h85, h95])) hP hD hS (lv_sub hl [0, 1, 2, 3, 4] rfl)
                              · have h95 : (goM N cn P M (nI si) (nI t)) = true := bI_t h95
                                refine lv_aload_n S.1 S.2.1 dX2_explore_98 rfl (lv_at hl 4 rfl) ?_
                                refine g2_depths S hK hP dX2_explore_99 ?_
                                refine lv_iload S.1 S.2.1 dX2_explore_102 (lv_at hl 0 rfl) ?_
                                refine lv_iload_n S.1 S.2.1 dX2_explore_104 rfl (lv_at hl 2 rfl) ?_
                                refine lv_iconst (v := nI 1) S.1 S.2.1 dX2_explore_105 (by decide) ?_
                                refine lv_iadd S.1 S.2.1 dX2_explore_106 ?_
                                refine s2_dep (x := (nI k) + (nI 1)) (by omega) S hK hP hD hS dX2_explore_107 (fun H locs hP hD hS => ?_)
                                refine lv_iconst (v := nI 1) S.1 S.2.1 dX2_explore_108 (by decide) ?_
                                refine lv_istore_n (lv' := [(1, .int (nI 1)), (4, .int (nI t)), (2, .int (nI k)), (3, .int (nI si)), (0, .ref (b 0))]) S.1 S.2.1 dX2_explore_109 rfl hl (by decide) rfl (fun ls hl => ?_)
                                refine lv_iinc (v := nI (t + 1)) (lv' := [(4, .int (nI (t + 1))), (1, .int (nI 1)), (2, .int (nI k)), (3, .int (nI si)), (0, .ref (b 0))]) S.1 S.2.1 dX2_explore_110 hl (k := 1) rfl (nI_1 _) (by decide) rfl (fun ls hl => ?_)
                                refine lv_goto (tgt := 59) S.1 S.2.1 dX2_explore_113 (by decide) ?_
                                exact ih59 (t + 1) _ true _ _ ls (by omega) (by omega) (ti_b h65 h75 hu (by simp [tsM, h53, h85, h95])) hP hD hS (lv_sub hl [0, 1, 2, 3, 4] rfl)
                    exact loop59 _ 0 dep2 mr _ _ ls (Nat.lt_succ_self _) (Nat.zero_le _) rfl hP hD hS (lv_sub hl [0, 2, 3, 1, 4] rfl)
              exact loop48 _ 0 dep1 false _ _ ls (Nat.lt_succ_self _) (Nat.zero_le _) rfl hP hD hS (lv_sub hl [0, 1, 2, 3] rfl)
        exact loop40 _ (2 ^ N + 1) 0 _ true _ _ ls (Nat.lt_succ_self _) (by omega) (fun _ => ⟨Nat.lt_succ_of_le (unr_le _ _), rfl⟩) (fun q => absurd q (by decide)) hP hD hS (lv_sub hl [1, 0, 2] rfl)
      · have h7 := ge_f (by omega) (by omega) h7
        refine lv_aload_n S.1 S.2.1 dX2_explore_10 rfl (lv_at hl 1 rfl) ?_
        refine g2_depths S hK hP dX2_explore_11 ?_
        refine lv_iload_n S.1 S.2.1 dX2_explore_14 rfl (lv_at hl 0 rfl) ?_
        refine lv_aload_n S.1 S.2.1 dX2_explore_15 rfl (lv_at hl 1 rfl) ?_
        refine lv_iconst (v := nI 0) S.1 S.2.1 dX2_explore_16 (by decide) ?_
        refine lv_iload_n S.1 S.2.1 dX2_explore_17 rfl (lv_at hl 0 rfl) ?_
        refine rdV S cv_RX2_40 (c_X2_isSo (k := 0) (x := nI i) (by decide) hV) hK hN hP (md_rv hK hP) ⟨Nat.le_of_ble_eq_true rfl, Nat.le_of_ble_eq_true rfl⟩ ⟨Nat.zero_le _, Nat.zero_le _⟩ rfl hl.1 rfl (Nat.le_of_ble_eq_true rfl) dX2_explore_18 ?_
        refine lv_if_eq (tgt := 28) S.1 S.2.1 dX2_explore_21 (by decide) (fun h21 => ?_) (fun h21 => ?_)
        · have h21 : (soM N cn P M 0 (nI i)) = false := bI_f h21
          refine lv_iconst (v := -1) S.1 S.2.1 dX2_explore_28 (by decide) ?_
          refine s2_dep (x := -1) (by omega) S hK hP hD hS dX2_explore_29 (fun H locs hP hD hS => ?_)
          refine lv_iinc (v := nI (i + 1)) (lv' := [(1, .int (nI (i + 1))), (0, .ref (b 0))]) S.1 S.2.1 dX2_explore_30 hl (k := 0) rfl (nI_1 _) (by decide) rfl (fun ls hl => ?_)
          refine lv_goto (tgt := 2) S.1 S.2.1 dX2_explore_33 (by decide) ?_
          exact ih2 (i + 1) _ _ _ ls (by omega) (by omega) (fd_b h7 hv (by simp [iniC, h21])) hP hD hS (lv_sub hl [0, 1] rfl)
        · have h21 : (soM N cn P M 0 (nI i)) = true := bI_t h21
          refine lv_iconst (v := nI 0) S.1 S.2.1 dX2_explore_24 (by decide) ?_
          refine lv_goto (tgt := 29) S.1 S.2.1 dX2_explore_25 (by decide) ?_
          refine s2_dep (x := nI 0) (by omega) S hK hP hD hS dX2_explore_29 (fun H locs hP hD hS => ?_)
          refine lv_iinc (v := nI (i + 1)) (lv' := [(1, .int (nI (i + 1))), (0, .ref (b 0))]) S.1 S.2.1 dX2_explore_30 hl (k := 0) rfl (nI_1 _) (by decide) rfl (fun ls hl => ?_)
          refine lv_goto (tgt := 2) S.1 S.2.1 dX2_explore_33 (by decide) ?_
          exact ih2 (i + 1) _ _ _ ls (by omega) (by omega) (fd_b h7 hv (by simp [iniC, h21])) hP hD hS (lv_sub hl [0, 1] rfl)
  exact loop2 _ 0 dep _ _ ls (Nat.lt_succ_self _) (Nat.zero_le _) rfl hP hD hS (lv_sub hl [0, 1] rfl)
set_option maxHeartbeats 4000000 in
set_option maxRecDepth 100000 in
theorem c_X2_steps {l : Launch} {D : va_G} {cI cL : ClassId} {b : Nat → Nat} {N len : Nat} {cn : Nat → Nat} {P M pth dep : Nat → Int32}  (hV : RInv N cn) : MetW l yX2_steps cX2_steps 3 (some .int) 3 [.ref (b 0)] D cI cL (MDw cI b N len cn P M pth dep) (some (.int (stM N cn P M (xplM N cn P M dep)))) (MDw cI b N len cn P M pth (xplM N cn P M dep)) := by
  refine MetW.mk (by decide) (Nat.le_of_ble_eq_true rfl) ?_
  intro p e s m args below meth c Q A hQ S hr hlk hN hK hP hD hS ls hl
  have S : CallFix p m c cX2_steps 3 s args wt RX2 := S
  have hl : lv_has ls 3 [(0, .ref (b 0))] := hl
  have hz := hV.S
  refine lv_aload_n S.1 S.2.1 dX2_steps_0 rfl (lv_at hl 0 rfl) ?_
  refine wrVv S cv_RX2_50 (c_X2_explore hV) hK hN hP hD hS (md_rv hK hP) ⟨Nat.le_of_ble_eq_true rfl, Nat.le_of_ble_eq_true rfl⟩ ⟨Nat.zero_le _, Nat.zero_le _⟩ rfl hl.1 rfl (Nat.le_of_ble_eq_true rfl) dX2_steps_1 (fun H locs hP hS _ => ?_)
  have hD : va_D A (MDw cI b N len cn P M pth (xplM N cn P M dep)) := D_same hD rfl
  refine lv_iconst (v := -1) S.1 S.2.1 dX2_steps_4 (by decide) ?_
  refine lv_istore_n (lv' := [(1, .int (-1)), (0, .ref (b 0))]) S.1 S.2.1 dX2_steps_5 rfl hl (by decide) rfl (fun ls hl => ?_)
  refine lv_iconst (v := nI 0) S.1 S.2.1 dX2_steps_6 (by decide) ?_
  refine lv_istore_n (lv' := [(2, .int (nI 0)), (1, .int (-1)), (0, .ref (b 0))]) S.1 S.2.1 dX2_steps_7 rfl hl (by decide) rfl (fun ls hl => ?_)
  have loop8 : ∀ (nf : Nat) (i : Nat) (x : Int32) (H : Heap) (locs : List Loc) (ls : Array Slot), 2 ^ N - i < nf → i ≤ 2 ^ N → fd (minF (fun i x => !decide ((xplM N cn P M dep) i < 0) && ((decide (x < 0) || !decide (x ≤ (xplM N cn P M dep) i)) && soM N cn P M 2 (nI i))) (xplM N cn P M dep)) (2 ^ N) i x = stM N cn P M (xplM N cn P M dep) → va_P D classes (MDw cI b N len cn P M pth (xplM N cn P M dep)) H → va_D A (MDw cI b N len cn P M pth (xplM N cn P M dep)) → va_S A s.heap H locs → lv_has ls 3 [(2, .int (nI i)), (1, .int x), (0, .ref (b 0))] → W p l e (rmd 3) s m args below meth c H locs 0 0 Q (F0 m 8 ls []) := by
    intro nf
    induction nf with
    | zero => exact fun i x H locs ls hn => absurd hn (Nat.not_lt_zero _)
    | succ nf ih8 =>
      intro i x H locs ls hn hi hv hP hD hS hl
      refine lv_iload_n S.1 S.2.1 dX2_steps_8 rfl (lv_at hl 0 rfl) ?_
      refine lv_aload_n S.1 S.2.1 dX2_steps_9 rfl (lv_at hl 2 rfl) ?_
      refine rdV S cv_RX2_29 (c_X2_states hV) hK hN hP (md_rv hK hP) ⟨Nat.le_of_ble_eq_true rfl, Nat.le_of_ble_eq_true rfl⟩ ⟨Nat.zero_le _, Nat.zero_le _⟩ rfl hl.1 rfl (Nat.le_of_ble_eq_true rfl) dX2_steps_10 ?_
      refine lv_icmp_ge (tgt := 61) S.1 S.2.1 dX2_steps_13 (by decide) (fun h13 => ?_) (fun h13 => ?_)
      · have h13 := ge_n (by omega) (by omega) h13
        refine lv_iload_n S.1 S.2.1 dX2_steps_61 rfl (lv_at hl 1 rfl) ?_
        exact wr_ret hQ S hr hlk hP hS rfl (by rw [← hv, fd_d h13]) dX2_steps_62
      · have h13 := ge_f (by omega) (by omega) h13
        refine lv_aload_n S.1 S.2.1 dX2_steps_16 rfl (lv_at hl 2 rfl) ?_
        refine g2_depths S hK hP dX2_steps_17 ?_
        refine lv_iload_n S.1 S.2.1 dX2_steps_20 rfl (lv_at hl 0 rfl) ?_
        refine a2_dep (by omega) S hK hP dX2_steps_21 ?_
        refine lv_if_lt (tgt := 55) S.1 S.2.1 dX2_steps_22 (by decide) (fun h22 => ?_) (fun h22 => ?_)
        · refine lv_iinc (v := nI (i + 1)) (lv' := [(2, .int (nI (i + 1))), (1, .int x), (0, .ref (b 0))]) S.1 S.2.1 dX2_steps_55 hl (k := 0) rfl (nI_1 _) (by decide) rfl (fun ls hl => ?_)
          refine lv_goto (tgt := 8) S.1 S.2.1 dX2_steps_58 (by decide) ?_
          exact ih8 (i + 1) _ _ _ ls (by omega) (by omega) (fd_b h13 hv (by simp only [minF, decide_eq_true h22]; simp)) hP hD hS (lv_sub hl [0, 1, 2] rfl)
        · refine lv_iload_n S.1 S.2.1 dX2_steps_25 rfl (lv_at hl 1 rfl) ?_
          refine lv_if_lt (tgt := 39) S.1 S.2.1 dX2_steps_26 (by decide) (fun h26 => ?_) (fun h26 => ?_)
          · refine lv_aload_n S.1 S.2.1 dX2_steps_39 rfl (lv_at hl 2 rfl) ?_
            refine lv_iconst (v := nI 2) S.1 S.2.1 dX2_steps_40 (by decide) ?_
            refine lv_iload_n S.1 S.2.1 dX2_steps_41 rfl (lv_at hl 0 rfl) ?_
            refine rdV S cv_RX2_40 (c_X2_isSo (k := 2) (x := nI i) (by decide) hV) hK hN hP (md_rv hK hP) ⟨Nat.le_of_ble_eq_true rfl, Nat.le_of_ble_eq_true rfl⟩ ⟨Nat.zero_le _, Nat.zero_le _⟩ rfl hl.1 rfl (Nat.le_of_ble_eq_true rfl) dX2_steps_42 ?_
            refine lv_if_eq (tgt := 55) S.1 S.2.1 dX2_steps_45 (by decide) (fun h45 => ?_) (fun h45 => ?_)
            · have h45 : (soM N cn P M 2 (nI i)) = false := bI_f h45
              refine lv_iinc (v := nI (i + 1)) (lv' := [(2, .int (nI (i + 1))), (1, .int x), (0, .ref (b 0))]) S.1 S.2.1 dX2_steps_55 hl (k := 0) rfl (nI_1 _) (by decide) rfl (fun ls hl => ?_)
              refine lv_goto (tgt := 8) S.1 S.2.1 dX2_steps_58 (by decide) ?_
              exact ih8 (i + 1) _ _ _ ls (by omega) (by omega) (fd_b h13 hv (by simp only [minF, decide_eq_false h22, decide_eq_true h26, h45]; simp)) hP hD hS (lv_sub hl [0, 1, 2] rfl)
            · have h45 : (soM N cn P M 2 (nI i)) = true := bI_t h45
              refine lv_aload_n S.1 S.2.1 dX2_steps_48 rfl (lv_at hl 2 rfl) ?_
              refine g2_depths S hK hP dX2_steps_49 ?_
              refine lv_iload_n S.1 S.2.1 dX2_steps_52 rfl (lv_at hl 0 rfl) ?_
              refine a2_dep (by omega) S hK hP dX2_steps_53 ?_
              refine lv_istore_n (lv' := [(1, .int ((xplM N cn P M dep) i)), (2, .int (nI i)), (0, .ref (b 0))]) S.1 S.2.1 dX2_steps_54 rfl hl (by decide) rfl (fun ls hl => ?_)
              refine lv_iinc (v := nI (i + 1)) (lv' := [(2, .int (nI (i + 1))), (1, .int ((xplM N cn P M dep) i)), (0, .ref (b 0))]) S.1 S.2.1 dX2_steps_55 hl (k := 1) rfl (nI_1 _) (by decide) rfl (fun ls hl => ?_)
              refine lv_goto (tgt := 8) S.1 S.2.1 dX2_steps_58 (by decide) ?_
              exact ih8 (i + 1) _ _ _ ls (by omega) (by omega) (fd_b h13 hv (by simp only [minF, decide_eq_false h22, decide_eq_true h26, h45]; simp)) hP hD hS (lv_sub hl [0, 1, 2] rfl)
          · refine lv_aload_n S.1 S.2.1 dX2_steps_29 rfl (lv_at hl 2 rfl) ?_
            refine g2_depths S hK hP dX2_steps_30 ?_
            refine lv_iload_n S.1 S.2.1 dX2_steps_33 rfl (lv_at hl 0 rfl) ?_
            refine a2_dep (by omega) S hK hP dX2_steps_34 ?_
            refine lv_iload_n S.1 S.2.1 dX2_steps_35 rfl (lv_at hl 1 rfl) ?_
            refine lv_icmp_ge (tgt := 55) S.1 S.2.1 dX2_steps_36 (by decide) (fun h36 => ?_) (fun h36 => ?_)
            · refine lv_iinc (v := nI (i + 1)) (lv' := [(2, .int (nI (i + 1))), (1, .int x), (0, .ref (b 0))]) S.1 S.2.1 dX2_steps_55 hl (k := 0) rfl (nI_1 _) (by decide) rfl (fun ls hl => ?_)
              refine lv_goto (tgt := 8) S.1 S.2.1 dX2_steps_58 (by decide) ?_
              exact ih8 (i + 1) _ _ _ ls (by omega) (by omega) (fd_b h13 hv (by simp only [minF, decide_eq_false h22, decide_eq_false h26, decide_eq_true h36]; simp)) hP hD hS (lv_sub hl [0, 1, 2] rfl)
            · refine lv_aload_n S.1 S.2.1 dX2_steps_39 rfl (lv_at hl 2 rfl) ?_
              refine lv_iconst (v := nI 2) S.1 S.2.1 dX2_steps_40 (by decide) ?_
              refine lv_iload_n S.1 S.2.1 dX2_steps_41 rfl (lv_at hl 0 rfl) ?_
              refine rdV S cv_RX2_40 (c_X2_isSo (k := 2) (x := nI i) (by decide) hV) hK hN hP (md_rv hK hP) ⟨Nat.le_of_ble_eq_true rfl, Nat.le_of_ble_eq_true rfl⟩ ⟨Nat.zero_le _, Nat.zero_le _⟩ rfl hl.1 rfl (Nat.le_of_ble_eq_true rfl) dX2_steps_42 ?_
              refine lv_if_eq (tgt := 55) S.1 S.2.1 dX2_steps_45 (by decide) (fun h45 => ?_) (fun h45 => ?_)
              · have h45 : (soM N cn P M 2 (nI i)) = false := bI_f h45
                refine lv_iinc (v := nI (i + 1)) (lv' := [(2, .int (nI (i + 1))), (1, .int x), (0, .ref (b 0))]) S.1 S.2.1 dX2_steps_55 hl (k := 0) rfl (nI_1 _) (by decide) rfl (fun ls hl => ?_)
                refine lv_goto (tgt := 8) S.1 S.2.1 dX2_steps_58 (by decide) ?_
                exact ih8 (i + 1) _ _ _ ls (by omega) (by omega) (fd_b h13 hv (by simp only [minF, decide_eq_false h22, decide_eq_false h26, decide_eq_false h36, h45]; simp)) hP hD hS (lv_sub hl [0, 1, 2] rfl)
              · have h45 : (soM N cn P M 2 (nI i)) = true := bI_t h45
                refine lv_aload_n S.1 S.2.1 dX2_steps_48 rfl (lv_at hl 2 rfl) ?_
                refine g2_depths S hK hP dX2_steps_49 ?_
                refine lv_iload_n S.1 S.2.1 dX2_steps_52 rfl (lv_at hl 0 rfl) ?_
                refine a2_dep (by omega) S hK hP dX2_steps_53 ?_
                refine lv_istore_n (lv' := [(1, .int ((xplM N cn P M dep) i)), (2, .int (nI i)), (0, .ref (b 0))]) S.1 S.2.1 dX2_steps_54 rfl hl (by decide) rfl (fun ls hl => ?_)
                refine lv_iinc (v := nI (i + 1)) (lv' := [(2, .int (nI (i + 1))), (1, .int ((xplM N cn P M dep) i)), (0, .ref (b 0))]) S.1 S.2.1 dX2_steps_55 hl (k := 1) rfl (nI_1 _) (by decide) rfl (fun ls hl => ?_)
                refine lv_goto (tgt := 8) S.1 S.2.1 dX2_steps_58 (by decide) ?_
                exact ih8 (i + 1) _ _ _ ls (by omega) (by omega) (fd_b h13 hv (by simp only [minF, decide_eq_false h22, decide_eq_false h26, decide_eq_false h36, h45]; simp)) hP hD hS (lv_sub hl [0, 1, 2] rfl)
  exact loop8 _ 0 _ _ _ ls (Nat.lt_succ_self _) (Nat.zero_le _) rfl hP hD hS (lv_sub hl [0, 1, 2] rfl)
set_option maxHeartbeats 4000000 in
set_option maxRecDepth 100000 in
theorem c_X2_safe {l : Launch} {D : va_G} {cI cL : ClassId} {b : Nat → Nat} {N len : Nat} {cn : Nat → Nat} {P M pth dep : Nat → Int32}  (hV : RInv N cn) : MetW l yX2_safe cX2_safe 1 (some .boolean) 4 [.ref (b 0)] D cI cL (MDw cI b N len cn P M pth dep) (some (.int (bI (!decide (0 ≤ stM N cn P M (xplM N cn P M dep)))))) (MDw cI b N len cn P M pth (xplM N cn P M dep)) := by
  refine MetW.mk (by decide) (Nat.le_of_ble_eq_true rfl) ?_
  intro p e s m args below meth c Q A hQ S hr hlk hN hK hP hD hS ls hl
  have S : CallFix p m c cX2_safe 1 s args wt RX2 := S
  have hl : lv_has ls 1 [(0, .ref (b 0))] := hl
  refine lv_aload_n S.1 S.2.1 dX2_safe_0 rfl (lv_at hl 0 rfl) ?_
  refine wrVi S cv_RX2_53 (c_X2_steps hV) hK hN hP hD hS (md_rv hK hP) ⟨Nat.le_of_ble_eq_true rfl, Nat.le_of_ble_eq_true rfl⟩ ⟨Nat.zero_le _, Nat.zero_le _⟩ rfl hl.1 rfl (Nat.le_of_ble_eq_true rfl) dX2_safe_1 (fun H locs hP hS _ => ?_)
  have hD : va_D A (MDw cI b N len cn P M pth (xplM N cn P M dep)) := D_same hD rfl
  refine lv_if_ge (tgt := 11) S.1 S.2.1 dX2_safe_4 (by decide) (fun h4 => ?_) (fun h4 => ?_)
  · refine lv_iconst (v := nI 0) S.1 S.2.1 dX2_safe_11 (by decide) ?_
    exact wr_retz hQ S hr hlk hP hS rfl (r0 (by rw [decide_eq_true h4]; rfl)) dX2_safe_12
  · refine lv_iconst (v := nI 1) S.1 S.2.1 dX2_safe_7 (by decide) ?_
    refine lv_goto (tgt := 12) S.1 S.2.1 dX2_safe_8 (by decide) ?_
    exact wr_retz hQ S hr hlk hP hS rfl (r1 (by rw [decide_eq_false h4]; rfl)) dX2_safe_12
set_option maxHeartbeats 4000000 in
set_option maxRecDepth 100000 in
theorem c_X2_depth_f {l : Launch} {D : va_G} {cI cL : ClassId} {b : Nat → Nat} {N len : Nat} {cn : Nat → Nat} {P M pth dep : Nat → Int32} {x : Int32} (hb : stB N x = false)  (hV : RInv N cn) : MetR l yX2_depth cX2_depth 2 (some .int) 3 [.ref (b 0), .int x] D cI cL (MDw cI b N len cn P M pth dep) (-1) := by
  refine MetR.mk (by decide) (Nat.le_of_ble_eq_true rfl) ?_
  intro p e s m args below meth c Q hQ S hr hlk hN hK hP ls hl
  have S : CallFix p m c cX2_depth 2 s args wt RX2 := S
  have hl : lv_has ls 2 [(0, .ref (b 0)), (1, .int x)] := hl
  refine lv_aload_n S.1 S.2.1 dX2_depth_0 rfl (lv_at hl 0 rfl) ?_
  refine lv_iload_n S.1 S.2.1 dX2_depth_1 rfl (lv_at hl 1 rfl) ?_
  refine rdV S cv_RX2_44 (c_X2_isState (x := x) hV) hK hN hP (md_rv hK hP) ⟨Nat.le_of_ble_eq_true rfl, Nat.le_of_ble_eq_true rfl⟩ ⟨Nat.zero_le _, Nat.zero_le _⟩ rfl hl.1 rfl (Nat.le_of_ble_eq_true rfl) dX2_depth_2 ?_
  refine lv_if_ne (tgt := 10) S.1 S.2.1 dX2_depth_5 (by decide) (fun hh => absurd (by rw [hb]; rfl) hh) (fun _ => ?_)
  refine lv_iconst (v := -1) S.1 S.2.1 dX2_depth_8 (by decide) ?_
  exact rd_ret hQ S hr hlk rfl dX2_depth_9
set_option maxHeartbeats 4000000 in
set_option maxRecDepth 100000 in
theorem c_X2_depth_t {l : Launch} {D : va_G} {cI cL : ClassId} {b : Nat → Nat} {N len : Nat} {cn : Nat → Nat} {P M pth dep : Nat → Int32} {i : Nat} (hi : i < 2 ^ N)  (hV : RInv N cn) : MetW l yX2_depth cX2_depth 2 (some .int) 3 [.ref (b 0), .int (nI i)] D cI cL (MDw cI b N len cn P M pth dep) (some (.int ((xplM N cn P M dep) i))) (MDw cI b N len cn P M pth (xplM N cn P M dep)) := by
  refine MetW.mk (by decide) (Nat.le_of_ble_eq_true rfl) ?_
  intro p e s m args below meth c Q A hQ S hr hlk hN hK hP hD hS ls hl
  have S : CallFix p m c cX2_depth 2 s args wt RX2 := S
  have hl : lv_has ls 2 [(0, .ref (b 0)), (1, .int (nI i))] := hl
  have hz := hV.S
  refine lv_aload_n S.1 S.2.1 dX2_depth_0 rfl (lv_at hl 0 rfl) ?_
  refine lv_iload_n S.1 S.2.1 dX2_depth_1 rfl (lv_at hl 1 rfl) ?_
  refine rdV S cv_RX2_44 (c_X2_isState (x := nI i) hV) hK hN hP (md_rv hK hP) ⟨Nat.le_of_ble_eq_true rfl, Nat.le_of_ble_eq_true rfl⟩ ⟨Nat.zero_le _, Nat.zero_le _⟩ rfl hl.1 rfl (Nat.le_of_ble_eq_true rfl) dX2_depth_2 ?_
  refine lv_if_ne (tgt := 10) S.1 S.2.1 dX2_depth_5 (by decide) (fun _ => ?_) (fun hh => absurd hh (by rw [stB_n hV hi]; decide))
  refine lv_aload_n S.1 S.2.1 dX2_depth_10 rfl (lv_at hl 0 rfl) ?_
  refine wrVv S cv_RX2_50 (c_X2_explore hV) hK hN hP hD hS (md_rv hK hP) ⟨Nat.le_of_ble_eq_true rfl, Nat.le_of_ble_eq_true rfl⟩ ⟨Nat.zero_le _, Nat.zero_le _⟩ rfl hl.1 rfl (Nat.le_of_ble_eq_true rfl) dX2_depth_11 (fun H locs hP hS _ => ?_)
  have hD : va_D A (MDw cI b N len cn P M pth (xplM N cn P M dep)) := D_same hD rfl
  refine lv_aload_n S.1 S.2.1 dX2_depth_14 rfl (lv_at hl 0 rfl) ?_
  refine g2_depths S hK hP dX2_depth_15 ?_
  refine lv_iload_n S.1 S.2.1 dX2_depth_18 rfl (lv_at hl 1 rfl) ?_
  refine a2_dep (by omega) S hK hP dX2_depth_19 ?_
  exact wr_ret hQ S hr hlk hP hS rfl rfl dX2_depth_20
set_option maxHeartbeats 4000000 in
set_option maxRecDepth 100000 in
theorem c_X2_reached {l : Launch} {D : va_G} {cI cL : ClassId} {b : Nat → Nat} {N len : Nat} {cn : Nat → Nat} {P M pth dep : Nat → Int32}  (hV : RInv N cn) : MetW l yX2_reached cX2_reached 3 (some .int) 3 [.ref (b 0)] D cI cL (MDw cI b N len cn P M pth dep) (some (.int (nI (reM N (xplM N cn P M dep))))) (MDw cI b N len cn P M pth (xplM N cn P M dep)) := by
  refine MetW.mk (by decide) (Nat.le_of_ble_eq_true rfl) ?_
  intro p e s m args below meth c Q A hQ S hr hlk hN hK hP hD hS ls hl
  have S : CallFix p m c cX2_reached 3 s args wt RX2 := S
  have hl : lv_has ls 3 [(0, .ref (b 0))] := hl
  have hz := hV.S
  refine lv_aload_n S.1 S.2.1 dX2_reached_0 rfl (lv_at hl 0 rfl) ?_
  refine wrVv S cv_RX2_50 (c_X2_explore hV) hK hN hP hD hS (md_rv hK hP) ⟨Nat.le_of_ble_eq_true rfl, Nat.le_of_ble_eq_true rfl⟩ ⟨Nat.zero_le _, Nat.zero_le _⟩ rfl hl.1 rfl (Nat.le_of_ble_eq_true rfl) dX2_reached_1 (fun H locs hP hS _ => ?_)
  have hD : va_D A (MDw cI b N len cn P M pth (xplM N cn P M dep)) := D_same hD rfl
  refine lv_iconst (v := nI 0) S.1 S.2.1 dX2_reached_4 (by decide) ?_
  refine lv_istore_n (lv' := [(1, .int (nI 0)), (0, .ref (b 0))]) S.1 S.2.1 dX2_reached_5 rfl hl (by decide) rfl (fun ls hl => ?_)
  refine lv_iconst (v := nI 0) S.1 S.2.1 dX2_reached_6 (by decide) ?_
  refine lv_istore_n (lv' := [(2, .int (nI 0)), (1, .int (nI 0)), (0, .ref (b 0))]) S.1 S.2.1 dX2_reached_7 rfl hl (by decide) rfl (fun ls hl => ?_)
  have loop8 : ∀ (nf : Nat) (i : Nat) (x : Nat) (H : Heap) (locs : List Loc) (ls : Array Slot), 2 ^ N - i < nf → i ≤ 2 ^ N → fd (cntF (fun i => !decide ((xplM N cn P M dep) i < 0))) (2 ^ N) i x = reM N (xplM N cn P M dep) → va_P D classes (MDw cI b N len cn P M pth (xplM N cn P M dep)) H → va_D A (MDw cI b N len cn P M pth (xplM N cn P M dep)) → va_S A s.heap H locs → lv_has ls 3 [(2, .int (nI i)), (1, .int (nI x)), (0, .ref (b 0))] → W p l e (rmd 3) s m args below meth c H locs 0 0 Q (F0 m 8 ls []) := by
    intro nf
    induction nf with
    | zero => exact fun i x H locs ls hn => absurd hn (Nat.not_lt_zero _)
    | succ nf ih8 =>
      intro i x H locs ls hn hi hv hP hD hS hl
      refine lv_iload_n S.1 S.2.1 dX2_reached_8 rfl (lv_at hl 0 rfl) ?_
      refine lv_aload_n S.1 S.2.1 dX2_reached_9 rfl (lv_at hl 2 rfl) ?_
      refine rdV S cv_RX2_29 (c_X2_states hV) hK hN hP (md_rv hK hP) ⟨Nat.le_of_ble_eq_true rfl, Nat.le_of_ble_eq_true rfl⟩ ⟨Nat.zero_le _, Nat.zero_le _⟩ rfl hl.1 rfl (Nat.le_of_ble_eq_true rfl) dX2_reached_10 ?_
      refine lv_icmp_ge (tgt := 39) S.1 S.2.1 dX2_reached_13 (by decide) (fun h13 => ?_) (fun h13 => ?_)
      · have h13 := ge_n (by omega) (by omega) h13
        refine lv_iload_n S.1 S.2.1 dX2_reached_39 rfl (lv_at hl 1 rfl) ?_
        exact wr_ret hQ S hr hlk hP hS rfl (by rw [← hv, fd_d h13]) dX2_reached_40
      · have h13 := ge_f (by omega) (by omega) h13
        refine lv_aload_n S.1 S.2.1 dX2_reached_16 rfl (lv_at hl 2 rfl) ?_
        refine g2_depths S hK hP dX2_reached_17 ?_
        refine lv_iload_n S.1 S.2.1 dX2_reached_20 rfl (lv_at hl 0 rfl) ?_
        refine a2_dep (by omega) S hK hP dX2_reached_21 ?_
        refine lv_if_lt (tgt := 31) S.1 S.2.1 dX2_reached_22 (by decide) (fun h22 => ?_) (fun h22 => ?_)
        · refine lv_iload_n S.1 S.2.1 dX2_reached_31 rfl (lv_at hl 1 rfl) ?_
          refine lv_istore_n (lv' := [(1, .int (nI x)), (2, .int (nI i)), (0, .ref (b 0))]) S.1 S.2.1 dX2_reached_32 rfl hl (by decide) rfl (fun ls hl => ?_)
          refine lv_iinc (v := nI (i + 1)) (lv' := [(2, .int (nI (i + 1))), (1, .int (nI x)), (0, .ref (b 0))]) S.1 S.2.1 dX2_reached_33 hl (k := 1) rfl (nI_1 _) (by decide) rfl (fun ls hl => ?_)
          refine lv_goto (tgt := 8) S.1 S.2.1 dX2_reached_36 (by decide) ?_
          exact ih8 (i + 1) _ _ _ ls (by omega) (by omega) (fd_b h13 hv (by simp only [cntF, decide_eq_true h22]; rfl)) hP hD hS (lv_sub hl [0, 1, 2] rfl)
        · refine lv_iload_n S.1 S.2.1 dX2_reached_25 rfl (lv_at hl 1 rfl) ?_
          refine lv_iconst (v := nI 1) S.1 S.2.1 dX2_reached_26 (by decide) ?_
          refine lv_iadd S.1 S.2.1 dX2_reached_27 ?_
          refine tp (y := nI (x + 1)) (nI_1 _) ?_
          refine lv_goto (tgt := 32) S.1 S.2.1 dX2_reached_28 (by decide) ?_
          refine lv_istore_n (lv' := [(1, .int (nI (x + 1))), (2, .int (nI i)), (0, .ref (b 0))]) S.1 S.2.1 dX2_reached_32 rfl hl (by decide) rfl (fun ls hl => ?_)
          refine lv_iinc (v := nI (i + 1)) (lv' := [(2, .int (nI (i + 1))), (1, .int (nI (x + 1))), (0, .ref (b 0))]) S.1 S.2.1 dX2_reached_33 hl (k := 1) rfl (nI_1 _) (by decide) rfl (fun ls hl => ?_)
          refine lv_goto (tgt := 8) S.1 S.2.1 dX2_reached_36 (by decide) ?_
          exact ih8 (i + 1) _ _ _ ls (by omega) (by omega) (fd_b h13 hv (by simp only [cntF, decide_eq_false h22]; rfl)) hP hD hS (lv_sub hl [0, 1, 2] rfl)
  exact loop8 _ 0 0 _ _ ls (Nat.lt_succ_self _) (Nat.zero_le _) rfl hP hD hS (lv_sub hl [0, 1, 2] rfl)
set_option maxHeartbeats 4000000 in
set_option maxRecDepth 100000 in
theorem c_X2_worst {l : Launch} {D : va_G} {cI cL : ClassId} {b : Nat → Nat} {N len : Nat} {cn : Nat → Nat} {P M pth dep : Nat → Int32}  (hV : RInv N cn) : MetW l yX2_worst cX2_worst 2 (some .int) 3 [.ref (b 0)] D cI cL (MDw cI b N len cn P M pth dep) (some (.int (oI (-1) (woM N cn P M (xplM N cn P M dep))))) (MDw cI b N len cn P M pth (xplM N cn P M dep)) := by
  refine MetW.mk (by decide) (Nat.le_of_ble_eq_true rfl) ?_
  intro p e s m args below meth c Q A hQ S hr hlk hN hK hP hD hS ls hl
  have S : CallFix p m c cX2_worst 2 s args wt RX2 := S
  have hl : lv_has ls 2 [(0, .ref (b 0))] := hl
  have hz := hV.S
  refine lv_aload_n S.1 S.2.1 dX2_worst_0 rfl (lv_at hl 0 rfl) ?_
  refine wrVv S cv_RX2_50 (c_X2_explore hV) hK hN hP hD hS (md_rv hK hP) ⟨Nat.le_of_ble_eq_true rfl, Nat.le_of_ble_eq_true rfl⟩ ⟨Nat.zero_le _, Nat.zero_le _⟩ rfl hl.1 rfl (Nat.le_of_ble_eq_true rfl) dX2_worst_1 (fun H locs hP hS _ => ?_)
  have hD : va_D A (MDw cI b N len cn P M pth (xplM N cn P M dep)) := D_same hD rfl
  refine lv_iconst (v := nI 0) S.1 S.2.1 dX2_worst_4 (by decide) ?_
  refine lv_istore_n (lv' := [(1, .int (nI 0)), (0, .ref (b 0))]) S.1 S.2.1 dX2_worst_5 rfl hl (by decide) rfl (fun ls hl => ?_)
  have loop6 : ∀ (nf : Nat) (i : Nat) (H : Heap) (locs : List Loc) (ls : Array Slot), 2 ^ N - i < nf → i ≤ 2 ^ N → fo (fun i => !decide ((xplM N cn P M dep) i < 0) && soM N cn P M 2 (nI i)) (2 ^ N) i = woM N cn P M (xplM N cn P M dep) → va_P D classes (MDw cI b N len cn P M pth (xplM N cn P M dep)) H → va_D A (MDw cI b N len cn P M pth (xplM N cn P M dep)) → va_S A s.heap H locs → lv_has ls 2 [(1, .int (nI i)), (0, .ref (b 0))] → W p l e (rmd 3) s m args below meth c H locs 0 0 Q (F0 m 6 ls []) := by
    intro nf
    induction nf with
    | zero => exact fun i H locs ls hn => absurd hn (Nat.not_lt_zero _)
    | succ nf ih6 =>
      intro i H locs ls hn hi hv hP hD hS hl
      refine lv_iload_n S.1 S.2.1 dX2_worst_6 rfl (lv_at hl 0 rfl) ?_
      refine lv_aload_n S.1 S.2.1 dX2_worst_7 rfl (lv_at hl 1 rfl) ?_
      refine rdV S cv_RX2_29 (c_X2_states hV) hK hN hP (md_rv hK hP) ⟨Nat.le_of_ble_eq_true rfl, Nat.le_of_ble_eq_true rfl⟩ ⟨Nat.zero_le _, Nat.zero_le _⟩ rfl hl.1 rfl (Nat.le_of_ble_eq_true rfl) dX2_worst_8 ?_
      refine lv_icmp_ge (tgt := 40) S.1 S.2.1 dX2_worst_11 (by decide) (fun h11 => ?_) (fun h11 => ?_)
      · have h11 := ge_n (by omega) (by omega) h11
        refine lv_iconst (v := -1) S.1 S.2.1 dX2_worst_40 (by decide) ?_
        exact wr_ret hQ S hr hlk hP hS rfl (by rw [← hv, fo_d h11]; rfl) dX2_worst_41
      · have h11 := ge_f (by omega) (by omega) h11
        refine lv_aload_n S.1 S.2.1 dX2_worst_14 rfl (lv_at hl 1 rfl) ?_
        refine g2_depths S hK hP dX2_worst_15 ?_
        refine lv_iload_n S.1 S.2.1 dX2_worst_18 rfl (lv_at hl 0 rfl) ?_
        refine a2_dep (by omega) S hK hP dX2_worst_19 ?_
        refine lv_if_lt (tgt := 34) S.1 S.2.1 dX2_worst_20 (by decide) (fun h20 => ?_) (fun h20 => ?_)
        · refine lv_iinc (v := nI (i + 1)) (lv' := [(1, .int (nI (i + 1))), (0, .ref (b 0))]) S.1 S.2.1 dX2_worst_34 hl (k := 0) rfl (nI_1 _) (by decide) rfl (fun ls hl => ?_)
          refine lv_goto (tgt := 6) S.1 S.2.1 dX2_worst_37 (by decide) ?_
          exact ih6 (i + 1) _ _ ls (by omega) (by omega) (by rw [← hv, fo_s h11, if_neg (by rw [decide_eq_true h20]; simp)]) hP hD hS (lv_sub hl [0, 1] rfl)
        · refine lv_aload_n S.1 S.2.1 dX2_worst_23 rfl (lv_at hl 1 rfl) ?_
          refine lv_iconst (v := nI 2) S.1 S.2.1 dX2_worst_24 (by decide) ?_
          refine lv_iload_n S.1 S.2.1 dX2_worst_25 rfl (lv_at hl 0 rfl) ?_
          refine rdV S cv_RX2_40 (c_X2_isSo (k := 2) (x := nI i) (by decide) hV) hK hN hP (md_rv hK hP) ⟨Nat.le_of_ble_eq_true rfl, Nat.le_of_ble_eq_true rfl⟩ ⟨Nat.zero_le _, Nat.zero_le _⟩ rfl hl.1 rfl (Nat.le_of_ble_eq_true rfl) dX2_worst_26 ?_
          refine lv_if_eq (tgt := 34) S.1 S.2.1 dX2_worst_29 (by decide) (fun h29 => ?_) (fun h29 => ?_)
          · have h29 : (soM N cn P M 2 (nI i)) = false := bI_f h29
            refine lv_iinc (v := nI (i + 1)) (lv' := [(1, .int (nI (i + 1))), (0, .ref (b 0))]) S.1 S.2.1 dX2_worst_34 hl (k := 0) rfl (nI_1 _) (by decide) rfl (fun ls hl => ?_)
            refine lv_goto (tgt := 6) S.1 S.2.1 dX2_worst_37 (by decide) ?_
            exact ih6 (i + 1) _ _ ls (by omega) (by omega) (by rw [← hv, fo_s h11, if_neg (by rw [h29, Bool.and_false]; decide)]) hP hD hS (lv_sub hl [0, 1] rfl)
          · have h29 : (soM N cn P M 2 (nI i)) = true := bI_t h29
            refine lv_iload_n S.1 S.2.1 dX2_worst_32 rfl (lv_at hl 0 rfl) ?_
            exact wr_ret hQ S hr hlk hP hS rfl (by rw [← hv, fo_s h11, if_pos (by rw [decide_eq_false h20, h29]; rfl)]; rfl) dX2_worst_33
  exact loop6 _ 0 _ _ ls (Nat.lt_succ_self _) (Nat.zero_le _) rfl hP hD hS (lv_sub hl [0, 1] rfl)
set_option maxHeartbeats 4000000 in
set_option maxRecDepth 100000 in
theorem c_X2_escapes {l : Launch} {D : va_G} {cI cL : ClassId} {b : Nat → Nat} {N len : Nat} {cn : Nat → Nat} {P M pth dep : Nat → Int32} {i : Nat}  (hV : RInv N cn) : MetR l yX2_escapes cX2_escapes 4 (some .boolean) 2 [.ref (b 0), .int (nI i)] D cI cL (MDw cI b N len cn P M pth dep) (bI (esM N cn P M i)) := by
  refine MetR.mk (by decide) (Nat.le_of_ble_eq_true rfl) ?_
  intro p e s m args below meth c Q hQ S hr hlk hN hK hP ls hl
  have S : CallFix p m c cX2_escapes 4 s args wt RX2 := S
  have hl : lv_has ls 4 [(0, .ref (b 0)), (1, .int (nI i))] := hl
  have hz := hV.S
  refine lv_iconst (v := nI 0) S.1 S.2.1 dX2_escapes_0 (by decide) ?_
  refine lv_istore_n (lv' := [(2, .int (nI 0)), (0, .ref (b 0)), (1, .int (nI i))]) S.1 S.2.1 dX2_escapes_1 rfl hl (by decide) rfl (fun ls hl => ?_)
  refine lv_iconst (v := nI 0) S.1 S.2.1 dX2_escapes_2 (by decide) ?_
  refine lv_istore_n (lv' := [(3, .int (nI 0)), (2, .int (nI 0)), (0, .ref (b 0)), (1, .int (nI i))]) S.1 S.2.1 dX2_escapes_3 rfl hl (by decide) rfl (fun ls hl => ?_)
  have loop4 : ∀ (nf : Nat) (t : Nat) (o : Bool) (ls : Array Slot), 2 ^ N - t < nf → t ≤ 2 ^ N → (o || an (fun t => !soM N cn P M 3 (nI t) && goM N cn P M (nI i) (nI t)) (2 ^ N) t) = esM N cn P M i → lv_has ls 4 [(3, .int (nI t)), (2, .int (bI o)), (0, .ref (b 0)), (1, .int (nI i))] → W p l e (rmd 2) s m args below meth c s.heap [] 0 0 Q (F0 m 4 ls []) := by
    intro nf
    induction nf with
    | zero => exact fun t o ls hn => absurd hn (Nat.not_lt_zero _)
    | succ nf ih4 =>
      intro t o ls hn ht hv hl
      refine lv_iload_n S.1 S.2.1 dX2_escapes_4 rfl (lv_at hl 0 rfl) ?_
      refine lv_aload_n S.1 S.2.1 dX2_escapes_5 rfl (lv_at hl 2 rfl) ?_
      refine rdV S cv_RX2_29 (c_X2_states hV) hK hN hP (md_rv hK hP) ⟨Nat.le_of_ble_eq_true rfl, Nat.le_of_ble_eq_true rfl⟩ ⟨Nat.zero_le _, Nat.zero_le _⟩ rfl hl.1 rfl (Nat.le_of_ble_eq_true rfl) dX2_escapes_6 ?_
      refine lv_icmp_ge (tgt := 46) S.1 S.2.1 dX2_escapes_9 (by decide) (fun h9 => ?_) (fun h9 => ?_)
      · have h9 := ge_n (by omega) (by omega) h9
        refine lv_iload_n S.1 S.2.1 dX2_escapes_46 rfl (lv_at hl 1 rfl) ?_
        exact rd_retz hQ S hr hlk (by rw [← hv, an_d h9, Bool.or_false]) dX2_escapes_47
      · have h9 := ge_f (by omega) (by omega) h9
        refine lv_iload_n S.1 S.2.1 dX2_escapes_12 rfl (lv_at hl 1 rfl) ?_
        refine lv_if_ne (tgt := 46) S.1 S.2.1 dX2_escapes_13 (by decide) (fun h13 => ?_) (fun h13 => ?_)
        · have h13 : (o) = true := bI_t h13
          refine lv_iload_n S.1 S.2.1 dX2_escapes_46 rfl (lv_at hl 1 rfl) ?_
          exact rd_retz hQ S hr hlk (by rw [← hv, h13, Bool.true_or]) dX2_escapes_47
        · have h13 : (o) = false := bI_f h13
          refine lv_aload_n S.1 S.2.1 dX2_escapes_16 rfl (lv_at hl 2 rfl) ?_
          refine lv_iconst (v := nI 3) S.1 S.2.1 dX2_escapes_17 (by decide) ?_
          refine lv_iload_n S.1 S.2.1 dX2_escapes_18 rfl (lv_at hl 0 rfl) ?_
          refine rdV S cv_RX2_40 (c_X2_isSo (k := 3) (x := nI t) (by decide) hV) hK hN hP (md_rv hK hP) ⟨Nat.le_of_ble_eq_true rfl, Nat.le_of_ble_eq_true rfl⟩ ⟨Nat.zero_le _, Nat.zero_le _⟩ rfl hl.1 rfl (Nat.le_of_ble_eq_true rfl) dX2_escapes_19 ?_
          refine lv_if_ne (tgt := 38) S.1 S.2.1 dX2_escapes_22 (by decide) (fun h22 => ?_) (fun h22 => ?_)
          · have h22 : (soM N cn P M 3 (nI t)) = true := bI_t h22
            refine lv_iconst (v := nI 0) S.1 S.2.1 dX2_escapes_38 (by decide) ?_
            refine lv_istore_n (lv' := [(2, .int (nI 0)), (3, .int (nI t)), (0, .ref (b 0)), (1, .int (nI i))]) S.1 S.2.1 dX2_escapes_39 rfl hl (by decide) rfl (fun ls hl => ?_)
            refine lv_iinc (v := nI (t + 1)) (lv' := [(3, .int (nI (t + 1))), (2, .int (nI 0)), (0, .ref (b 0)), (1, .int (nI i))]) S.1 S.2.1 dX2_escapes_40 hl (k := 1) rfl (nI_1 _) (by decide) rfl (fun ls hl => ?_)
            refine lv_goto (tgt := 4) S.1 S.2.1 dX2_escapes_43 (by decide) ?_
            exact ih4 (t + 1) false ls (by omega) (by omega) (by rw [← hv, h13, an_s h9]; simp [h22]) (lv_sub hl [0, 1, 2, 3] rfl)
          · have h22 : (soM N cn P M 3 (nI t)) = false := bI_f h22
            refine lv_aload_n S.1 S.2.1 dX2_escapes_25 rfl (lv_at hl 2 rfl) ?_
            refine lv_iload_n S.1 S.2.1 dX2_escapes_26 rfl (lv_at hl 3 rfl) ?_
            refine lv_iload_n S.1 S.2.1 dX2_escapes_27 rfl (lv_at hl 0 rfl) ?_
            refine rdV S cv_RX2_47 (c_X2_leads (f := nI i) (t := nI t) hV) hK hN hP (md_rv hK hP) ⟨Nat.le_of_ble_eq_true rfl, Nat.le_of_ble_eq_true rfl⟩ ⟨Nat.zero_le _, Nat.zero_le _⟩ rfl hl.1 rfl (Nat.le_of_ble_eq_true rfl) dX2_escapes_28 ?_
            refine lv_if_eq (tgt := 38) S.1 S.2.1 dX2_escapes_31 (by decide) (fun h31 => ?_) (fun h31 => ?_)
            · have h31 : (goM N cn P M (nI i) (nI t)) = false := bI_f h31
              refine lv_iconst (v := nI 0) S.1 S.2.1 dX2_escapes_38 (by decide) ?_
              refine lv_istore_n (lv' := [(2, .int (nI 0)), (3, .int (nI t)), (0, .ref (b 0)), (1, .int (nI i))]) S.1 S.2.1 dX2_escapes_39 rfl hl (by decide) rfl (fun ls hl => ?_)
              refine lv_iinc (v := nI (t + 1)) (lv' := [(3, .int (nI (t + 1))), (2, .int (nI 0)), (0, .ref (b 0)), (1, .int (nI i))]) S.1 S.2.1 dX2_escapes_40 hl (k := 1) rfl (nI_1 _) (by decide) rfl (fun ls hl => ?_)
              refine lv_goto (tgt := 4) S.1 S.2.1 dX2_escapes_43 (by decide) ?_
              exact ih4 (t + 1) false ls (by omega) (by omega) (by rw [← hv, h13, an_s h9]; simp [h22, h31]) (lv_sub hl [0, 1, 2, 3] rfl)
            · have h31 : (goM N cn P M (nI i) (nI t)) = true := bI_t h31
              refine lv_iconst (v := nI 1) S.1 S.2.1 dX2_escapes_34 (by decide) ?_
              refine lv_goto (tgt := 39) S.1 S.2.1 dX2_escapes_35 (by decide) ?_
              refine lv_istore_n (lv' := [(2, .int (nI 1)), (3, .int (nI t)), (0, .ref (b 0)), (1, .int (nI i))]) S.1 S.2.1 dX2_escapes_39 rfl hl (by decide) rfl (fun ls hl => ?_)
              refine lv_iinc (v := nI (t + 1)) (lv' := [(3, .int (nI (t + 1))), (2, .int (nI 1)), (0, .ref (b 0)), (1, .int (nI i))]) S.1 S.2.1 dX2_escapes_40 hl (k := 1) rfl (nI_1 _) (by decide) rfl (fun ls hl => ?_)
              refine lv_goto (tgt := 4) S.1 S.2.1 dX2_escapes_43 (by decide) ?_
              exact ih4 (t + 1) true ls (by omega) (by omega) (by rw [← hv, h13, an_s h9]; simp [h22, h31]) (lv_sub hl [0, 1, 2, 3] rfl)
  exact loop4 _ 0 false ls (Nat.lt_succ_self _) (Nat.zero_le _) (Bool.false_or _) (lv_sub hl [0, 1, 2, 3] rfl)
set_option maxHeartbeats 4000000 in
set_option maxRecDepth 100000 in
theorem c_X2_least {l : Launch} {D : va_G} {cI cL : ClassId} {b : Nat → Nat} {N len : Nat} {cn : Nat → Nat} {P M pth dep : Nat → Int32} {r : Nat} (hr1 : r = 1 ∨ r = 2 ∨ r = 3)  (hV : RInv N cn) : MetR l yX2_least cX2_least 5 (some .int) 3 [.ref (b 0), .int (nI r)] D cI cL (MDw cI b N len cn P M pth dep) (oI (-1) (lmM N cn P M r)) := by
  refine MetR.mk (by decide) (Nat.le_of_ble_eq_true rfl) ?_
  intro p e s m args below meth c Q hQ S hr hlk hN hK hP ls hl
  have S : CallFix p m c cX2_least 5 s args wt RX2 := S
  have hl : lv_has ls 5 [(0, .ref (b 0)), (1, .int (nI r))] := hl
  have hz := hV.S
  rcases hr1 with rfl | rfl | rfl
  · refine lv_iconst (v := nI 0) S.1 S.2.1 dX2_least_0 (by decide) ?_
    refine lv_istore_n (lv' := [(2, .int (nI 0)), (0, .ref (b 0)), (1, .int (nI 1))]) S.1 S.2.1 dX2_least_1 rfl hl (by decide) rfl (fun ls hl => ?_)
    have loop2 : ∀ (nf : Nat) (i : Nat) (ls : Array Slot), 2 ^ N - i < nf → i ≤ 2 ^ N → fo (leM N cn P M 1) (2 ^ N) i = lmM N cn P M 1 → lv_has ls 5 [(2, .int (nI i)), (0, .ref (b 0)), (1, .int (nI 1))] → W p l e (rmd 3) s m args below meth c s.heap [] 0 0 Q (F0 m 2 ls []) := by
      intro nf
      induction nf with
      | zero => exact fun i ls hn => absurd hn (Nat.not_lt_zero _)
      | succ nf ih2 =>
        intro i ls hn hi hv hl
        refine lv_iload_n S.1 S.2.1 dX2_least_2 rfl (lv_at hl 0 rfl) ?_
        refine lv_aload_n S.1 S.2.1 dX2_least_3 rfl (lv_at hl 1 rfl) ?_
        refine rdV S cv_RX2_29 (c_X2_states hV) hK hN hP (md_rv hK hP) ⟨Nat.le_of_ble_eq_true rfl, Nat.le_of_ble_eq_true rfl⟩ ⟨Nat.zero_le _, Nat.zero_le _⟩ rfl hl.1 rfl (Nat.le_of_ble_eq_true rfl) dX2_least_4 ?_
        refine lv_icmp_ge (tgt := 101) S.1 S.2.1 dX2_least_7 (by decide) (fun h7 => ?_) (fun h7 => ?_)
        · have h7 := ge_n (by omega) (by omega) h7
          refine lv_iconst (v := -1) S.1 S.2.1 dX2_least_101 (by decide) ?_
          exact rd_ret hQ S hr hlk (by rw [← hv, fo_d h7]; rfl) dX2_least_102
        · have h7 := ge_f (by omega) (by omega) h7
          refine lv_aload_n S.1 S.2.1 dX2_least_10 rfl (lv_at hl 1 rfl) ?_
          refine lv_iconst (v := nI 3) S.1 S.2.1 dX2_least_11 (by decide) ?_
          refine lv_iload_n S.1 S.2.1 dX2_least_12 rfl (lv_at hl 0 rfl) ?_
          refine rdV S cv_RX2_40 (c_X2_isSo (k := 3) (x := nI i) (by decide) hV) hK hN hP (md_rv hK hP) ⟨Nat.le_of_ble_eq_true rfl, Nat.le_of_ble_eq_true rfl⟩ ⟨Nat.zero_le _, Nat.zero_le _⟩ rfl hl.1 rfl (Nat.le_of_ble_eq_true rfl) dX2_least_13 ?_
          refine lv_istore_n (lv' := [(3, .int (bI (soM N cn P M 3 (nI i)))), (2, .int (nI i)), (0, .ref (b 0)), (1, .int (nI 1))]) S.1 S.2.1 dX2_least_16 rfl hl (by decide) rfl (fun ls hl => ?_)
          refine lv_iload_n S.1 S.2.1 dX2_least_17 rfl (lv_at hl 3 rfl) ?_
          refine lv_iconst (v := nI 1) S.1 S.2.1 dX2_least_18 (by decide) ?_
          refine lv_icmp_ne (tgt := 43) S.1 S.2.1 dX2_least_19 (by decide) (fun hh => absurd (by decide) hh) (fun _ => ?_)
          refine lv_iload_n S.1 S.2.1 dX2_least_22 rfl (lv_at hl 0 rfl) ?_
          refine lv_if_ne (tgt := 39) S.1 S.2.1 dX2_least_23 (by decide) (fun h23 => ?_) (fun h23 => ?_)
          · have h23 : (soM N cn P M 3 (nI i)) = true := bI_t h23
            refine lv_iconst (v := nI 0) S.1 S.2.1 dX2_least_39 (by decide) ?_
            refine lv_goto (tgt := 86) S.1 S.2.1 dX2_least_40 (by decide) ?_
            refine lv_istore (lv' := [(4, .int (nI 0)), (3, .int (bI (soM N cn P M 3 (nI i)))), (2, .int (nI i)), (0, .ref (b 0)), (1, .int (nI 1))]) S.1 S.2.1 dX2_least_86 hl (by decide) rfl (fun ls hl => ?_)
            refine lv_iload S.1 S.2.1 dX2_least_88 (lv_at hl 0 rfl) ?_
            refine lv_if_eq (tgt := 95) S.1 S.2.1 dX2_least_90 (by decide) (fun _ => ?_) (fun hh => absurd (by decide) hh)
            refine lv_iinc (v := nI (i + 1)) (lv' := [(2, .int (nI (i + 1))), (4, .int (nI 0)), (3, .int (bI (soM N cn P M 3 (nI i)))), (0, .ref (b 0)), (1, .int (nI 1))]) S.1 S.2.1 dX2_least_95 hl (k := 2) rfl (nI_1 _) (by decide) rfl (fun ls hl => ?_)
            refine lv_goto (tgt := 2) S.1 S.2.1 dX2_least_98 (by decide) ?_
            exact ih2 (i + 1) ls (by omega) (by omega) (by rw [← hv, fo_s h7, if_neg (by simp [leM, h23])]) (lv_sub hl [0, 3, 4] rfl)
          · have h23 : (soM N cn P M 3 (nI i)) = false := bI_f h23
            refine lv_aload_n S.1 S.2.1 dX2_least_26 rfl (lv_at hl 2 rfl) ?_
            refine lv_iconst (v := nI 0) S.1 S.2.1 dX2_least_27 (by decide) ?_
            refine lv_iload_n S.1 S.2.1 dX2_least_28 rfl (lv_at hl 1 rfl) ?_
            refine rdV S cv_RX2_40 (c_X2_isSo (k := 0) (x := nI i) (by decide) hV) hK hN hP (md_rv hK hP) ⟨Nat.le_of_ble_eq_true rfl, Nat.le_of_ble_eq_true rfl⟩ ⟨Nat.zero_le _, Nat.zero_le _⟩ rfl hl.1 rfl (Nat.le_of_ble_eq_true rfl) dX2_least_29 ?_
            refine lv_if_eq (tgt := 39) S.1 S.2.1 dX2_least_32 (by decide) (fun h32 => ?_) (fun h32 => ?_)
            · have h32 : (soM N cn P M 0 (nI i)) = false := bI_f h32
              refine lv_iconst (v := nI 0) S.1 S.2.1 dX2_least_39 (by decide) ?_
              refine lv_goto (tgt := 86) S.1 S.2.1 dX2_least_40 (by decide) ?_
              refine lv_istore (lv' := [(4, .int (nI 0)), (3, .int (bI (soM N cn P M 3 (nI i)))), (2, .int (nI i)), (0, .ref (b 0)), (1, .int (nI 1))]) S.1 S.2.1 dX2_least_86 hl (by decide) rfl (fun ls hl => ?_)
              refine lv_iload S.1 S.2.1 dX2_least_88 (lv_at hl 0 rfl) ?_
              refine lv_if_eq (tgt := 95) S.1 S.2.1 dX2_least_90 (by decide) (fun _ => ?_) (fun hh => absurd (by decide) hh)
              refine lv_iinc (v := nI (i + 1)) (lv' := [(2, .int (nI (i + 1))), (4, .int (nI 0)), (3, .int (bI (soM N cn P M 3 (nI i)))), (0, .ref (b 0)), (1, .int (nI 1))]) S.1 S.2.1 dX2_least_95 hl (k := 2) rfl (nI_1 _) (by decide) rfl (fun ls hl => ?_)
              refine lv_goto (tgt := 2) S.1 S.2.1 dX2_least_98 (by decide) ?_
              exact ih2 (i + 1) ls (by omega) (by omega) (by rw [← hv, fo_s h7, if_neg (by simp [leM, h23, h32])]) (lv_sub hl [0, 3, 4] rfl)
            · have h32 : (soM N cn P M 0 (nI i)) = true := bI_t h32
              refine lv_iconst (v := nI 1) S.1 S.2.1 dX2_least_35 (by decide) ?_
              refine lv_goto (tgt := 86) S.1 S.2.1 dX2_least_36 (by decide) ?_
              refine lv_istore (lv' := [(4, .int (nI 1)), (3, .int (bI (soM N cn P M 3 (nI i)))), (2, .int (nI i)), (0, .ref (b 0)), (1, .int (nI 1))]) S.1 S.2.1 dX2_least_86 hl (by decide) rfl (fun ls hl => ?_)
              refine lv_iload S.1 S.2.1 dX2_least_88 (lv_at hl 0 rfl) ?_
              refine lv_if_eq (tgt := 95) S.1 S.2.1 dX2_least_90 (by decide) (fun hh => absurd hh (by decide)) (fun _ => ?_)
              refine lv_iload_n S.1 S.2.1 dX2_least_93 rfl (lv_at hl 2 rfl) ?_
              exact rd_ret hQ S hr hlk (by rw [← hv, fo_s h7, if_pos (by simp [leM, h23, h32])]; rfl) dX2_least_94
    exact loop2 _ 0 ls (Nat.lt_succ_self _) (Nat.zero_le _) rfl (lv_sub hl [0, 1, 2] rfl)
  · refine lv_iconst (v := nI 0) S.1 S.2.1 dX2_least_0 (by decide) ?_
    refine lv_istore_n (lv' := [(2, .int (nI 0)), (0, .ref (b 0)), (1, .int (nI 2))]) S.1 S.2.1 dX2_least_1 rfl hl (by decide) rfl (fun ls hl => ?_)
    have loop2 : ∀ (nf : Nat) (i : Nat) (ls : Array Slot), 2 ^ N - i < nf → i ≤ 2 ^ N → fo (leM N cn P M 2) (2 ^ N) i = lmM N cn P M 2 → lv_has ls 5 [(2, .int (nI i)), (0, .ref (b 0)), (1, .int (nI 2))] → W p l e (rmd 3) s m args below meth c s.heap [] 0 0 Q (F0 m 2 ls []) := by
      intro nf
      induction nf with
      | zero => exact fun i ls hn => absurd hn (Nat.not_lt_zero _)
      | succ nf ih2 =>
        intro i ls hn hi hv hl
        refine lv_iload_n S.1 S.2.1 dX2_least_2 rfl (lv_at hl 0 rfl) ?_
        refine lv_aload_n S.1 S.2.1 dX2_least_3 rfl (lv_at hl 1 rfl) ?_
        refine rdV S cv_RX2_29 (c_X2_states hV) hK hN hP (md_rv hK hP) ⟨Nat.le_of_ble_eq_true rfl, Nat.le_of_ble_eq_true rfl⟩ ⟨Nat.zero_le _, Nat.zero_le _⟩ rfl hl.1 rfl (Nat.le_of_ble_eq_true rfl) dX2_least_4 ?_
        refine lv_icmp_ge (tgt := 101) S.1 S.2.1 dX2_least_7 (by decide) (fun h7 => ?_) (fun h7 => ?_)
        · have h7 := ge_n (by omega) (by omega) h7
          refine lv_iconst (v := -1) S.1 S.2.1 dX2_least_101 (by decide) ?_
          exact rd_ret hQ S hr hlk (by rw [← hv, fo_d h7]; rfl) dX2_least_102
        · have h7 := ge_f (by omega) (by omega) h7
          refine lv_aload_n S.1 S.2.1 dX2_least_10 rfl (lv_at hl 1 rfl) ?_
          refine lv_iconst (v := nI 3) S.1 S.2.1 dX2_least_11 (by decide) ?_
          refine lv_iload_n S.1 S.2.1 dX2_least_12 rfl (lv_at hl 0 rfl) ?_
          refine rdV S cv_RX2_40 (c_X2_isSo (k := 3) (x := nI i) (by decide) hV) hK hN hP (md_rv hK hP) ⟨Nat.le_of_ble_eq_true rfl, Nat.le_of_ble_eq_true rfl⟩ ⟨Nat.zero_le _, Nat.zero_le _⟩ rfl hl.1 rfl (Nat.le_of_ble_eq_true rfl) dX2_least_13 ?_
          refine lv_istore_n (lv' := [(3, .int (bI (soM N cn P M 3 (nI i)))), (2, .int (nI i)), (0, .ref (b 0)), (1, .int (nI 2))]) S.1 S.2.1 dX2_least_16 rfl hl (by decide) rfl (fun ls hl => ?_)
          refine lv_iload_n S.1 S.2.1 dX2_least_17 rfl (lv_at hl 3 rfl) ?_
          refine lv_iconst (v := nI 1) S.1 S.2.1 dX2_least_18 (by decide) ?_
          refine lv_icmp_ne (tgt := 43) S.1 S.2.1 dX2_least_19 (by decide) (fun _ => ?_) (fun hh => absurd hh (by decide))
          refine lv_iload_n S.1 S.2.1 dX2_least_43 rfl (lv_at hl 3 rfl) ?_
          refine lv_iconst (v := nI 2) S.1 S.2.1 dX2_least_44 (by decide) ?_
          refine lv_icmp_ne (tgt := 68) S.1 S.2.1 dX2_least_45 (by decide) (fun hh => absurd (by decide) hh) (fun _ => ?_)
          refine lv_iload_n S.1 S.2.1 dX2_least_48 rfl (lv_at hl 0 rfl) ?_
          refine lv_if_eq (tgt := 64) S.1 S.2.1 dX2_least_49 (by decide) (fun h49 => ?_) (fun h49 => ?_)
          · have h49 : (soM N cn P M 3 (nI i)) = false := bI_f h49
            refine lv_iconst (v := nI 0) S.1 S.2.1 dX2_least_64 (by decide) ?_
            refine lv_goto (tgt := 86) S.1 S.2.1 dX2_least_65 (by decide) ?_
            refine lv_istore (lv' := [(4, .int (nI 0)), (3, .int (bI (soM N cn P M 3 (nI i)))), (2, .int (nI i)), (0, .ref (b 0)), (1, .int (nI 2))]) S.1 S.2.1 dX2_least_86 hl (by decide) rfl (fun ls hl => ?_)
            refine lv_iload S.1 S.2.1 dX2_least_88 (lv_at hl 0 rfl) ?_
            refine lv_if_eq (tgt := 95) S.1 S.2.1 dX2_least_90 (by decide) (fun _ => ?_) (fun hh => absurd (by decide) hh)
            refine lv_iinc (v := nI (i + 1)) (lv' := [(2, .int (nI (i + 1))), (4, .int (nI 0)), (3, .int (bI (soM N cn P M 3 (nI i)))), (0, .ref (b 0)), (1, .int (nI 2))]) S.1 S.2.1 dX2_least_95 hl (k := 2) rfl (nI_1 _) (by decide) rfl (fun ls hl => ?_)
            refine lv_goto (tgt := 2) S.1 S.2.1 dX2_least_98 (by decide) ?_
            exact ih2 (i + 1) ls (by omega) (by omega) (by rw [← hv, fo_s h7, if_neg (by simp [leM, h49])]) (lv_sub hl [0, 3, 4] rfl)
          · have h49 : (soM N cn P M 3 (nI i)) = true := bI_t h49
            refine lv_aload_n S.1 S.2.1 dX2_least_52 rfl (lv_at hl 2 rfl) ?_
            refine lv_iload_n S.1 S.2.1 dX2_least_53 rfl (lv_at hl 1 rfl) ?_
            refine rdV S cv_RX2_56 (c_X2_escapes (i := i) hV) hK hN hP (md_rv hK hP) ⟨Nat.le_of_ble_eq_true rfl, Nat.le_of_ble_eq_true rfl⟩ ⟨Nat.zero_le _, Nat.zero_le _⟩ rfl hl.1 rfl (Nat.le_of_ble_eq_true rfl) dX2_least_54 ?_
            refine lv_if_eq (tgt := 64) S.1 S.2.1 dX2_least_57 (by decide) (fun h57 => ?_) (fun h57 => ?_)
            · have h57 : (esM N cn P M i) = false := bI_f h57
              refine lv_iconst (v := nI 0) S.1 S.2.1 dX2_least_64 (by decide) ?_
              refine lv_goto (tgt := 86) S.1 S.2.1 dX2_least_65 (by decide) ?_
              refine lv_istore (lv' := [(4, .int (nI 0)), (3, .int (bI (soM N cn P M 3 (nI i)))), (2, .int (nI i)), (0, .ref (b 0)), (1, .int (nI 2))]) S.1 S.2.1 dX2_least_86 hl (by decide) rfl (fun ls hl => ?_)
              refine lv_iload S.1 S.2.1 dX2_least_88 (lv_at hl 0 rfl) ?_
              refine lv_if_eq (tgt := 95) S.1 S.2.1 dX2_least_90 (by decide) (fun _ => ?_) (fun hh => absurd (by decide) hh)
              refine lv_iinc (v := nI (i + 1)) (lv' := [(2, .int (nI (i + 1))), (4, .int (nI 0)), (3, .int (bI (soM N cn P M 3 (nI i)))), (0, .ref (b 0)), (1, .int (nI 2))]) S.1 S.2.1 dX2_least_95 hl (k := 2) rfl (nI_1 _) (by decide) rfl (fun ls hl => ?_)
              refine lv_goto (tgt := 2) S.1 S.2.1 dX2_least_98 (by decide) ?_
              exact ih2 (i + 1) ls (by omega) (by omega) (by rw [← hv, fo_s h7, if_neg (by simp [leM, h49, h57])]) (lv_sub hl [0, 3, 4] rfl)
            · have h57 : (esM N cn P M i) = true := bI_t h57
              refine lv_iconst (v := nI 1) S.1 S.2.1 dX2_least_60 (by decide) ?_
              refine lv_goto (tgt := 86) S.1 S.2.1 dX2_least_61 (by decide) ?_
              refine lv_istore (lv' := [(4, .int (nI 1)), (3, .int (bI (soM N cn P M 3 (nI i)))), (2, .int (nI i)), (0, .ref (b 0)), (1, .int (nI 2))]) S.1 S.2.1 dX2_least_86 hl (by decide) rfl (fun ls hl => ?_)
              refine lv_iload S.1 S.2.1 dX2_least_88 (lv_at hl 0 rfl) ?_
              refine lv_if_eq (tgt := 95) S.1 S.2.1 dX2_least_90 (by decide) (fun hh => absurd hh (by decide)) (fun _ => ?_)
              refine lv_iload_n S.1 S.2.1 dX2_least_93 rfl (lv_at hl 2 rfl) ?_
              exact rd_ret hQ S hr hlk (by rw [← hv, fo_s h7, if_pos (by simp [leM, h49, h57])]; rfl) dX2_least_94
    exact loop2 _ 0 ls (Nat.lt_succ_self _) (Nat.zero_le _) rfl (lv_sub hl [0, 1, 2] rfl)
  · refine lv_iconst (v := nI 0) S.1 S.2.1 dX2_least_0 (by decide) ?_
    refine lv_istore_n (lv' := [(2, .int (nI 0)), (0, .ref (b 0)), (1, .int (nI 3))]) S.1 S.2.1 dX2_least_1 rfl hl (by decide) rfl (fun ls hl => ?_)
    have loop2 : ∀ (nf : Nat) (i : Nat) (ls : Array Slot), 2 ^ N - i < nf → i ≤ 2 ^ N → fo (leM N cn P M 3) (2 ^ N) i = lmM N cn P M 3 → lv_has ls 5 [(2, .int (nI i)), (0, .ref (b 0)), (1, .int (nI 3))] → W p l e (rmd 3) s m args below meth c s.heap [] 0 0 Q (F0 m 2 ls []) := by
      intro nf
      induction nf with
      | zero => exact fun i ls hn => absurd hn (Nat.not_lt_zero _)
      | succ nf ih2 =>
        intro i ls hn hi hv hl
        refine lv_iload_n S.1 S.2.1 dX2_least_2 rfl (lv_at hl 0 rfl) ?_
        refine lv_aload_n S.1 S.2.1 dX2_least_3 rfl (lv_at hl 1 rfl) ?_
        refine rdV S cv_RX2_29 (c_X2_states hV) hK hN hP (md_rv hK hP) ⟨Nat.le_of_ble_eq_true rfl, Nat.le_of_ble_eq_true rfl⟩ ⟨Nat.zero_le _, Nat.zero_le _⟩ rfl hl.1 rfl (Nat.le_of_ble_eq_true rfl) dX2_least_4 ?_
        refine lv_icmp_ge (tgt := 101) S.1 S.2.1 dX2_least_7 (by decide) (fun h7 => ?_) (fun h7 => ?_)
        · have h7 := ge_n (by omega) (by omega) h7
          refine lv_iconst (v := -1) S.1 S.2.1 dX2_least_101 (by decide) ?_
          exact rd_ret hQ S hr hlk (by rw [← hv, fo_d h7]; rfl) dX2_least_102
        · have h7 := ge_f (by omega) (by omega) h7
          refine lv_aload_n S.1 S.2.1 dX2_least_10 rfl (lv_at hl 1 rfl) ?_
          refine lv_iconst (v := nI 3) S.1 S.2.1 dX2_least_11 (by decide) ?_
          refine lv_iload_n S.1 S.2.1 dX2_least_12 rfl (lv_at hl 0 rfl) ?_
          refine rdV S cv_RX2_40 (c_X2_isSo (k := 3) (x := nI i) (by decide) hV) hK hN hP (md_rv hK hP) ⟨Nat.le_of_ble_eq_true rfl, Nat.le_of_ble_eq_true rfl⟩ ⟨Nat.zero_le _, Nat.zero_le _⟩ rfl hl.1 rfl (Nat.le_of_ble_eq_true rfl) dX2_least_13 ?_
          refine lv_istore_n (lv' := [(3, .int (bI (soM N cn P M 3 (nI i)))), (2, .int (nI i)), (0, .ref (b 0)), (1, .int (nI 3))]) S.1 S.2.1 dX2_least_16 rfl hl (by decide) rfl (fun ls hl => ?_)
          refine lv_iload_n S.1 S.2.1 dX2_least_17 rfl (lv_at hl 3 rfl) ?_
          refine lv_iconst (v := nI 1) S.1 S.2.1 dX2_least_18 (by decide) ?_
          refine lv_icmp_ne (tgt := 43) S.1 S.2.1 dX2_least_19 (by decide) (fun _ => ?_) (fun hh => absurd hh (by decide))
          refine lv_iload_n S.1 S.2.1 dX2_least_43 rfl (lv_at hl 3 rfl) ?_
          refine lv_iconst (v := nI 2) S.1 S.2.1 dX2_least_44 (by decide) ?_
          refine lv_icmp_ne (tgt := 68) S.1 S.2.1 dX2_least_45 (by decide) (fun _ => ?_) (fun hh => absurd hh (by decide))
          refine lv_iload_n S.1 S.2.1 dX2_least_68 rfl (lv_at hl 0 rfl) ?_
          refine lv_if_eq (tgt := 85) S.1 S.2.1 dX2_least_69 (by decide) (fun h69 => ?_) (fun h69 => ?_)
          · have h69 : (soM N cn P M 3 (nI i)) = false := bI_f h69
            refine lv_iconst (v := nI 0) S.1 S.2.1 dX2_least_85 (by decide) ?_
            refine lv_istore (lv' := [(4, .int (nI 0)), (3, .int (bI (soM N cn P M 3 (nI i)))), (2, .int (nI i)), (0, .ref (b 0)), (1, .int (nI 3))]) S.1 S.2.1 dX2_least_86 hl (by decide) rfl (fun ls hl => ?_)
            refine lv_iload S.1 S.2.1 dX2_least_88 (lv_at hl 0 rfl) ?_
            refine lv_if_eq (tgt := 95) S.1 S.2.1 dX2_least_90 (by decide) (fun _ => ?_) (fun hh => absurd (by decide) hh)
            refine lv_iinc (v := nI (i + 1)) (lv' := [(2, .int (nI (i + 1))), (4, .int (nI 0)), (3, .int (bI (soM N cn P M 3 (nI i)))), (0, .ref (b 0)), (1, .int (nI 3))]) S.1 S.2.1 dX2_least_95 hl (k := 2) rfl (nI_1 _) (by decide) rfl (fun ls hl => ?_)
            refine lv_goto (tgt := 2) S.1 S.2.1 dX2_least_98 (by decide) ?_
            exact ih2 (i + 1) ls (by omega) (by omega) (by rw [← hv, fo_s h7, if_neg (by simp [leM, h69])]) (lv_sub hl [0, 3, 4] rfl)
          · have h69 : (soM N cn P M 3 (nI i)) = true := bI_t h69
            refine lv_aload_n S.1 S.2.1 dX2_least_72 rfl (lv_at hl 2 rfl) ?_
            refine lv_iconst (v := nI 2) S.1 S.2.1 dX2_least_73 (by decide) ?_
            refine lv_iload_n S.1 S.2.1 dX2_least_74 rfl (lv_at hl 1 rfl) ?_
            refine rdV S cv_RX2_40 (c_X2_isSo (k := 2) (x := nI i) (by decide) hV) hK hN hP (md_rv hK hP) ⟨Nat.le_of_ble_eq_true rfl, Nat.le_of_ble_eq_true rfl⟩ ⟨Nat.zero_le _, Nat.zero_le _⟩ rfl hl.1 rfl (Nat.le_of_ble_eq_true rfl) dX2_least_75 ?_
            refine lv_if_eq (tgt := 85) S.1 S.2.1 dX2_least_78 (by decide) (fun h78 => ?_) (fun h78 => ?_)
            · have h78 : (soM N cn P M 2 (nI i)) = false := bI_f h78
              refine lv_iconst (v := nI 0) S.1 S.2.1 dX2_least_85 (by decide) ?_
              refine lv_istore (lv' := [(4, .int (nI 0)), (3, .int (bI (soM N cn P M 3 (nI i)))), (2, .int (nI i)), (0, .ref (b 0)), (1, .int (nI 3))]) S.1 S.2.1 dX2_least_86 hl (by decide) rfl (fun ls hl => ?_)
              refine lv_iload S.1 S.2.1 dX2_least_88 (lv_at hl 0 rfl) ?_
              refine lv_if_eq (tgt := 95) S.1 S.2.1 dX2_least_90 (by decide) (fun _ => ?_) (fun hh => absurd (by decide) hh)
              refine lv_iinc (v := nI (i + 1)) (lv' := [(2, .int (nI (i + 1))), (4, .int (nI 0)), (3, .int (bI (soM N cn P M 3 (nI i)))), (0, .ref (b 0)), (1, .int (nI 3))]) S.1 S.2.1 dX2_least_95 hl (k := 2) rfl (nI_1 _) (by decide) rfl (fun ls hl => ?_)
              refine lv_goto (tgt := 2) S.1 S.2.1 dX2_least_98 (by decide) ?_
              exact ih2 (i + 1) ls (by omega) (by omega) (by rw [← hv, fo_s h7, if_neg (by simp [leM, h69, h78])]) (lv_sub hl [0, 3, 4] rfl)
            · have h78 : (soM N cn P M 2 (nI i)) = true := bI_t h78
              refine lv_iconst (v := nI 1) S.1 S.2.1 dX2_least_81 (by decide) ?_
              refine lv_goto (tgt := 86) S.1 S.2.1 dX2_least_82 (by decide) ?_
              refine lv_istore (lv' := [(4, .int (nI 1)), (3, .int (bI (soM N cn P M 3 (nI i)))), (2, .int (nI i)), (0, .ref (b 0)), (1, .int (nI 3))]) S.1 S.2.1 dX2_least_86 hl (by decide) rfl (fun ls hl => ?_)
              refine lv_iload S.1 S.2.1 dX2_least_88 (lv_at hl 0 rfl) ?_
              refine lv_if_eq (tgt := 95) S.1 S.2.1 dX2_least_90 (by decide) (fun hh => absurd hh (by decide)) (fun _ => ?_)
              refine lv_iload_n S.1 S.2.1 dX2_least_93 rfl (lv_at hl 2 rfl) ?_
              exact rd_ret hQ S hr hlk (by rw [← hv, fo_s h7, if_pos (by simp [leM, h69, h78])]; rfl) dX2_least_94
    exact loop2 _ 0 ls (Nat.lt_succ_self _) (Nat.zero_le _) rfl (lv_sub hl [0, 1, 2] rfl)
set_option maxHeartbeats 4000000 in
set_option maxRecDepth 100000 in
theorem c_X2_check {l : Launch} {D : va_G} {cI cL : ClassId} {b : Nat → Nat} {N len : Nat} {cn : Nat → Nat} {P M pth dep : Nat → Int32}  (hV : RInv N cn) : MetR l yX2_check cX2_check 2 (some .int) 4 [.ref (b 0)] D cI cL (MDw cI b N len cn P M pth dep) (oI 0 (chM N cn P M)) := by
  refine MetR.mk (by decide) (Nat.le_of_ble_eq_true rfl) ?_
  intro p e s m args below meth c Q hQ S hr hlk hN hK hP ls hl
  have S : CallFix p m c cX2_check 2 s args wt RX2 := S
  have hl : lv_has ls 2 [(0, .ref (b 0))] := hl
  refine lv_iconst (v := nI 1) S.1 S.2.1 dX2_check_0 (by decide) ?_
  refine lv_istore_n (lv' := [(1, .int (nI 1)), (0, .ref (b 0))]) S.1 S.2.1 dX2_check_1 rfl hl (by decide) rfl (fun ls hl => ?_)
  have loop2 : ∀ (nf : Nat) (r : Nat) (ls : Array Slot), 4 - r < nf → 1 ≤ r → r ≤ 4 → fo (fun r => !decide (oI (-1) (lmM N cn P M r) < 0)) 4 r = chM N cn P M → lv_has ls 2 [(1, .int (nI r)), (0, .ref (b 0))] → W p l e (rmd 4) s m args below meth c s.heap [] 0 0 Q (F0 m 2 ls []) := by
    intro nf
    induction nf with
    | zero => exact fun r ls hn => absurd hn (Nat.not_lt_zero _)
    | succ nf ih2 =>
      intro r ls hn h1 h2 hv hl
      refine lv_iload_n S.1 S.2.1 dX2_check_2 rfl (lv_at hl 0 rfl) ?_
      refine lv_iconst (v := nI 3) S.1 S.2.1 dX2_check_3 (by decide) ?_
      refine lv_icmp_gt (tgt := 23) S.1 S.2.1 dX2_check_4 (by decide) (fun h4 => ?_) (fun h4 => ?_)
      · have h4 := lt_n (by omega) (by omega) h4
        refine lv_iconst (v := nI 0) S.1 S.2.1 dX2_check_23 (by decide) ?_
        exact rd_ret hQ S hr hlk (by rw [← hv, fo_d (by omega)]; rfl) dX2_check_24
      · have h4 := lt_f (by omega) (by omega) h4
        refine lv_aload_n S.1 S.2.1 dX2_check_7 rfl (lv_at hl 1 rfl) ?_
        refine lv_iload_n S.1 S.2.1 dX2_check_8 rfl (lv_at hl 0 rfl) ?_
        refine rdV S cv_RX2_59 (c_X2_least (r := r) (by omega) hV) hK hN hP (md_rv hK hP) ⟨Nat.le_of_ble_eq_true rfl, Nat.le_of_ble_eq_true rfl⟩ ⟨Nat.zero_le _, Nat.zero_le _⟩ rfl hl.1 rfl (Nat.le_of_ble_eq_true rfl) dX2_check_9 ?_
        refine lv_if_lt (tgt := 17) S.1 S.2.1 dX2_check_12 (by decide) (fun h12 => ?_) (fun h12 => ?_)
        · refine lv_iinc (v := nI (r + 1)) (lv' := [(1, .int (nI (r + 1))), (0, .ref (b 0))]) S.1 S.2.1 dX2_check_17 hl (k := 0) rfl (nI_1 _) (by decide) rfl (fun ls hl => ?_)
          refine lv_goto (tgt := 2) S.1 S.2.1 dX2_check_20 (by decide) ?_
          exact ih2 (r + 1) ls (by omega) (by omega) (by omega) (by rw [← hv, fo_s (i := r) (by omega), if_neg (by rw [decide_eq_true h12]; decide)]) (lv_sub hl [0, 1] rfl)
        · refine lv_iload_n S.1 S.2.1 dX2_check_15 rfl (lv_at hl 0 rfl) ?_
          exact rd_ret hQ S hr hlk (by rw [← hv, fo_s (by omega), if_pos (by rw [decide_eq_false h12]; rfl)]; rfl) dX2_check_16
  exact loop2 _ 1 ls (Nat.lt_succ_self _) (by decide) (by decide) rfl (lv_sub hl [0, 1] rfl)
set_option maxHeartbeats 4000000 in
set_option maxRecDepth 100000 in
theorem c_X2_flaw {l : Launch} {D : va_G} {cI cL : ClassId} {b : Nat → Nat} {N len : Nat} {cn : Nat → Nat} {P M pth dep : Nat → Int32}  (hV : RInv N cn) : MetR l yX2_flaw cX2_flaw 2 (some .int) 5 [.ref (b 0)] D cI cL (MDw cI b N len cn P M pth dep) (flM N cn P M) := by
  refine MetR.mk (by decide) (Nat.le_of_ble_eq_true rfl) ?_
  intro p e s m args below meth c Q hQ S hr hlk hN hK hP ls hl
  have S : CallFix p m c cX2_flaw 2 s args wt RX2 := S
  have hl : lv_has ls 2 [(0, .ref (b 0))] := hl
  refine lv_aload_n S.1 S.2.1 dX2_flaw_0 rfl (lv_at hl 0 rfl) ?_
  refine rdV S cv_RX2_63 (c_X2_check hV) hK hN hP (md_rv hK hP) ⟨Nat.le_of_ble_eq_true rfl, Nat.le_of_ble_eq_true rfl⟩ ⟨Nat.zero_le _, Nat.zero_le _⟩ rfl hl.1 rfl (Nat.le_of_ble_eq_true rfl) dX2_flaw_1 ?_
  refine lv_istore_n (lv' := [(1, .int (oI 0 (chM N cn P M))), (0, .ref (b 0))]) S.1 S.2.1 dX2_flaw_4 rfl hl (by decide) rfl (fun ls hl => ?_)
  have hc : ∀ r, chM N cn P M = some r → r = 1 ∨ r = 2 ∨ r = 3 := fun r h => by have := fo_in h; omega
  rcases hch : chM N cn P M with _ | r
  · rw [hch] at hl
    have hl : lv_has ls 2 [(1, .int (nI 0)), (0, .ref (b 0))] := hl
    refine lv_iload_n S.1 S.2.1 dX2_flaw_5 rfl (lv_at hl 0 rfl) ?_
    refine lv_if_ne (tgt := 13) S.1 S.2.1 dX2_flaw_6 (by decide) (fun hh => absurd (by decide) hh) (fun _ => ?_)
    refine lv_iconst (v := -1) S.1 S.2.1 dX2_flaw_9 (by decide) ?_
    refine lv_goto (tgt := 18) S.1 S.2.1 dX2_flaw_10 (by decide) ?_
    exact rd_ret hQ S hr hlk (by simp [flM, hch]) dX2_flaw_18
  · rw [hch] at hl
    have hl : lv_has ls 2 [(1, .int (nI r)), (0, .ref (b 0))] := hl
    have hr3 := hc r hch
    refine lv_iload_n S.1 S.2.1 dX2_flaw_5 rfl (lv_at hl 0 rfl) ?_
    refine lv_if_ne (tgt := 13) S.1 S.2.1 dX2_flaw_6 (by decide) (fun _ => ?_) (fun hh => absurd hh (fun q => by rcases hr3 with rfl | rfl | rfl <;> exact absurd q (by decide)))
    refine lv_aload_n S.1 S.2.1 dX2_flaw_13 rfl (lv_at hl 1 rfl) ?_
    refine lv_iload_n S.1 S.2.1 dX2_flaw_14 rfl (lv_at hl 0 rfl) ?_
    refine rdV S cv_RX2_59 (c_X2_least (r := r) hr3 hV) hK hN hP (md_rv hK hP) ⟨Nat.le_of_ble_eq_true rfl, Nat.le_of_ble_eq_true rfl⟩ ⟨Nat.zero_le _, Nat.zero_le _⟩ rfl hl.1 rfl (Nat.le_of_ble_eq_true rfl) dX2_flaw_15 ?_
    exact rd_ret hQ S hr hlk (by simp [flM, hch]) dX2_flaw_18
set_option maxHeartbeats 4000000 in
set_option maxRecDepth 100000 in
theorem c_X2_arrives {l : Launch} {D : va_G} {cI cL : ClassId} {b : Nat → Nat} {N len : Nat} {cn : Nat → Nat} {P M pth dep : Nat → Int32} (hp : len ≤ 64)  (hV : RInv N cn) : MetR l yX2_arrives cX2_arrives 1 (some .boolean) 2 [.ref (b 0)] D cI cL (MDw cI b N len cn P M pth dep) (bI (!decide (nI len ≤ 0) && soM N cn P M 2 (pth (len - 1)))) := by
  refine MetR.mk (by decide) (Nat.le_of_ble_eq_true rfl) ?_
  intro p e s m args below meth c Q hQ S hr hlk hN hK hP ls hl
  have S : CallFix p m c cX2_arrives 1 s args wt RX2 := S
  have hl : lv_has ls 1 [(0, .ref (b 0))] := hl
  refine lv_aload_n S.1 S.2.1 dX2_arrives_0 rfl (lv_at hl 0 rfl) ?_
  refine g2_length S hK hP dX2_arrives_1 ?_
  refine lv_if_le (tgt := 30) S.1 S.2.1 dX2_arrives_4 (by decide) (fun h4 => ?_) (fun h4 => ?_)
  · refine lv_iconst (v := nI 0) S.1 S.2.1 dX2_arrives_30 (by decide) ?_
    exact rd_retz hQ S hr hlk (r0 (by simp [h4])) dX2_arrives_31
  · refine lv_aload_n S.1 S.2.1 dX2_arrives_7 rfl (lv_at hl 0 rfl) ?_
    refine lv_iconst (v := nI 2) S.1 S.2.1 dX2_arrives_8 (by decide) ?_
    refine lv_aload_n S.1 S.2.1 dX2_arrives_9 rfl (lv_at hl 0 rfl) ?_
    refine g2_path S hK hP dX2_arrives_10 ?_
    refine lv_aload_n S.1 S.2.1 dX2_arrives_13 rfl (lv_at hl 0 rfl) ?_
    refine g2_length S hK hP dX2_arrives_14 ?_
    refine lv_iconst (v := nI 1) S.1 S.2.1 dX2_arrives_17 (by decide) ?_
    refine lv_isub S.1 S.2.1 dX2_arrives_18 ?_
    refine tp (y := nI (len - 1)) (pk_sub (len_pos (by omega) h4)) ?_
    refine a2_path (by have := len_pos (by omega) h4; omega) S hK hP dX2_arrives_19 ?_
    refine rdV S cv_RX2_40 (c_X2_isSo (k := 2) (x := pth ((len - 1))) (by decide) hV) hK hN hP (md_rv hK hP) ⟨Nat.le_of_ble_eq_true rfl, Nat.le_of_ble_eq_true rfl⟩ ⟨Nat.zero_le _, Nat.zero_le _⟩ rfl hl.1 rfl (Nat.le_of_ble_eq_true rfl) dX2_arrives_20 ?_
    refine lv_if_eq (tgt := 30) S.1 S.2.1 dX2_arrives_23 (by decide) (fun h23 => ?_) (fun h23 => ?_)
    · have h23 : (soM N cn P M 2 (pth ((len - 1)))) = false := bI_f h23
      refine lv_iconst (v := nI 0) S.1 S.2.1 dX2_arrives_30 (by decide) ?_
      exact rd_retz hQ S hr hlk (r0 (by simp [h4, h23])) dX2_arrives_31
    · have h23 : (soM N cn P M 2 (pth ((len - 1)))) = true := bI_t h23
      refine lv_iconst (v := nI 1) S.1 S.2.1 dX2_arrives_26 (by decide) ?_
      refine lv_goto (tgt := 31) S.1 S.2.1 dX2_arrives_27 (by decide) ?_
      exact rd_retz hQ S hr hlk (r1 (by simp [h4, h23])) dX2_arrives_31
set_option maxHeartbeats 4000000 in
set_option maxRecDepth 100000 in
theorem c_X2_begin_f {l : Launch} {D : va_G} {cI cL : ClassId} {b : Nat → Nat} {N len : Nat} {cn : Nat → Nat} {P M pth dep : Nat → Int32} {x : Int32} (hb : bgB x = false)   : MetR l yX2_begin cX2_begin 3 (some .boolean) 1 [.ref (b 0), .int x] D cI cL (MDw cI b N len cn P M pth dep) (bI false) := by
  refine MetR.mk (by decide) (Nat.le_of_ble_eq_true rfl) ?_
  intro p e s m args below meth c Q hQ S hr hlk hN hK hP ls hl
  have S : CallFix p m c cX2_begin 3 s args wt RX2 := S
  have hl : lv_has ls 3 [(0, .ref (b 0)), (1, .int x)] := hl
  refine lv_iload_n S.1 S.2.1 dX2_begin_0 rfl (lv_at hl 1 rfl) ?_
  refine lv_iconst (v := nI 1) S.1 S.2.1 dX2_begin_1 (by decide) ?_
  refine lv_icmp_lt (tgt := 11) S.1 S.2.1 dX2_begin_2 (by decide) (fun h2 => ?_) (fun h2 => ?_)
  · refine lv_iconst (v := nI 0) S.1 S.2.1 dX2_begin_11 (by decide) ?_
    exact rd_retz hQ S hr hlk (by decide) dX2_begin_12
  · refine lv_iload_n S.1 S.2.1 dX2_begin_5 rfl (lv_at hl 1 rfl) ?_
    refine lv_bipush (v := nI 6) S.1 S.2.1 dX2_begin_6 (by decide) ?_
    refine lv_icmp_le (tgt := 13) S.1 S.2.1 dX2_begin_8 (by decide) (fun h8 => ?_) (fun h8 => ?_)
    · exact absurd hb (by simp [bgB, h2, h8])
    · refine lv_iconst (v := nI 0) S.1 S.2.1 dX2_begin_11 (by decide) ?_
      exact rd_retz hQ S hr hlk (by decide) dX2_begin_12
set_option maxHeartbeats 4000000 in
set_option maxRecDepth 100000 in
theorem c_X2_begin_t {l : Launch} {D : va_G} {cI cL : ClassId} {b : Nat → Nat} {N len : Nat} {cn : Nat → Nat} {P M pth dep : Nat → Int32} {n : Nat} (hn1 : 1 ≤ n) (hn6 : n ≤ 6)   : MetW l yX2_begin cX2_begin 3 (some .boolean) 1 [.ref (b 0), .int (nI n)] D cI cL (MDw cI b N len cn P M pth dep) (some (.int (bI true))) (MDw cI b n 0 (fd (fun k c => va_up c k 0) 4 0 cn) P M pth dep) := by
  refine MetW.mk (by decide) (Nat.le_of_ble_eq_true rfl) ?_
  intro p e s m args below meth c Q A hQ S hr hlk hN hK hP hD hS ls hl
  have S : CallFix p m c cX2_begin 3 s args wt RX2 := S
  have hl : lv_has ls 3 [(0, .ref (b 0)), (1, .int (nI n))] := hl
  refine lv_iload_n S.1 S.2.1 dX2_begin_0 rfl (lv_at hl 1 rfl) ?_
  refine lv_iconst (v := nI 1) S.1 S.2.1 dX2_begin_1 (by decide) ?_
  refine lv_icmp_lt (tgt := 11) S.1 S.2.1 dX2_begin_2 (by decide) (fun hh => absurd hh (fun q => absurd ((nI_ltI (by omega) (by decide)).mp q) (by omega))) (fun _ => ?_)
  refine lv_iload_n S.1 S.2.1 dX2_begin_5 rfl (lv_at hl 1 rfl) ?_
  refine lv_bipush (v := nI 6) S.1 S.2.1 dX2_begin_6 (by decide) ?_
  refine lv_icmp_le (tgt := 13) S.1 S.2.1 dX2_begin_8 (by decide) (fun _ => ?_) (fun hh => absurd ((nI_leI (by omega) (by decide)).mpr hn6) hh)
  refine lv_aload_n S.1 S.2.1 dX2_begin_13 rfl (lv_at hl 0 rfl) ?_
  refine lv_iload_n S.1 S.2.1 dX2_begin_14 rfl (lv_at hl 1 rfl) ?_
  refine p2_n (x := n) S hK hP hD hS dX2_begin_15 (fun H locs hP hD hS => ?_)
  refine lv_iconst (v := nI 0) S.1 S.2.1 dX2_begin_18 (by decide) ?_
  refine lv_istore_n (lv' := [(2, .int (nI 0)), (0, .ref (b 0)), (1, .int (nI n))]) S.1 S.2.1 dX2_begin_19 rfl hl (by decide) rfl (fun ls hl => ?_)
  have loop20 : ∀ (nf : Nat) (i : Nat) (cn1 : Nat → Nat) (H : Heap) (locs : List Loc) (ls : Array Slot), 4 - i < nf → i ≤ 4 → fd (fun k c => va_up c k 0) 4 i cn1 = fd (fun k c => va_up c k 0) 4 0 cn → va_P D classes (MDw cI b n len cn1 P M pth dep) H → va_D A (MDw cI b n len cn1 P M pth dep) → va_S A s.heap H locs → lv_has ls 3 [(2, .int (nI i)), (0, .ref (b 0)), (1, .int (nI n))] → W p l e (rmd 1) s m args below meth c H locs 0 0 Q (F0 m 20 ls []) := by
    intro nf
    induction nf with
    | zero => exact fun i cn1 H locs ls hn => absurd hn (Nat.not_lt_zero _)
    | succ nf ih20 =>
      intro i cn1 H locs ls hn hi hv hP hD hS hl
      refine lv_iload_n S.1 S.2.1 dX2_begin_20 rfl (lv_at hl 0 rfl) ?_
      refine lv_iconst (v := nI 4) S.1 S.2.1 dX2_begin_21 (by decide) ?_
      refine lv_icmp_ge (tgt := 38) S.1 S.2.1 dX2_begin_22 (by decide) (fun h22 => ?_) (fun h22 => ?_)
      · have h22 := ge_n (by omega) (by decide) h22
        rw [fd_d h22] at hv
        subst hv
        refine lv_aload_n S.1 S.2.1 dX2_begin_38 rfl (lv_at hl 1 rfl) ?_
        refine lv_iconst (v := nI 0) S.1 S.2.1 dX2_begin_39 (by decide) ?_
        refine p2_length (x := 0) S hK hP hD hS dX2_begin_40 (fun H locs hP hD hS => ?_)
        refine lv_iconst (v := nI 1) S.1 S.2.1 dX2_begin_43 (by decide) ?_
        exact wr_retz hQ S hr hlk hP hS rfl (by decide) dX2_begin_44
      · have h22 := ge_f (by omega) (by decide) h22
        refine lv_aload_n S.1 S.2.1 dX2_begin_25 rfl (lv_at hl 1 rfl) ?_
        refine g2_counts S hK hP dX2_begin_26 ?_
        refine lv_iload_n S.1 S.2.1 dX2_begin_29 rfl (lv_at hl 0 rfl) ?_
        refine lv_iconst (v := nI 0) S.1 S.2.1 dX2_begin_30 (by decide) ?_
        refine s2_counts (x := 0) (by omega) S hK hP hD hS dX2_begin_31 (fun H locs hP hD hS => ?_)
        refine lv_iinc (v := nI (i + 1)) (lv' := [(2, .int (nI (i + 1))), (0, .ref (b 0)), (1, .int (nI n))]) S.1 S.2.1 dX2_begin_32 hl (k := 0) rfl (nI_1 _) (by decide) rfl (fun ls hl => ?_)
        refine lv_goto (tgt := 20) S.1 S.2.1 dX2_begin_35 (by decide) ?_
        exact ih20 (i + 1) _ _ _ ls (by omega) (by omega) (fd_b h22 hv rfl) hP hD hS (lv_sub hl [0, 1, 2] rfl)
  exact loop20 _ 0 cn _ _ ls (Nat.lt_succ_self _) (by decide) rfl hP hD hS (lv_sub hl [0, 1, 2] rfl)
set_option maxHeartbeats 4000000 in
set_option maxRecDepth 100000 in
theorem c_X2_clause_f {l : Launch} {D : va_G} {cI cL : ClassId} {b : Nat → Nat} {N len : Nat} {cn : Nat → Nat} {P M pth dep : Nat → Int32} {li x y : Int32} (hb : clB N cn li x y = false)  (hV : RInv N cn) : MetR l yX2_clause cX2_clause 6 (some .int) 1 [.ref (b 0), .int li, .int x, .int y] D cI cL (MDw cI b N len cn P M pth dep) (-1) := by
  refine MetR.mk (by decide) (Nat.le_of_ble_eq_true rfl) ?_
  intro p e s m args below meth c Q hQ S hr hlk hN hK hP ls hl
  have S : CallFix p m c cX2_clause 6 s args wt RX2 := S
  have hl : lv_has ls 6 [(0, .ref (b 0)), (1, .int li), (2, .int x), (3, .int y)] := hl
  have h6 := hV.2.1
  rcases hl1 : liB li with _ | _
  · skip
    refine lv_iload_n S.1 S.2.1 dX2_clause_0 rfl (lv_at hl 1 rfl) ?_
    refine rdS S ct_RX2_36 (c_X2_isList (x := li)) hK hN hP ⟨Nat.le_of_ble_eq_true rfl, Nat.le_of_ble_eq_true rfl⟩ ⟨Nat.zero_le _, Nat.zero_le _⟩ rfl hl.1 rfl (Nat.le_of_ble_eq_true rfl) dX2_clause_1 ?_
    refine lv_if_eq (tgt := 18) S.1 S.2.1 dX2_clause_4 (by decide) (fun _ => ?_) (fun hh => absurd (by rw [hl1]; rfl) hh)
    refine lv_iconst (v := -1) S.1 S.2.1 dX2_clause_18 (by decide) ?_
    exact rd_ret hQ S hr hlk rfl dX2_clause_19
  · obtain ⟨k, hk, rfl⟩ := liB_t hl1
    have hc4 := hV.2.2 k hk
    refine lv_iload_n S.1 S.2.1 dX2_clause_0 rfl (lv_at hl 1 rfl) ?_
    refine rdS S ct_RX2_36 (c_X2_isList (x := nI k)) hK hN hP ⟨Nat.le_of_ble_eq_true rfl, Nat.le_of_ble_eq_true rfl⟩ ⟨Nat.zero_le _, Nat.zero_le _⟩ rfl hl.1 rfl (Nat.le_of_ble_eq_true rfl) dX2_clause_1 ?_
    refine lv_if_eq (tgt := 18) S.1 S.2.1 dX2_clause_4 (by decide) (fun hh => absurd hh (by rw [hl1]; decide)) (fun _ => ?_)
    refine lv_aload_n S.1 S.2.1 dX2_clause_7 rfl (lv_at hl 0 rfl) ?_
    refine g2_counts S hK hP dX2_clause_8 ?_
    refine lv_iload_n S.1 S.2.1 dX2_clause_11 rfl (lv_at hl 1 rfl) ?_
    refine a2_counts hk S hK hP dX2_clause_12 ?_
    refine lv_bipush (v := nI 24) S.1 S.2.1 dX2_clause_13 (by decide) ?_
    refine lv_icmp_ne (tgt := 20) S.1 S.2.1 dX2_clause_15 (by decide) (fun h15 => ?_) (fun h15 => ?_)
    · refine lv_iload_n S.1 S.2.1 dX2_clause_20 rfl (lv_at hl 1 rfl) ?_
      refine lv_iconst (v := nI 1) S.1 S.2.1 dX2_clause_21 (by decide) ?_
      refine lv_icmp_ne (tgt := 36) S.1 S.2.1 dX2_clause_22 (by decide) (fun h22 => ?_) (fun h22 => ?_)
      · refine lv_iconst (v := nI 1) S.1 S.2.1 dX2_clause_36 (by decide) ?_
        refine lv_aload_n S.1 S.2.1 dX2_clause_37 rfl (lv_at hl 0 rfl) ?_
        refine g2_n S hK hP dX2_clause_38 ?_
        refine lv_ishl S.1 S.2.1 dX2_clause_41 ?_
        refine tp (y := nI (2 ^ N)) (sh1 _ (by omega)) ?_
        refine lv_istore (lv' := [(4, .int (nI (2 ^ N))), (0, .ref (b 0)), (1, .int (nI k)), (2, .int x), (3, .int y)]) S.1 S.2.1 dX2_clause_42 hl (by decide) rfl (fun ls hl => ?_)
        refine lv_iload_n S.1 S.2.1 dX2_clause_44 rfl (lv_at hl 3 rfl) ?_
        refine lv_if_lt (tgt := 64) S.1 S.2.1 dX2_clause_45 (by decide) (fun h45 => ?_) (fun h45 => ?_)
        · refine lv_iconst (v := -1) S.1 S.2.1 dX2_clause_64 (by decide) ?_
          exact rd_ret hQ S hr hlk rfl dX2_clause_65
        · refine lv_iload_n S.1 S.2.1 dX2_clause_48 rfl (lv_at hl 4 rfl) ?_
          refine lv_if_lt (tgt := 64) S.1 S.2.1 dX2_clause_49 (by decide) (fun h49 => ?_) (fun h49 => ?_)
          · refine lv_iconst (v := -1) S.1 S.2.1 dX2_clause_64 (by decide) ?_
            exact rd_ret hQ S hr hlk rfl dX2_clause_65
          · refine lv_iload_n S.1 S.2.1 dX2_clause_52 rfl (lv_at hl 3 rfl) ?_
            refine lv_iload S.1 S.2.1 dX2_clause_53 (lv_at hl 0 rfl) ?_
            refine lv_icmp_ge (tgt := 64) S.1 S.2.1 dX2_clause_55 (by decide) (fun h55 => ?_) (fun h55 => ?_)
            · refine lv_iconst (v := -1) S.1 S.2.1 dX2_clause_64 (by decide) ?_
              exact rd_ret hQ S hr hlk rfl dX2_clause_65
            · refine lv_iload_n S.1 S.2.1 dX2_clause_58 rfl (lv_at hl 4 rfl) ?_
              refine lv_iload S.1 S.2.1 dX2_clause_59 (lv_at hl 0 rfl) ?_
              refine lv_icmp_lt (tgt := 66) S.1 S.2.1 dX2_clause_61 (by decide) (fun h61 => ?_) (fun h61 => ?_)
              · exact absurd hb (by rw [clB_t hl1 (seB_t h45 (by rw [if_neg h22]; exact h55)) (seB_t h49 (by rw [if_neg h22]; exact Int32.not_le.mpr h61)) (by rw [nI_clamp (by omega)]; exact ne24 hc4 h15)]; decide)
              · refine lv_iconst (v := -1) S.1 S.2.1 dX2_clause_64 (by decide) ?_
                exact rd_ret hQ S hr hlk rfl dX2_clause_65
      · refine lv_iconst (v := nI 1) S.1 S.2.1 dX2_clause_25 (by decide) ?_
        refine lv_iconst (v := nI 2) S.1 S.2.1 dX2_clause_26 (by decide) ?_
        refine lv_aload_n S.1 S.2.1 dX2_clause_27 rfl (lv_at hl 0 rfl) ?_
        refine g2_n S hK hP dX2_clause_28 ?_
        refine lv_imul S.1 S.2.1 dX2_clause_31 ?_
        refine tp (y := nI (2 * N)) (ml 2 N) ?_
        refine lv_ishl S.1 S.2.1 dX2_clause_32 ?_
        refine tp (y := nI (2 ^ (2 * N))) (sh1 _ (by omega)) ?_
        refine lv_goto (tgt := 42) S.1 S.2.1 dX2_clause_33 (by decide) ?_
        refine lv_istore (lv' := [(4, .int (nI (2 ^ (2 * N)))), (0, .ref (b 0)), (1, .int (nI k)), (2, .int x), (3, .int y)]) S.1 S.2.1 dX2_clause_42 hl (by decide) rfl (fun ls hl => ?_)
        refine lv_iload_n S.1 S.2.1 dX2_clause_44 rfl (lv_at hl 3 rfl) ?_
        refine lv_if_lt (tgt := 64) S.1 S.2.1 dX2_clause_45 (by decide) (fun h45 => ?_) (fun h45 => ?_)
        · refine lv_iconst (v := -1) S.1 S.2.1 dX2_clause_64 (by decide) ?_
          exact rd_ret hQ S hr hlk rfl dX2_clause_65
        · refine lv_iload_n S.1 S.2.1 dX2_clause_48 rfl (lv_at hl 4 rfl) ?_
          refine lv_if_lt (tgt := 64) S.1 S.2.1 dX2_clause_49 (by decide) (fun h49 => ?_) (fun h49 => ?_)
          · refine lv_iconst (v := -1) S.1 S.2.1 dX2_clause_64 (by decide) ?_
            exact rd_ret hQ S hr hlk rfl dX2_clause_65
          · refine lv_iload_n S.1 S.2.1 dX2_clause_52 rfl (lv_at hl 3 rfl) ?_
            refine lv_iload S.1 S.2.1 dX2_clause_53 (lv_at hl 0 rfl) ?_
            refine lv_icmp_ge (tgt := 64) S.1 S.2.1 dX2_clause_55 (by decide) (fun h55 => ?_) (fun h55 => ?_)
            · refine lv_iconst (v := -1) S.1 S.2.1 dX2_clause_64 (by decide) ?_
              exact rd_ret hQ S hr hlk rfl dX2_clause_65
            · refine lv_iload_n S.1 S.2.1 dX2_clause_58 rfl (lv_at hl 4 rfl) ?_
              refine lv_iload S.1 S.2.1 dX2_clause_59 (lv_at hl 0 rfl) ?_
              refine lv_icmp_lt (tgt := 66) S.1 S.2.1 dX2_clause_61 (by decide) (fun h61 => ?_) (fun h61 => ?_)
              · exact absurd hb (by rw [clB_t hl1 (seB_t h45 (by rw [if_pos h22]; exact h55)) (seB_t h49 (by rw [if_pos h22]; exact Int32.not_le.mpr h61)) (by rw [nI_clamp (by omega)]; exact ne24 hc4 h15)]; decide)
              · refine lv_iconst (v := -1) S.1 S.2.1 dX2_clause_64 (by decide) ?_
                exact rd_ret hQ S hr hlk rfl dX2_clause_65
    · refine lv_iconst (v := -1) S.1 S.2.1 dX2_clause_18 (by decide) ?_
      exact rd_ret hQ S hr hlk rfl dX2_clause_19
set_option maxHeartbeats 4000000 in
set_option maxRecDepth 100000 in
theorem c_X2_clause_t {l : Launch} {D : va_G} {cI cL : ClassId} {b : Nat → Nat} {N len : Nat} {cn : Nat → Nat} {P M pth dep : Nat → Int32} {k : Nat} {x y : Int32} (hk : k < 4) (hx : seB N (nI k) x = true) (hy : seB N (nI k) y = true) (hc : cn k < 24)  (hV : RInv N cn) : MetW l yX2_clause cX2_clause 6 (some .int) 1 [.ref (b 0), .int (nI k), .int x, .int y] D cI cL (MDw cI b N len cn P M pth dep) (some (.int (nI (cn k)))) (MDw cI b N 0 (va_up cn k (cn k + 1)) (upd P (24 * k + cn k) x) (upd M (24 * k + cn k) y) pth dep) := by
  refine MetW.mk (by decide) (Nat.le_of_ble_eq_true rfl) ?_
  intro p e s m args below meth c Q A hQ S hr hlk hN hK hP hD hS ls hl
  have S : CallFix p m c cX2_clause 6 s args wt RX2 := S
  have hl : lv_has ls 6 [(0, .ref (b 0)), (1, .int (nI k)), (2, .int x), (3, .int y)] := hl
  have h6 := hV.2.1
  obtain ⟨hx1, hx2⟩ := seB_e hx
  obtain ⟨hy1, hy2⟩ := seB_e hy
  refine lv_iload_n S.1 S.2.1 dX2_clause_0 rfl (lv_at hl 1 rfl) ?_
  refine rdS S ct_RX2_36 (c_X2_isList (x := nI k)) hK hN hP ⟨Nat.le_of_ble_eq_true rfl, Nat.le_of_ble_eq_true rfl⟩ ⟨Nat.zero_le _, Nat.zero_le _⟩ rfl hl.1 rfl (Nat.le_of_ble_eq_true rfl) dX2_clause_1 ?_
  refine lv_if_eq (tgt := 18) S.1 S.2.1 dX2_clause_4 (by decide) (fun hh => absurd hh (by rw [liB_n hk]; decide)) (fun _ => ?_)
  refine lv_aload_n S.1 S.2.1 dX2_clause_7 rfl (lv_at hl 0 rfl) ?_
  refine g2_counts S hK hP dX2_clause_8 ?_
  refine lv_iload_n S.1 S.2.1 dX2_clause_11 rfl (lv_at hl 1 rfl) ?_
  refine a2_counts hk S hK hP dX2_clause_12 ?_
  refine lv_bipush (v := nI 24) S.1 S.2.1 dX2_clause_13 (by decide) ?_
  refine lv_icmp_ne (tgt := 20) S.1 S.2.1 dX2_clause_15 (by decide) (fun _ => ?_) (fun hh => absurd hh (fun q => absurd (eq_n (by omega) (by decide) q) (by omega)))
  refine lv_iload_n S.1 S.2.1 dX2_clause_20 rfl (lv_at hl 1 rfl) ?_
  refine lv_iconst (v := nI 1) S.1 S.2.1 dX2_clause_21 (by decide) ?_
  refine lv_icmp_ne (tgt := 36) S.1 S.2.1 dX2_clause_22 (by decide) (fun h22 => ?_) (fun h22 => ?_)
  · rw [if_neg h22] at hx2 hy2
    refine lv_iconst (v := nI 1) S.1 S.2.1 dX2_clause_36 (by decide) ?_
    refine lv_aload_n S.1 S.2.1 dX2_clause_37 rfl (lv_at hl 0 rfl) ?_
    refine g2_n S hK hP dX2_clause_38 ?_
    refine lv_ishl S.1 S.2.1 dX2_clause_41 ?_
    refine tp (y := nI (2 ^ N)) (sh1 _ (by omega)) ?_
    refine lv_istore (lv' := [(4, .int (nI (2 ^ N))), (0, .ref (b 0)), (1, .int (nI k)), (2, .int x), (3, .int y)]) S.1 S.2.1 dX2_clause_42 hl (by decide) rfl (fun ls hl => ?_)
    refine lv_iload_n S.1 S.2.1 dX2_clause_44 rfl (lv_at hl 3 rfl) ?_
    refine lv_if_lt (tgt := 64) S.1 S.2.1 dX2_clause_45 (by decide) (fun hh => absurd hh hx1) (fun _ => ?_)
    refine lv_iload_n S.1 S.2.1 dX2_clause_48 rfl (lv_at hl 4 rfl) ?_
    refine lv_if_lt (tgt := 64) S.1 S.2.1 dX2_clause_49 (by decide) (fun hh => absurd hh hy1) (fun _ => ?_)
    refine lv_iload_n S.1 S.2.1 dX2_clause_52 rfl (lv_at hl 3 rfl) ?_
    refine lv_iload S.1 S.2.1 dX2_clause_53 (lv_at hl 0 rfl) ?_
    refine lv_icmp_ge (tgt := 64) S.1 S.2.1 dX2_clause_55 (by decide) (fun hh => absurd hh hx2) (fun _ => ?_)
    refine lv_iload_n S.1 S.2.1 dX2_clause_58 rfl (lv_at hl 4 rfl) ?_
    refine lv_iload S.1 S.2.1 dX2_clause_59 (lv_at hl 0 rfl) ?_
    refine lv_icmp_lt (tgt := 66) S.1 S.2.1 dX2_clause_61 (by decide) (fun _ => ?_) (fun hh => absurd (ltI hy2) hh)
    refine lv_aload_n S.1 S.2.1 dX2_clause_66 rfl (lv_at hl 1 rfl) ?_
    refine g2_counts S hK hP dX2_clause_67 ?_
    refine lv_iload_n S.1 S.2.1 dX2_clause_70 rfl (lv_at hl 2 rfl) ?_
    refine a2_counts hk S hK hP dX2_clause_71 ?_
    refine lv_istore (lv' := [(5, .int (nI (cn k))), (4, .int (nI (2 ^ N))), (0, .ref (b 0)), (1, .int (nI k)), (2, .int x), (3, .int y)]) S.1 S.2.1 dX2_clause_72 hl (by decide) rfl (fun ls hl => ?_)
    refine lv_aload_n S.1 S.2.1 dX2_clause_74 rfl (lv_at hl 2 rfl) ?_
    refine g2_plus S hK hP dX2_clause_75 ?_
    refine lv_bipush (v := nI 24) S.1 S.2.1 dX2_clause_78 (by decide) ?_
    refine lv_iload_n S.1 S.2.1 dX2_clause_80 rfl (lv_at hl 3 rfl) ?_
    refine lv_imul S.1 S.2.1 dX2_clause_81 ?_
    refine tp (y := nI (24 * k)) (ml 24 k) ?_
    refine lv_iload S.1 S.2.1 dX2_clause_82 (lv_at hl 0 rfl) ?_
    refine lv_iadd S.1 S.2.1 dX2_clause_84 ?_
    refine tp (y := nI (24 * k + cn k)) (nI_add _ _) ?_
    refine lv_iload_n S.1 S.2.1 dX2_clause_85 rfl (lv_at hl 4 rfl) ?_
    refine s2_plus (x := x) (by omega) S hK hP hD hS dX2_clause_86 (fun H locs hP hD hS => ?_)
    refine lv_aload_n S.1 S.2.1 dX2_clause_87 rfl (lv_at hl 2 rfl) ?_
    refine g2_minus S hK hP dX2_clause_88 ?_
    refine lv_bipush (v := nI 24) S.1 S.2.1 dX2_clause_91 (by decide) ?_
    refine lv_iload_n S.1 S.2.1 dX2_clause_93 rfl (lv_at hl 3 rfl) ?_
    refine lv_imul S.1 S.2.1 dX2_clause_94 ?_
    refine tp (y := nI (24 * k)) (ml 24 k) ?_
    refine lv_iload S.1 S.2.1 dX2_clause_95 (lv_at hl 0 rfl) ?_
    refine lv_iadd S.1 S.2.1 dX2_clause_97 ?_
    refine tp (y := nI (24 * k + cn k)) (nI_add _ _) ?_
    refine lv_iload_n S.1 S.2.1 dX2_clause_98 rfl (lv_at hl 5 rfl) ?_
    refine s2_minus (x := y) (by omega) S hK hP hD hS dX2_clause_99 (fun H locs hP hD hS => ?_)
    refine lv_aload_n S.1 S.2.1 dX2_clause_100 rfl (lv_at hl 2 rfl) ?_
    refine g2_counts S hK hP dX2_clause_101 ?_
    refine lv_iload_n S.1 S.2.1 dX2_clause_104 rfl (lv_at hl 3 rfl) ?_
    refine lv_iload S.1 S.2.1 dX2_clause_105 (lv_at hl 0 rfl) ?_
    refine lv_iconst (v := nI 1) S.1 S.2.1 dX2_clause_107 (by decide) ?_
    refine lv_iadd S.1 S.2.1 dX2_clause_108 ?_
    refine tp (y := nI (cn k + 1)) (nI_1 _) ?_
    refine s2_counts (x := (cn k + 1)) hk S hK hP hD hS dX2_clause_109 (fun H locs hP hD hS => ?_)
    refine lv_aload_n S.1 S.2.1 dX2_clause_110 rfl (lv_at hl 2 rfl) ?_
    refine lv_iconst (v := nI 0) S.1 S.2.1 dX2_clause_111 (by decide) ?_
    refine p2_length (x := 0) S hK hP hD hS dX2_clause_112 (fun H locs hP hD hS => ?_)
    refine lv_iload S.1 S.2.1 dX2_clause_115 (lv_at hl 0 rfl) ?_
    exact wr_ret hQ S hr hlk hP hS rfl rfl dX2_clause_117
  · rw [if_pos h22] at hx2 hy2
    refine lv_iconst (v := nI 1) S.1 S.2.1 dX2_clause_25 (by decide) ?_
    refine lv_iconst (v := nI 2) S.1 S.2.1 dX2_clause_26 (by decide) ?_
    refine lv_aload_n S.1 S.2.1 dX2_clause_27 rfl (lv_at hl 0 rfl) ?_
    refine g2_n S hK hP dX2_clause_28 ?_
    refine lv_imul S.1 S.2.1 dX2_clause_31 ?_
    refine tp (y := nI (2 * N)) (ml 2 N) ?_
    refine lv_ishl S.1 S.2.1 dX2_clause_32 ?_
    refine tp (y := nI (2 ^ (2 * N))) (sh1 _ (by omega)) ?_
    refine lv_goto (tgt := 42) S.1 S.2.1 dX2_clause_33 (by decide) ?_
    refine lv_istore (lv' := [(4, .int (nI (2 ^ (2 * N)))), (0, .ref (b 0)), (1, .int (nI k)), (2, .int x), (3, .int y)]) S.1 S.2.1 dX2_clause_42 hl (by decide) rfl (fun ls hl => ?_)
    refine lv_iload_n S.1 S.2.1 dX2_clause_44 rfl (lv_at hl 3 rfl) ?_
    refine lv_if_lt (tgt := 64) S.1 S.2.1 dX2_clause_45 (by decide) (fun hh => absurd hh hx1) (fun _ => ?_)
    refine lv_iload_n S.1 S.2.1 dX2_clause_48 rfl (lv_at hl 4 rfl) ?_
    refine lv_if_lt (tgt := 64) S.1 S.2.1 dX2_clause_49 (by decide) (fun hh => absurd hh hy1) (fun _ => ?_)
    refine lv_iload_n S.1 S.2.1 dX2_clause_52 rfl (lv_at hl 3 rfl) ?_
    refine lv_iload S.1 S.2.1 dX2_clause_53 (lv_at hl 0 rfl) ?_
    refine lv_icmp_ge (tgt := 64) S.1 S.2.1 dX2_clause_55 (by decide) (fun hh => absurd hh hx2) (fun _ => ?_)
    refine lv_iload_n S.1 S.2.1 dX2_clause_58 rfl (lv_at hl 4 rfl) ?_
    refine lv_iload S.1 S.2.1 dX2_clause_59 (lv_at hl 0 rfl) ?_
    refine lv_icmp_lt (tgt := 66) S.1 S.2.1 dX2_clause_61 (by decide) (fun _ => ?_) (fun hh => absurd (ltI hy2) hh)
    refine lv_aload_n S.1 S.2.1 dX2_clause_66 rfl (lv_at hl 1 rfl) ?_
    refine g2_counts S hK hP dX2_clause_67 ?_
    refine lv_iload_n S.1 S.2.1 dX2_clause_70 rfl (lv_at hl 2 rfl) ?_
    refine a2_counts hk S hK hP dX2_clause_71 ?_
    refine lv_istore (lv' := [(5, .int (nI (cn k))), (4, .int (nI (2 ^ (2 * N)))), (0, .ref (b 0)), (1, .int (nI k)), (2, .int x), (3, .int y)]) S.1 S.2.1 dX2_clause_72 hl (by decide) rfl (fun ls hl => ?_)
    refine lv_aload_n S.1 S.2.1 dX2_clause_74 rfl (lv_at hl 2 rfl) ?_
    refine g2_plus S hK hP dX2_clause_75 ?_
    refine lv_bipush (v := nI 24) S.1 S.2.1 dX2_clause_78 (by decide) ?_
    refine lv_iload_n S.1 S.2.1 dX2_clause_80 rfl (lv_at hl 3 rfl) ?_
    refine lv_imul S.1 S.2.1 dX2_clause_81 ?_
    refine tp (y := nI (24 * k)) (ml 24 k) ?_
    refine lv_iload S.1 S.2.1 dX2_clause_82 (lv_at hl 0 rfl) ?_
    refine lv_iadd S.1 S.2.1 dX2_clause_84 ?_
    refine tp (y := nI (24 * k + cn k)) (nI_add _ _) ?_
    refine lv_iload_n S.1 S.2.1 dX2_clause_85 rfl (lv_at hl 4 rfl) ?_
    refine s2_plus (x := x) (by omega) S hK hP hD hS dX2_clause_86 (fun H locs hP hD hS => ?_)
    refine lv_aload_n S.1 S.2.1 dX2_clause_87 rfl (lv_at hl 2 rfl) ?_
    refine g2_minus S hK hP dX2_clause_88 ?_
    refine lv_bipush (v := nI 24) S.1 S.2.1 dX2_clause_91 (by decide) ?_
    refine lv_iload_n S.1 S.2.1 dX2_clause_93 rfl (lv_at hl 3 rfl) ?_
    refine lv_imul S.1 S.2.1 dX2_clause_94 ?_
    refine tp (y := nI (24 * k)) (ml 24 k) ?_
    refine lv_iload S.1 S.2.1 dX2_clause_95 (lv_at hl 0 rfl) ?_
    refine lv_iadd S.1 S.2.1 dX2_clause_97 ?_
    refine tp (y := nI (24 * k + cn k)) (nI_add _ _) ?_
    refine lv_iload_n S.1 S.2.1 dX2_clause_98 rfl (lv_at hl 5 rfl) ?_
    refine s2_minus (x := y) (by omega) S hK hP hD hS dX2_clause_99 (fun H locs hP hD hS => ?_)
    refine lv_aload_n S.1 S.2.1 dX2_clause_100 rfl (lv_at hl 2 rfl) ?_
    refine g2_counts S hK hP dX2_clause_101 ?_
    refine lv_iload_n S.1 S.2.1 dX2_clause_104 rfl (lv_at hl 3 rfl) ?_
    refine lv_iload S.1 S.2.1 dX2_clause_105 (lv_at hl 0 rfl) ?_
    refine lv_iconst (v := nI 1) S.1 S.2.1 dX2_clause_107 (by decide) ?_
    refine lv_iadd S.1 S.2.1 dX2_clause_108 ?_
    refine tp (y := nI (cn k + 1)) (nI_1 _) ?_
    refine s2_counts (x := (cn k + 1)) hk S hK hP hD hS dX2_clause_109 (fun H locs hP hD hS => ?_)
    refine lv_aload_n S.1 S.2.1 dX2_clause_110 rfl (lv_at hl 2 rfl) ?_
    refine lv_iconst (v := nI 0) S.1 S.2.1 dX2_clause_111 (by decide) ?_
    refine p2_length (x := 0) S hK hP hD hS dX2_clause_112 (fun H locs hP hD hS => ?_)
    refine lv_iload S.1 S.2.1 dX2_clause_115 (lv_at hl 0 rfl) ?_
    exact wr_ret hQ S hr hlk hP hS rfl rfl dX2_clause_117
set_option maxHeartbeats 4000000 in
set_option maxRecDepth 100000 in
theorem c_X2_drop_f {l : Launch} {D : va_G} {cI cL : ClassId} {b : Nat → Nat} {N len : Nat} {cn : Nat → Nat} {P M pth dep : Nat → Int32} {li : Int32} (hb : drB cn li = false)   : MetR l yX2_drop cX2_drop 2 (some .int) 1 [.ref (b 0), .int li] D cI cL (MDw cI b N len cn P M pth dep) (-1) := by
  refine MetR.mk (by decide) (Nat.le_of_ble_eq_true rfl) ?_
  intro p e s m args below meth c Q hQ S hr hlk hN hK hP ls hl
  have S : CallFix p m c cX2_drop 2 s args wt RX2 := S
  have hl : lv_has ls 2 [(0, .ref (b 0)), (1, .int li)] := hl
  rcases hl1 : liB li with _ | _
  · skip
    refine lv_iload_n S.1 S.2.1 dX2_drop_0 rfl (lv_at hl 1 rfl) ?_
    refine rdS S ct_RX2_36 (c_X2_isList (x := li)) hK hN hP ⟨Nat.le_of_ble_eq_true rfl, Nat.le_of_ble_eq_true rfl⟩ ⟨Nat.zero_le _, Nat.zero_le _⟩ rfl hl.1 rfl (Nat.le_of_ble_eq_true rfl) dX2_drop_1 ?_
    refine lv_if_eq (tgt := 16) S.1 S.2.1 dX2_drop_4 (by decide) (fun _ => ?_) (fun hh => absurd (by rw [hl1]; rfl) hh)
    refine lv_iconst (v := -1) S.1 S.2.1 dX2_drop_16 (by decide) ?_
    exact rd_ret hQ S hr hlk rfl dX2_drop_17
  · obtain ⟨k, hk, rfl⟩ := liB_t hl1
    refine lv_iload_n S.1 S.2.1 dX2_drop_0 rfl (lv_at hl 1 rfl) ?_
    refine rdS S ct_RX2_36 (c_X2_isList (x := nI k)) hK hN hP ⟨Nat.le_of_ble_eq_true rfl, Nat.le_of_ble_eq_true rfl⟩ ⟨Nat.zero_le _, Nat.zero_le _⟩ rfl hl.1 rfl (Nat.le_of_ble_eq_true rfl) dX2_drop_1 ?_
    refine lv_if_eq (tgt := 16) S.1 S.2.1 dX2_drop_4 (by decide) (fun hh => absurd hh (by rw [hl1]; decide)) (fun _ => ?_)
    refine lv_aload_n S.1 S.2.1 dX2_drop_7 rfl (lv_at hl 0 rfl) ?_
    refine g2_counts S hK hP dX2_drop_8 ?_
    refine lv_iload_n S.1 S.2.1 dX2_drop_11 rfl (lv_at hl 1 rfl) ?_
    refine a2_counts hk S hK hP dX2_drop_12 ?_
    refine lv_if_ne (tgt := 18) S.1 S.2.1 dX2_drop_13 (by decide) (fun h13 => ?_) (fun h13 => ?_)
    · exact absurd hb (by simp [drB, hl1, nI_clamp (show k < 2 ^ 31 by omega)]; exact fun q => h13 (by rw [q]; rfl))
    · refine lv_iconst (v := -1) S.1 S.2.1 dX2_drop_16 (by decide) ?_
      exact rd_ret hQ S hr hlk rfl dX2_drop_17
set_option maxHeartbeats 4000000 in
set_option maxRecDepth 100000 in
theorem c_X2_drop_t {l : Launch} {D : va_G} {cI cL : ClassId} {b : Nat → Nat} {N len : Nat} {cn : Nat → Nat} {P M pth dep : Nat → Int32} {k : Nat} (hk : k < 4) (hp : 0 < cn k)  (hV : RInv N cn) : MetW l yX2_drop cX2_drop 2 (some .int) 1 [.ref (b 0), .int (nI k)] D cI cL (MDw cI b N len cn P M pth dep) (some (.int (nI (cn k - 1)))) (MDw cI b N 0 (va_up cn k (cn k - 1)) P M pth dep) := by
  refine MetW.mk (by decide) (Nat.le_of_ble_eq_true rfl) ?_
  intro p e s m args below meth c Q A hQ S hr hlk hN hK hP hD hS ls hl
  have S : CallFix p m c cX2_drop 2 s args wt RX2 := S
  have hl : lv_has ls 2 [(0, .ref (b 0)), (1, .int (nI k))] := hl
  refine lv_iload_n S.1 S.2.1 dX2_drop_0 rfl (lv_at hl 1 rfl) ?_
  refine rdS S ct_RX2_36 (c_X2_isList (x := nI k)) hK hN hP ⟨Nat.le_of_ble_eq_true rfl, Nat.le_of_ble_eq_true rfl⟩ ⟨Nat.zero_le _, Nat.zero_le _⟩ rfl hl.1 rfl (Nat.le_of_ble_eq_true rfl) dX2_drop_1 ?_
  refine lv_if_eq (tgt := 16) S.1 S.2.1 dX2_drop_4 (by decide) (fun hh => absurd hh (by rw [liB_n hk]; decide)) (fun _ => ?_)
  refine lv_aload_n S.1 S.2.1 dX2_drop_7 rfl (lv_at hl 0 rfl) ?_
  refine g2_counts S hK hP dX2_drop_8 ?_
  refine lv_iload_n S.1 S.2.1 dX2_drop_11 rfl (lv_at hl 1 rfl) ?_
  refine a2_counts hk S hK hP dX2_drop_12 ?_
  refine lv_if_ne (tgt := 18) S.1 S.2.1 dX2_drop_13 (by decide) (fun _ => ?_) (fun hh => absurd hh (nI_ne0 hp (by have := hV.2.2 k hk; omega)))
  refine lv_aload_n S.1 S.2.1 dX2_drop_18 rfl (lv_at hl 0 rfl) ?_
  refine g2_counts S hK hP dX2_drop_19 ?_
  refine lv_iload_n S.1 S.2.1 dX2_drop_22 rfl (lv_at hl 1 rfl) ?_
  refine lv_dup2_11 S.1 S.2.1 dX2_drop_23 rfl rfl ?_
  refine a2_counts hk S hK hP dX2_drop_24 ?_
  refine lv_iconst (v := nI 1) S.1 S.2.1 dX2_drop_25 (by decide) ?_
  refine lv_isub S.1 S.2.1 dX2_drop_26 ?_
  refine tp (y := nI (cn k - 1)) (pk_sub hp) ?_
  refine s2_counts (x := (cn k - 1)) hk S hK hP hD hS dX2_drop_27 (fun H locs hP hD hS => ?_)
  refine lv_aload_n S.1 S.2.1 dX2_drop_28 rfl (lv_at hl 0 rfl) ?_
  refine lv_iconst (v := nI 0) S.1 S.2.1 dX2_drop_29 (by decide) ?_
  refine p2_length (x := 0) S hK hP hD hS dX2_drop_30 (fun H locs hP hD hS => ?_)
  refine lv_aload_n S.1 S.2.1 dX2_drop_33 rfl (lv_at hl 0 rfl) ?_
  refine g2_counts S hK hP dX2_drop_34 ?_
  refine lv_iload_n S.1 S.2.1 dX2_drop_37 rfl (lv_at hl 1 rfl) ?_
  refine a2_counts hk S hK hP dX2_drop_38 ?_
  exact wr_ret hQ S hr hlk hP hS rfl (by rw [show va_up cn k (cn k - 1) k = cn k - 1 from if_pos rfl]) dX2_drop_39
set_option maxHeartbeats 4000000 in
set_option maxRecDepth 100000 in
theorem c_X2_walk_f {l : Launch} {D : va_G} {cI cL : ClassId} {b : Nat → Nat} {N len : Nat} {cn : Nat → Nat} {P M pth dep : Nat → Int32} {x : Int32} (hb : waM N len cn P M pth x = false) (hp : len ≤ 64)  (hV : RInv N cn) : MetR l yX2_walk cX2_walk 3 (some .int) 2 [.ref (b 0), .int x] D cI cL (MDw cI b N len cn P M pth dep) (-1) := by
  refine MetR.mk (by decide) (Nat.le_of_ble_eq_true rfl) ?_
  intro p e s m args below meth c Q hQ S hr hlk hN hK hP ls hl
  have S : CallFix p m c cX2_walk 3 s args wt RX2 := S
  have hl : lv_has ls 3 [(0, .ref (b 0)), (1, .int x)] := hl
  refine lv_aload_n S.1 S.2.1 dX2_walk_0 rfl (lv_at hl 0 rfl) ?_
  refine g2_length S hK hP dX2_walk_1 ?_
  refine lv_bipush (v := nI 64) S.1 S.2.1 dX2_walk_4 (by decide) ?_
  refine lv_icmp_eq (tgt := 17) S.1 S.2.1 dX2_walk_6 (by decide) (fun h6 => ?_) (fun h6 => ?_)
  · refine lv_iconst (v := -1) S.1 S.2.1 dX2_walk_17 (by decide) ?_
    exact rd_ret hQ S hr hlk rfl dX2_walk_18
  · refine lv_aload_n S.1 S.2.1 dX2_walk_9 rfl (lv_at hl 0 rfl) ?_
    refine lv_iload_n S.1 S.2.1 dX2_walk_10 rfl (lv_at hl 1 rfl) ?_
    refine rdV S cv_RX2_44 (c_X2_isState (x := x) hV) hK hN hP (md_rv hK hP) ⟨Nat.le_of_ble_eq_true rfl, Nat.le_of_ble_eq_true rfl⟩ ⟨Nat.zero_le _, Nat.zero_le _⟩ rfl hl.1 rfl (Nat.le_of_ble_eq_true rfl) dX2_walk_11 ?_
    refine lv_if_ne (tgt := 19) S.1 S.2.1 dX2_walk_14 (by decide) (fun h14 => ?_) (fun h14 => ?_)
    · have h14 : (stB N x) = true := bI_t h14
      refine lv_aload_n S.1 S.2.1 dX2_walk_19 rfl (lv_at hl 0 rfl) ?_
      refine g2_length S hK hP dX2_walk_20 ?_
      refine lv_if_ne (tgt := 35) S.1 S.2.1 dX2_walk_23 (by decide) (fun h23 => ?_) (fun h23 => ?_)
      · refine lv_aload_n S.1 S.2.1 dX2_walk_35 rfl (lv_at hl 0 rfl) ?_
        refine lv_aload_n S.1 S.2.1 dX2_walk_36 rfl (lv_at hl 0 rfl) ?_
        refine g2_path S hK hP dX2_walk_37 ?_
        refine lv_aload_n S.1 S.2.1 dX2_walk_40 rfl (lv_at hl 0 rfl) ?_
        refine g2_length S hK hP dX2_walk_41 ?_
        refine lv_iconst (v := nI 1) S.1 S.2.1 dX2_walk_44 (by decide) ?_
        refine lv_isub S.1 S.2.1 dX2_walk_45 ?_
        refine tp (y := nI (len - 1)) (pk_sub (len_ne h23)) ?_
        refine a2_path (by have := len_ne h23; omega) S hK hP dX2_walk_46 ?_
        refine lv_iload_n S.1 S.2.1 dX2_walk_47 rfl (lv_at hl 1 rfl) ?_
        refine rdV S cv_RX2_47 (c_X2_leads (f := pth ((len - 1))) (t := x) hV) hK hN hP (md_rv hK hP) ⟨Nat.le_of_ble_eq_true rfl, Nat.le_of_ble_eq_true rfl⟩ ⟨Nat.zero_le _, Nat.zero_le _⟩ rfl hl.1 rfl (Nat.le_of_ble_eq_true rfl) dX2_walk_48 ?_
        refine lv_istore_n (lv' := [(2, .int (bI (goM N cn P M (pth ((len - 1))) x))), (0, .ref (b 0)), (1, .int x)]) S.1 S.2.1 dX2_walk_51 rfl hl (by decide) rfl (fun ls hl => ?_)
        refine lv_iload_n S.1 S.2.1 dX2_walk_52 rfl (lv_at hl 0 rfl) ?_
        refine lv_if_ne (tgt := 58) S.1 S.2.1 dX2_walk_53 (by decide) (fun h53 => ?_) (fun h53 => ?_)
        · have h53 : (goM N cn P M (pth ((len - 1))) x) = true := bI_t h53
          exact absurd hb (by rw [waM_t h14 (len64 hp h6) (Or.inr ⟨h23, h53⟩)]; decide)
        · have h53 : (goM N cn P M (pth ((len - 1))) x) = false := bI_f h53
          refine lv_iconst (v := -1) S.1 S.2.1 dX2_walk_56 (by decide) ?_
          exact rd_ret hQ S hr hlk rfl dX2_walk_57
      · refine lv_aload_n S.1 S.2.1 dX2_walk_26 rfl (lv_at hl 0 rfl) ?_
        refine lv_iconst (v := nI 0) S.1 S.2.1 dX2_walk_27 (by decide) ?_
        refine lv_iload_n S.1 S.2.1 dX2_walk_28 rfl (lv_at hl 1 rfl) ?_
        refine rdV S cv_RX2_40 (c_X2_isSo (k := 0) (x := x) (by decide) hV) hK hN hP (md_rv hK hP) ⟨Nat.le_of_ble_eq_true rfl, Nat.le_of_ble_eq_true rfl⟩ ⟨Nat.zero_le _, Nat.zero_le _⟩ rfl hl.1 rfl (Nat.le_of_ble_eq_true rfl) dX2_walk_29 ?_
        refine lv_goto (tgt := 51) S.1 S.2.1 dX2_walk_32 (by decide) ?_
        refine lv_istore_n (lv' := [(2, .int (bI (soM N cn P M 0 x))), (0, .ref (b 0)), (1, .int x)]) S.1 S.2.1 dX2_walk_51 rfl hl (by decide) rfl (fun ls hl => ?_)
        refine lv_iload_n S.1 S.2.1 dX2_walk_52 rfl (lv_at hl 0 rfl) ?_
        refine lv_if_ne (tgt := 58) S.1 S.2.1 dX2_walk_53 (by decide) (fun h53 => ?_) (fun h53 => ?_)
        · have h53 : (soM N cn P M 0 x) = true := bI_t h53
          exact absurd hb (by rw [waM_t h14 (len64 hp h6) (Or.inl ⟨h23, h53⟩)]; decide)
        · have h53 : (soM N cn P M 0 x) = false := bI_f h53
          refine lv_iconst (v := -1) S.1 S.2.1 dX2_walk_56 (by decide) ?_
          exact rd_ret hQ S hr hlk rfl dX2_walk_57
    · have h14 : (stB N x) = false := bI_f h14
      refine lv_iconst (v := -1) S.1 S.2.1 dX2_walk_17 (by decide) ?_
      exact rd_ret hQ S hr hlk rfl dX2_walk_18
set_option maxHeartbeats 4000000 in
set_option maxRecDepth 100000 in
theorem c_X2_walk_t {l : Launch} {D : va_G} {cI cL : ClassId} {b : Nat → Nat} {N len : Nat} {cn : Nat → Nat} {P M pth dep : Nat → Int32} {x : Int32} (hb : waM N len cn P M pth x = true)  (hV : RInv N cn) : MetW l yX2_walk cX2_walk 3 (some .int) 2 [.ref (b 0), .int x] D cI cL (MDw cI b N len cn P M pth dep) (some (.int (nI (len + 1)))) (MDw cI b N (len + 1) cn P M (upd pth len x) dep) := by
  refine MetW.mk (by decide) (Nat.le_of_ble_eq_true rfl) ?_
  intro p e s m args below meth c Q A hQ S hr hlk hN hK hP hD hS ls hl
  have S : CallFix p m c cX2_walk 3 s args wt RX2 := S
  have hl : lv_has ls 3 [(0, .ref (b 0)), (1, .int x)] := hl
  obtain ⟨hs, hp, hc⟩ := waM_e hb
  refine lv_aload_n S.1 S.2.1 dX2_walk_0 rfl (lv_at hl 0 rfl) ?_
  refine g2_length S hK hP dX2_walk_1 ?_
  refine lv_bipush (v := nI 64) S.1 S.2.1 dX2_walk_4 (by decide) ?_
  refine lv_icmp_eq (tgt := 17) S.1 S.2.1 dX2_walk_6 (by decide) (fun hh => absurd hh (fun q => absurd (eq_n (by omega) (by decide) q) (by omega))) (fun _ => ?_)
  refine lv_aload_n S.1 S.2.1 dX2_walk_9 rfl (lv_at hl 0 rfl) ?_
  refine lv_iload_n S.1 S.2.1 dX2_walk_10 rfl (lv_at hl 1 rfl) ?_
  refine rdV S cv_RX2_44 (c_X2_isState (x := x) hV) hK hN hP (md_rv hK hP) ⟨Nat.le_of_ble_eq_true rfl, Nat.le_of_ble_eq_true rfl⟩ ⟨Nat.zero_le _, Nat.zero_le _⟩ rfl hl.1 rfl (Nat.le_of_ble_eq_true rfl) dX2_walk_11 ?_
  refine lv_if_ne (tgt := 19) S.1 S.2.1 dX2_walk_14 (by decide) (fun _ => ?_) (fun hh => absurd hh (by rw [hs]; decide))
  refine lv_aload_n S.1 S.2.1 dX2_walk_19 rfl (lv_at hl 0 rfl) ?_
  refine g2_length S hK hP dX2_walk_20 ?_
  refine lv_if_ne (tgt := 35) S.1 S.2.1 dX2_walk_23 (by decide) (fun h23 => ?_) (fun h23 => ?_)
  · refine lv_aload_n S.1 S.2.1 dX2_walk_35 rfl (lv_at hl 0 rfl) ?_
    refine lv_aload_n S.1 S.2.1 dX2_walk_36 rfl (lv_at hl 0 rfl) ?_
    refine g2_path S hK hP dX2_walk_37 ?_
    refine lv_aload_n S.1 S.2.1 dX2_walk_40 rfl (lv_at hl 0 rfl) ?_
    refine g2_length S hK hP dX2_walk_41 ?_
    refine lv_iconst (v := nI 1) S.1 S.2.1 dX2_walk_44 (by decide) ?_
    refine lv_isub S.1 S.2.1 dX2_walk_45 ?_
    refine tp (y := nI (len - 1)) (pk_sub (len_ne h23)) ?_
    refine a2_path (by have := len_ne h23; omega) S hK hP dX2_walk_46 ?_
    refine lv_iload_n S.1 S.2.1 dX2_walk_47 rfl (lv_at hl 1 rfl) ?_
    refine rdV S cv_RX2_47 (c_X2_leads (f := pth ((len - 1))) (t := x) hV) hK hN hP (md_rv hK hP) ⟨Nat.le_of_ble_eq_true rfl, Nat.le_of_ble_eq_true rfl⟩ ⟨Nat.zero_le _, Nat.zero_le _⟩ rfl hl.1 rfl (Nat.le_of_ble_eq_true rfl) dX2_walk_48 ?_
    refine lv_istore_n (lv' := [(2, .int (bI (goM N cn P M (pth ((len - 1))) x))), (0, .ref (b 0)), (1, .int x)]) S.1 S.2.1 dX2_walk_51 rfl hl (by decide) rfl (fun ls hl => ?_)
    refine lv_iload_n S.1 S.2.1 dX2_walk_52 rfl (lv_at hl 0 rfl) ?_
    refine lv_if_ne (tgt := 58) S.1 S.2.1 dX2_walk_53 (by decide) (fun _ => ?_) (fun hh => absurd hh (by rw [hc.2 h23]; decide))
    refine lv_aload_n S.1 S.2.1 dX2_walk_58 rfl (lv_at hl 1 rfl) ?_
    refine g2_path S hK hP dX2_walk_59 ?_
    refine lv_aload_n S.1 S.2.1 dX2_walk_62 rfl (lv_at hl 1 rfl) ?_
    refine g2_length S hK hP dX2_walk_63 ?_
    refine lv_iload_n S.1 S.2.1 dX2_walk_66 rfl (lv_at hl 2 rfl) ?_
    refine s2_path (x := x) hp S hK hP hD hS dX2_walk_67 (fun H locs hP hD hS => ?_)
    refine lv_aload_n S.1 S.2.1 dX2_walk_68 rfl (lv_at hl 1 rfl) ?_
    refine lv_dup S.1 S.2.1 dX2_walk_69 rfl ?_
    refine g2_length S hK hP dX2_walk_70 ?_
    refine lv_iconst (v := nI 1) S.1 S.2.1 dX2_walk_73 (by decide) ?_
    refine lv_iadd S.1 S.2.1 dX2_walk_74 ?_
    refine tp (y := nI (len + 1)) (nI_1 _) ?_
    refine p2_length (x := (len + 1)) S hK hP hD hS dX2_walk_75 (fun H locs hP hD hS => ?_)
    refine lv_aload_n S.1 S.2.1 dX2_walk_78 rfl (lv_at hl 1 rfl) ?_
    refine g2_length S hK hP dX2_walk_79 ?_
    exact wr_ret hQ S hr hlk hP hS rfl rfl dX2_walk_82
  · refine lv_aload_n S.1 S.2.1 dX2_walk_26 rfl (lv_at hl 0 rfl) ?_
    refine lv_iconst (v := nI 0) S.1 S.2.1 dX2_walk_27 (by decide) ?_
    refine lv_iload_n S.1 S.2.1 dX2_walk_28 rfl (lv_at hl 1 rfl) ?_
    refine rdV S cv_RX2_40 (c_X2_isSo (k := 0) (x := x) (by decide) hV) hK hN hP (md_rv hK hP) ⟨Nat.le_of_ble_eq_true rfl, Nat.le_of_ble_eq_true rfl⟩ ⟨Nat.zero_le _, Nat.zero_le _⟩ rfl hl.1 rfl (Nat.le_of_ble_eq_true rfl) dX2_walk_29 ?_
    refine lv_goto (tgt := 51) S.1 S.2.1 dX2_walk_32 (by decide) ?_
    refine lv_istore_n (lv' := [(2, .int (bI (soM N cn P M 0 x))), (0, .ref (b 0)), (1, .int x)]) S.1 S.2.1 dX2_walk_51 rfl hl (by decide) rfl (fun ls hl => ?_)
    refine lv_iload_n S.1 S.2.1 dX2_walk_52 rfl (lv_at hl 0 rfl) ?_
    refine lv_if_ne (tgt := 58) S.1 S.2.1 dX2_walk_53 (by decide) (fun _ => ?_) (fun hh => absurd hh (by rw [hc.1 h23]; decide))
    refine lv_aload_n S.1 S.2.1 dX2_walk_58 rfl (lv_at hl 1 rfl) ?_
    refine g2_path S hK hP dX2_walk_59 ?_
    refine lv_aload_n S.1 S.2.1 dX2_walk_62 rfl (lv_at hl 1 rfl) ?_
    refine g2_length S hK hP dX2_walk_63 ?_
    refine lv_iload_n S.1 S.2.1 dX2_walk_66 rfl (lv_at hl 2 rfl) ?_
    refine s2_path (x := x) hp S hK hP hD hS dX2_walk_67 (fun H locs hP hD hS => ?_)
    refine lv_aload_n S.1 S.2.1 dX2_walk_68 rfl (lv_at hl 1 rfl) ?_
    refine lv_dup S.1 S.2.1 dX2_walk_69 rfl ?_
    refine g2_length S hK hP dX2_walk_70 ?_
    refine lv_iconst (v := nI 1) S.1 S.2.1 dX2_walk_73 (by decide) ?_
    refine lv_iadd S.1 S.2.1 dX2_walk_74 ?_
    refine tp (y := nI (len + 1)) (nI_1 _) ?_
    refine p2_length (x := (len + 1)) S hK hP hD hS dX2_walk_75 (fun H locs hP hD hS => ?_)
    refine lv_aload_n S.1 S.2.1 dX2_walk_78 rfl (lv_at hl 1 rfl) ?_
    refine g2_length S hK hP dX2_walk_79 ?_
    exact wr_ret hQ S hr hlk hP hS rfl rfl dX2_walk_82
end
section
/-! the constructors -/
def rmC (f c s : Nat) : Room := { frames := f, cells := c, slots := s, locals := 30 * f }
theorem cA_eq {D : va_G} {cI cL cA : ClassId} {s : State} (h : va_K D classes (tyl cI cL ++ [(cA, .int)]) s) : cA = cI := by
  have h0 : s.vm.findClass ("[" ++ FieldType.int.toString) = some cI := (h.2 0 (cI, .int) rfl).2
  have h2 : s.vm.findClass ("[" ++ FieldType.int.toString) = some cA := (h.2 2 (cA, .int) rfl).2
  exact Option.some.inj (h2.symm.trans h0)
theorem cL_eq {D : va_G} {cI cL cA : ClassId} {s : State} (h : va_K D classes (tyl cI cL ++ [(cA, .object RX0)]) s) : cA = cL := by
  obtain ⟨_, _, _, _, _, h0⟩ := (h.2 1 (cL, .object RX0) rfl).2
  obtain ⟨_, _, _, _, _, h2⟩ := (h.2 2 (cA, .object RX0) rfl).2
  exact Option.some.inj (h2.symm.trans h0)
theorem arrV_cg {c : ClassId} {n : Nat} {f g : Nat → Value} (h : ∀ j, j < n → f j = g j) : arrV c n f = arrV c n g := by
  unfold arrV
  congr 1
  congr 1
  funext j
  exact h j.val j.isLt
/-- an array of references: only its own places matter -/
theorem P_refs {D : va_G} {w1 w2 : va_W} {q n : Nat} {c : ClassId} {f g : Nat → Option Nat} {H : Heap} (h : va_P D classes (w1 ++ (q, .inl (c, n, .inr (.inr (.inr (.inr f))))) :: w2) H) (e : ∀ j, j < n → f j = g j) : va_P D classes (w1 ++ (q, .inl (c, n, .inr (.inr (.inr (.inr g))))) :: w2) H := by
  intro k x hk
  by_cases hlt : k < w1.length
  · rw [List.getElem?_append_left hlt] at hk
    exact h k x (by rw [List.getElem?_append_left hlt]; exact hk)
  · rw [List.getElem?_append_right (by omega)] at hk
    cases hd : k - w1.length with
    | zero =>
      rw [hd] at hk
      cases hk
      have h1 := h k (q, .inl (c, n, .inr (.inr (.inr (.inr f))))) (by rw [List.getElem?_append_right (by omega), hd]; rfl)
      have h2 : H[q]? = some (arrV c n (fun j => va_rf (f j))) := h1
      show H[q]? = some (arrV c n (fun j => va_rf (g j)))
      rw [h2]
      exact congrArg some (arrV_cg fun j hj => by rw [e j hj])
    | succ i =>
      rw [hd] at hk
      exact h k x (by rw [List.getElem?_append_right (by omega), hd]; exact hk)
def w3 (cI : ClassId) (h0 q1 q2 : Nat) : va_W := [(h0, .inr (0, [.ref q1, .ref q2, .int 0])), (q1, .inl (cI, 24, .inl (fun _ => 0))), (q2, .inl (cI, 24, .inl (fun _ => 0)))]
abbrev PC (as : List Value) (D : va_G) (cI cL : ClassId) (w : va_W) (sz : Nat) : Array Value → State → Prop := va_Pc as (fun U => U.heap.size = sz ∧ RI D cI cL w U ∧ va_D (fun _ => True) w)
theorem PC_blind {as : List Value} {D : va_G} {cI cL : ClassId} {w : va_W} {sz : Nat} : FrameBlind (PC as D cI cL w sz) := fun a U g mk q => ⟨q.1, q.2.1, ⟨q.2.2.1.1, va_K.moved (u := U) (U := U.calling g mk a) (Vm.Alike.refl U.vm) q.2.2.1.2.1, q.2.2.1.2.2.call⟩, q.2.2.2⟩
theorem PC_at {as : List Value} {D : va_G} {cI cL : ClassId} {w : va_W} {s : State} {H : Heap} {B : Nat → Prop} (hP : va_P D classes w H) (hK : va_K D classes (tyl cI cL) s) (hN : NS s) (hD : va_D B w) : ∀ U : State, U.heap = H → s.WarmedH U.vm → PC as D cI cL w H.size as.toArray U := fun U hU hW => ⟨rfl, by rw [hU], ⟨by rw [hU]; exact hP, va_K.moved hW.alike hK, hN.warm hW⟩, hD.weaken (fun _ _ _ _ => trivial)⟩
set_option maxHeartbeats 4000000 in
set_option maxRecDepth 100000 in
theorem c_X0_init {l : Launch} {D : va_G} {cI cL : ClassId} (h0 sz : Nat) : Met l yX0_init (.code yX0_init cX0_init 1 none :: wt) (rmC 1 2 48) (PC [.ref h0] D cI cL [(h0, .inr (0, [.null, .null, .int 0]))] sz) (va_Qv (fun _ : Nat × Nat => True) (fun u t => va_P D classes (w3 cI h0 u.1 u.2) t.heap ∧ va_D (va_A [(h0, .inr (0, [.null, .null, .int 0]))] sz) (w3 cI h0 u.1 u.2)) (va_A [(h0, .inr (0, [.null, .null, .int 0]))] sz)) 2 48 (va_A [(h0, .inr (0, [.null, .null, .int 0]))] sz) := by
  refine Met.ofW (cc := cX0_init) (maxL := 1) (ret := none) (by decide) rfl ?_
  intro p e s m args below meth c s₁ B hml hv
  obtain ⟨rfl, hsz, ⟨hP, hK, hN⟩, hD0⟩ := hv
  have hts := atoms_spec (ws := .code yX0_init cX0_init 1 none :: wt) B.pre
  have S : CallFix p m c cX0_init 1 s _ wt RX0 := ⟨B.exec, B.bytes, hml, findClass_of_methodNamed B.named, fun w h => hts w (List.mem_cons_of_mem _ h)⟩
  have hr := B.returns
  have hlk := B.notSynchronized
  have hin : meth.name = "<init>" := (name_of_methodNamed B.named B.method).1
  subst hsz
  have hD := hD0.self (sz := s.heap.size)
  generalize hAe : va_A [(h0, .inr (0, [.null, .null, .int 0]))] s.heap.size = A at hD ⊢
  have hA : ∀ q : Nat, s.heap.size ≤ q → A q := fun q h => by rw [← hAe]; exact Or.inr h
  have hS : va_S A s.heap s.heap [] := va_S.rf
  have hl := lv_entry ([.ref h0]) (n := 1) (Nat.le_of_ble_eq_true rfl)
  rw [lg_entry_eq]
  generalize (lg_sl ([.ref h0]) ++ List.replicate (1 - (lg_sl ([.ref h0])).length) Slot.unset).toArray = ls at hl ⊢
  have hl : lv_has ls 1 [(0, .ref h0)] := hl
  show W p l e (rmC 1 2 48) s m _ below meth c s.heap [] 0 0 _ _
  refine lv_aload_n S.1 S.2.1 dX0_init_0 rfl (lv_at hl 0 rfl) ?_
  refine W.objInit S.1 S.2.1 S.2.2.2.1 (S.2.2.2.2 _ k_18) (S.2.2.2.2 _ k_10) (S.2.2.2.2 _ k_11) rfl (by rw [S.2.2.1]; exact hl.1) rfl dX0_init_1 (Nat.le_of_ble_eq_true rfl) (Nat.le_of_ble_eq_true rfl) ?_
  refine W.eq (g2 := F0 m 4 ls []) rfl ?_
  refine lv_aload_n S.1 S.2.1 dX0_init_4 rfl (lv_at hl 0 rfl) ?_
  refine lv_bipush (v := nI 24) S.1 S.2.1 dX0_init_5 (by decide) ?_
  refine va_newa (D := D) (atype := .int) (a0 := (24, .inl (fun _ => 0))) (ty := .int) (n := nI 24) (N' := 24) S.1 S.2.1 (S.2.2.2.2 _ k_30) rfl hK hP hD hS hA (fun _ => rfl) (by decide) (by decide) (by decide) (Nat.le_of_ble_eq_true rfl) (Nat.le_of_ble_eq_true rfl) dX0_init_7 (fun q1 cA H hK1 hP hD hS => ?_)
  obtain rfl := (cA_eq hK1).symm
  have hP : va_P D classes [(h0, .inr (0, [.null, .null, .int 0])), (q1, .inl (cI, 24, .inl (fun _ => 0)))] H := hP
  have hD : va_D A [(h0, .inr (0, [.null, .null, .int 0])), (q1, .inl (cI, 24, .inl (fun _ => 0)))] := hD
  refine W.widen (k := 1) (n := 24) (Nat.le_of_ble_eq_true rfl) (Nat.le_of_ble_eq_true rfl) ?_
  refine va_putF (D := D) (ci := 0) (v := .ref q1) (ty := (.array .int)) (C := RX0) (T := TX0) (N := 3) S.1 S.2.1 S.2.2.2.2 inX0 tyX0 tyX0_ok nmX0 S.2.2.2.1 hK hP hD hS 0 rfl rfl 0 (by decide) (S.2.2.2.2 _ k_19) (fun _ h9 => h9) rfl hin rfl (by decide +kernel) rfl rfl (Nat.le_of_ble_eq_true rfl) dX0_init_9 (fun H locs hP hD hS => ?_)
  have hP : va_P D classes [(h0, .inr (0, [.ref q1, .null, .int 0])), (q1, .inl (cI, 24, .inl (fun _ => 0)))] H := hP
  have hD : va_D A [(h0, .inr (0, [.ref q1, .null, .int 0])), (q1, .inl (cI, 24, .inl (fun _ => 0)))] := hD
  refine lv_aload_n S.1 S.2.1 dX0_init_12 rfl (lv_at hl 0 rfl) ?_
  refine lv_bipush (v := nI 24) S.1 S.2.1 dX0_init_13 (by decide) ?_
  refine va_newa (D := D) (atype := .int) (a0 := (24, .inl (fun _ => 0))) (ty := .int) (n := nI 24) (N' := 24) S.1 S.2.1 (S.2.2.2.2 _ k_30) rfl hK hP hD hS hA (fun _ => rfl) (by decide) (by decide) (by decide) (Nat.le_of_ble_eq_true rfl) (Nat.le_of_ble_eq_true rfl) dX0_init_15 (fun q2 cA H hK1 hP hD hS => ?_)
  obtain rfl := (cA_eq hK1).symm
  have hP : va_P D classes [(h0, .inr (0, [.ref q1, .null, .int 0])), (q1, .inl (cI, 24, .inl (fun _ => 0))), (q2, .inl (cI, 24, .inl (fun _ => 0)))] H := hP
  have hD : va_D A [(h0, .inr (0, [.ref q1, .null, .int 0])), (q1, .inl (cI, 24, .inl (fun _ => 0))), (q2, .inl (cI, 24, .inl (fun _ => 0)))] := hD
  refine W.widen (k := 2) (n := 48) (Nat.le_of_ble_eq_true rfl) (Nat.le_of_ble_eq_true rfl) ?_
  refine va_putF (D := D) (ci := 0) (v := .ref q2) (ty := (.array .int)) (C := RX0) (T := TX0) (N := 3) S.1 S.2.1 S.2.2.2.2 inX0 tyX0 tyX0_ok nmX0 S.2.2.2.1 hK hP hD hS 0 rfl rfl 1 (by decide) (S.2.2.2.2 _ k_20) (fun _ h9 => h9) rfl hin rfl (by decide +kernel) rfl rfl (Nat.le_of_ble_eq_true rfl) dX0_init_17 (fun H locs hP hD hS => ?_)
  have hP : va_P D classes [(h0, .inr (0, [.ref q1, .ref q2, .int 0])), (q1, .inl (cI, 24, .inl (fun _ => 0))), (q2, .inl (cI, 24, .inl (fun _ => 0)))] H := hP
  have hD : va_D A [(h0, .inr (0, [.ref q1, .ref q2, .int 0])), (q1, .inl (cI, 24, .inl (fun _ => 0))), (q2, .inl (cI, 24, .inl (fun _ => 0)))] := hD
  refine lv_aload_n S.1 S.2.1 dX0_init_20 rfl (lv_at hl 0 rfl) ?_
  refine lv_iconst (v := nI 0) S.1 S.2.1 dX0_init_21 (by decide) ?_
  refine tp (y := 0) (by decide) ?_
  refine va_put (D := D) (ci := 0) (v := .int 0) (ty := .int) (C := RX0) (T := TX0) (N := 3) S.1 S.2.1 S.2.2.2.2 inX0 tyX0 tyX0_ok nmX0 S.2.2.2.1 hK hP hD hS 0 rfl rfl 2 (by decide) (S.2.2.2.2 _ k_21) (fun _ h9 => h9) rfl (by decide +kernel) rfl rfl (Nat.le_of_ble_eq_true rfl) dX0_init_22 (fun H locs hP hD hS => ?_)
  have hP : va_P D classes [(h0, .inr (0, [.ref q1, .ref q2, .int 0])), (q1, .inl (cI, 24, .inl (fun _ => 0))), (q2, .inl (cI, 24, .inl (fun _ => 0)))] H := hP
  have hD : va_D A [(h0, .inr (0, [.ref q1, .ref q2, .int 0])), (q1, .inl (cI, 24, .inl (fun _ => 0))), (q2, .inl (cI, 24, .inl (fun _ => 0)))] := hD
  exact W.vret S.1 S.2.1 hr (fun t ht hW => ⟨⟨(q1, q2), rfl, trivial, by rw [ht]; exact hP, hD⟩, hS.F ht⟩) hS.2.2 dX0_init_25
set_option maxHeartbeats 4000000 in
set_option maxRecDepth 100000 in
theorem c_X2_init {l : Launch} {D : va_G} {cI cL : ClassId} (h0 sz : Nat) : Met l yX2_init (.code yX2_init cX2_init 1 none :: wt) (rmC 1 5 324) (PC [.ref h0] D cI cL [(h0, .inr (2, [.int 0, .null, .null, .null, .null, .int 0, .null]))] sz) (va_Qv (fun _ : Nat → Nat => True) (fun u t => u 0 = h0 ∧ va_P D classes (MDw cI u 1 0 (fun _ => 0) (fun _ => 0) (fun _ => 0) (fun _ => 0) (fun _ => 0)) t.heap ∧ va_D (va_A [(h0, .inr (2, [.int 0, .null, .null, .null, .null, .int 0, .null]))] sz) (MDw cI u 1 0 (fun _ => 0) (fun _ => 0) (fun _ => 0) (fun _ => 0) (fun _ => 0))) (va_A [(h0, .inr (2, [.int 0, .null, .null, .null, .null, .int 0, .null]))] sz)) 5 324 (va_A [(h0, .inr (2, [.int 0, .null, .null, .null, .null, .int 0, .null]))] sz) := by
  refine Met.ofW (cc := cX2_init) (maxL := 1) (ret := none) (by decide) rfl ?_
  intro p e s m args below meth c s₁ B hml hv
  obtain ⟨rfl, hsz, ⟨hP, hK, hN⟩, hD0⟩ := hv
  have hts := atoms_spec (ws := .code yX2_init cX2_init 1 none :: wt) B.pre
  have S : CallFix p m c cX2_init 1 s _ wt RX2 := ⟨B.exec, B.bytes, hml, findClass_of_methodNamed B.named, fun w h => hts w (List.mem_cons_of_mem _ h)⟩
  have hr := B.returns
  have hlk := B.notSynchronized
  have hin : meth.name = "<init>" := (name_of_methodNamed B.named B.method).1
  subst hsz
  have hD := hD0.self (sz := s.heap.size)
  generalize hAe : va_A [(h0, .inr (2, [.int 0, .null, .null, .null, .null, .int 0, .null]))] s.heap.size = A at hD ⊢
  have hA : ∀ q : Nat, s.heap.size ≤ q → A q := fun q h => by rw [← hAe]; exact Or.inr h
  have hS : va_S A s.heap s.heap [] := va_S.rf
  have hl := lv_entry ([.ref h0]) (n := 1) (Nat.le_of_ble_eq_true rfl)
  rw [lg_entry_eq]
  generalize (lg_sl ([.ref h0]) ++ List.replicate (1 - (lg_sl ([.ref h0])).length) Slot.unset).toArray = ls at hl ⊢
  have hl : lv_has ls 1 [(0, .ref h0)] := hl
  show W p l e (rmC 1 5 324) s m _ below meth c s.heap [] 0 0 _ _
  refine lv_aload_n S.1 S.2.1 dX2_init_0 rfl (lv_at hl 0 rfl) ?_
  refine W.objInit S.1 S.2.1 S.2.2.2.1 (S.2.2.2.2 _ k_193) (S.2.2.2.2 _ k_10) (S.2.2.2.2 _ k_11) rfl (by rw [S.2.2.1]; exact hl.1) rfl dX2_init_1 (Nat.le_of_ble_eq_true rfl) (Nat.le_of_ble_eq_true rfl) ?_
  refine W.eq (g2 := F0 m 4 ls []) rfl ?_
  refine lv_aload_n S.1 S.2.1 dX2_init_4 rfl (lv_at hl 0 rfl) ?_
  refine lv_iconst (v := nI 1) S.1 S.2.1 dX2_init_5 (by decide) ?_
  refine va_put (D := D) (ci := 2) (v := .int (nI 1)) (ty := .int) (C := RX2) (T := TX2) (N := 7) S.1 S.2.1 S.2.2.2.2 inX2 tyX2 tyX2_ok nmX2 S.2.2.2.1 hK hP hD hS 0 rfl rfl 0 (by decide) (S.2.2.2.2 _ k_194) (fun _ h9 => h9) rfl (by decide +kernel) rfl rfl (Nat.le_of_ble_eq_true rfl) dX2_init_6 (fun H locs hP hD hS => ?_)
  have hP : va_P D classes [(h0, .inr (2, [.int (nI 1), .null, .null, .null, .null, .int 0, .null]))] H := hP
  have hD : va_D A [(h0, .inr (2, [.int (nI 1), .null, .null, .null, .null, .int 0, .null]))] := hD
  refine lv_aload_n S.1 S.2.1 dX2_init_9 rfl (lv_at hl 0 rfl) ?_
  refine lv_iconst (v := nI 4) S.1 S.2.1 dX2_init_10 (by decide) ?_
  refine va_newa (D := D) (atype := .int) (a0 := (4, .inl (fun _ => 0))) (ty := .int) (n := nI 4) (N' := 4) S.1 S.2.1 (S.2.2.2.2 _ k_30) rfl hK hP hD hS hA (fun _ => rfl) (by decide) (by decide) (by decide) (Nat.le_of_ble_eq_true rfl) (Nat.le_of_ble_eq_true rfl) dX2_init_11 (fun q1 cA H hK1 hP hD hS => ?_)
  obtain rfl := (cA_eq hK1).symm
  have hP : va_P D classes [(h0, .inr (2, [.int (nI 1), .null, .null, .null, .null, .int 0, .null])), (q1, .inl (cI, 4, .inl (fun _ => 0)))] H := hP
  have hD : va_D A [(h0, .inr (2, [.int (nI 1), .null, .null, .null, .null, .int 0, .null])), (q1, .inl (cI, 4, .inl (fun _ => 0)))] := hD
  refine W.widen (k := 1) (n := 4) (Nat.le_of_ble_eq_true rfl) (Nat.le_of_ble_eq_true rfl) ?_
  refine va_putF (D := D) (ci := 2) (v := .ref q1) (ty := (.array .int)) (C := RX2) (T := TX2) (N := 7) S.1 S.2.1 S.2.2.2.2 inX2 tyX2 tyX2_ok nmX2 S.2.2.2.1 hK hP hD hS 0 rfl rfl 1 (by decide) (S.2.2.2.2 _ k_195) (fun _ h9 => h9) rfl hin rfl (by decide +kernel) rfl rfl (Nat.le_of_ble_eq_true rfl) dX2_init_13 (fun H locs hP hD hS => ?_)
  have hP : va_P D classes [(h0, .inr (2, [.int (nI 1), .ref q1, .null, .null, .null, .int 0, .null])), (q1, .inl (cI, 4, .inl (fun _ => 0)))] H := hP
  have hD : va_D A [(h0, .inr (2, [.int (nI 1), .ref q1, .null, .null, .null, .int 0, .null])), (q1, .inl (cI, 4, .inl (fun _ => 0)))] := hD
  refine lv_aload_n S.1 S.2.1 dX2_init_16 rfl (lv_at hl 0 rfl) ?_
  refine lv_bipush (v := nI 96) S.1 S.2.1 dX2_init_17 (by decide) ?_
  refine va_newa (D := D) (atype := .int) (a0 := (96, .inl (fun _ => 0))) (ty := .int) (n := nI 96) (N' := 96) S.1 S.2.1 (S.2.2.2.2 _ k_30) rfl hK hP hD hS hA (fun _ => rfl) (by decide) (by decide) (by decide) (Nat.le_of_ble_eq_true rfl) (Nat.le_of_ble_eq_true rfl) dX2_init_19 (fun q2 cA H hK1 hP hD hS => ?_)
  obtain rfl := (cA_eq hK1).symm
  have hP : va_P D classes [(h0, .inr (2, [.int (nI 1), .ref q1, .null, .null, .null, .int 0, .null])), (q1, .inl (cI, 4, .inl (fun _ => 0))), (q2, .inl (cI, 96, .inl (fun _ => 0)))] H := hP
  have hD : va_D A [(h0, .inr (2, [.int (nI 1), .ref q1, .null, .null, .null, .int 0, .null])), (q1, .inl (cI, 4, .inl (fun _ => 0))), (q2, .inl (cI, 96, .inl (fun _ => 0)))] := hD
  refine W.widen (k := 2) (n := 100) (Nat.le_of_ble_eq_true rfl) (Nat.le_of_ble_eq_true rfl) ?_
  refine va_putF (D := D) (ci := 2) (v := .ref q2) (ty := (.array .int)) (C := RX2) (T := TX2) (N := 7) S.1 S.2.1 S.2.2.2.2 inX2 tyX2 tyX2_ok nmX2 S.2.2.2.1 hK hP hD hS 0 rfl rfl 2 (by decide) (S.2.2.2.2 _ k_196) (fun _ h9 => h9) rfl hin rfl (by decide +kernel) rfl rfl (Nat.le_of_ble_eq_true rfl) dX2_init_21 (fun H locs hP hD hS => ?_)
  have hP : va_P D classes [(h0, .inr (2, [.int (nI 1), .ref q1, .ref q2, .null, .null, .int 0, .null])), (q1, .inl (cI, 4, .inl (fun _ => 0))), (q2, .inl (cI, 96, .inl (fun _ => 0)))] H := hP
  have hD : va_D A [(h0, .inr (2, [.int (nI 1), .ref q1, .ref q2, .null, .null, .int 0, .null])), (q1, .inl (cI, 4, .inl (fun _ => 0))), (q2, .inl (cI, 96, .inl (fun _ => 0)))] := hD
  refine lv_aload_n S.1 S.2.1 dX2_init_24 rfl (lv_at hl 0 rfl) ?_
  refine lv_bipush (v := nI 96) S.1 S.2.1 dX2_init_25 (by decide) ?_
  refine va_newa (D := D) (atype := .int) (a0 := (96, .inl (fun _ => 0))) (ty := .int) (n := nI 96) (N' := 96) S.1 S.2.1 (S.2.2.2.2 _ k_30) rfl hK hP hD hS hA (fun _ => rfl) (by decide) (by decide) (by decide) (Nat.le_of_ble_eq_true rfl) (Nat.le_of_ble_eq_true rfl) dX2_init_27 (fun q3 cA H hK1 hP hD hS => ?_)
  obtain rfl := (cA_eq hK1).symm
  have hP : va_P D classes [(h0, .inr (2, [.int (nI 1), .ref q1, .ref q2, .null, .null, .int 0, .null])), (q1, .inl (cI, 4, .inl (fun _ => 0))), (q2, .inl (cI, 96, .inl (fun _ => 0))), (q3, .inl (cI, 96, .inl (fun _ => 0)))] H := hP
  have hD : va_D A [(h0, .inr (2, [.int (nI 1), .ref q1, .ref q2, .null, .null, .int 0, .null])), (q1, .inl (cI, 4, .inl (fun _ => 0))), (q2, .inl (cI, 96, .inl (fun _ => 0))), (q3, .inl (cI, 96, .inl (fun _ => 0)))] := hD
  refine W.widen (k := 3) (n := 196) (Nat.le_of_ble_eq_true rfl) (Nat.le_of_ble_eq_true rfl) ?_
  refine va_putF (D := D) (ci := 2) (v := .ref q3) (ty := (.array .int)) (C := RX2) (T := TX2) (N := 7) S.1 S.2.1 S.2.2.2.2 inX2 tyX2 tyX2_ok nmX2 S.2.2.2.1 hK hP hD hS 0 rfl rfl 3 (by decide) (S.2.2.2.2 _ k_197) (fun _ h9 => h9) rfl hin rfl (by decide +kernel) rfl rfl (Nat.le_of_ble_eq_true rfl) dX2_init_29 (fun H locs hP hD hS => ?_)
  have hP : va_P D classes [(h0, .inr (2, [.int (nI 1), .ref q1, .ref q2, .ref q3, .null, .int 0, .null])), (q1, .inl (cI, 4, .inl (fun _ => 0))), (q2, .inl (cI, 96, .inl (fun _ => 0))), (q3, .inl (cI, 96, .inl (fun _ => 0)))] H := hP
  have hD : va_D A [(h0, .inr (2, [.int (nI 1), .ref q1, .ref q2, .ref q3, .null, .int 0, .null])), (q1, .inl (cI, 4, .inl (fun _ => 0))), (q2, .inl (cI, 96, .inl (fun _ => 0))), (q3, .inl (cI, 96, .inl (fun _ => 0)))] := hD
  refine lv_aload_n S.1 S.2.1 dX2_init_32 rfl (lv_at hl 0 rfl) ?_
  refine lv_bipush (v := nI 64) S.1 S.2.1 dX2_init_33 (by decide) ?_
  refine va_newa (D := D) (atype := .int) (a0 := (64, .inl (fun _ => 0))) (ty := .int) (n := nI 64) (N' := 64) S.1 S.2.1 (S.2.2.2.2 _ k_30) rfl hK hP hD hS hA (fun _ => rfl) (by decide) (by decide) (by decide) (Nat.le_of_ble_eq_true rfl) (Nat.le_of_ble_eq_true rfl) dX2_init_35 (fun q4 cA H hK1 hP hD hS => ?_)
  obtain rfl := (cA_eq hK1).symm
  have hP : va_P D classes [(h0, .inr (2, [.int (nI 1), .ref q1, .ref q2, .ref q3, .null, .int 0, .null])), (q1, .inl (cI, 4, .inl (fun _ => 0))), (q2, .inl (cI, 96, .inl (fun _ => 0))), (q3, .inl (cI, 96, .inl (fun _ => 0))), (q4, .inl (cI, 64, .inl (fun _ => 0)))] H := hP
  have hD : va_D A [(h0, .inr (2, [.int (nI 1), .ref q1, .ref q2, .ref q3, .null, .int 0, .null])), (q1, .inl (cI, 4, .inl (fun _ => 0))), (q2, .inl (cI, 96, .inl (fun _ => 0))), (q3, .inl (cI, 96, .inl (fun _ => 0))), (q4, .inl (cI, 64, .inl (fun _ => 0)))] := hD
  refine W.widen (k := 4) (n := 260) (Nat.le_of_ble_eq_true rfl) (Nat.le_of_ble_eq_true rfl) ?_
  refine va_putF (D := D) (ci := 2) (v := .ref q4) (ty := (.array .int)) (C := RX2) (T := TX2) (N := 7) S.1 S.2.1 S.2.2.2.2 inX2 tyX2 tyX2_ok nmX2 S.2.2.2.1 hK hP hD hS 0 rfl rfl 4 (by decide) (S.2.2.2.2 _ k_198) (fun _ h9 => h9) rfl hin rfl (by decide +kernel) rfl rfl (Nat.le_of_ble_eq_true rfl) dX2_init_37 (fun H locs hP hD hS => ?_)
  have hP : va_P D classes [(h0, .inr (2, [.int (nI 1), .ref q1, .ref q2, .ref q3, .ref q4, .int 0, .null])), (q1, .inl (cI, 4, .inl (fun _ => 0))), (q2, .inl (cI, 96, .inl (fun _ => 0))), (q3, .inl (cI, 96, .inl (fun _ => 0))), (q4, .inl (cI, 64, .inl (fun _ => 0)))] H := hP
  have hD : va_D A [(h0, .inr (2, [.int (nI 1), .ref q1, .ref q2, .ref q3, .ref q4, .int 0, .null])), (q1, .inl (cI, 4, .inl (fun _ => 0))), (q2, .inl (cI, 96, .inl (fun _ => 0))), (q3, .inl (cI, 96, .inl (fun _ => 0))), (q4, .inl (cI, 64, .inl (fun _ => 0)))] := hD
  refine lv_aload_n S.1 S.2.1 dX2_init_40 rfl (lv_at hl 0 rfl) ?_
  refine lv_bipush (v := nI 64) S.1 S.2.1 dX2_init_41 (by decide) ?_
  refine va_newa (D := D) (atype := .int) (a0 := (64, .inl (fun _ => 0))) (ty := .int) (n := nI 64) (N' := 64) S.1 S.2.1 (S.2.2.2.2 _ k_30) rfl hK hP hD hS hA (fun _ => rfl) (by decide) (by decide) (by decide) (Nat.le_of_ble_eq_true rfl) (Nat.le_of_ble_eq_true rfl) dX2_init_43 (fun q5 cA H hK1 hP hD hS => ?_)
  obtain rfl := (cA_eq hK1).symm
  have hP : va_P D classes [(h0, .inr (2, [.int (nI 1), .ref q1, .ref q2, .ref q3, .ref q4, .int 0, .null])), (q1, .inl (cI, 4, .inl (fun _ => 0))), (q2, .inl (cI, 96, .inl (fun _ => 0))), (q3, .inl (cI, 96, .inl (fun _ => 0))), (q4, .inl (cI, 64, .inl (fun _ => 0))), (q5, .inl (cI, 64, .inl (fun _ => 0)))] H := hP
  have hD : va_D A [(h0, .inr (2, [.int (nI 1), .ref q1, .ref q2, .ref q3, .ref q4, .int 0, .null])), (q1, .inl (cI, 4, .inl (fun _ => 0))), (q2, .inl (cI, 96, .inl (fun _ => 0))), (q3, .inl (cI, 96, .inl (fun _ => 0))), (q4, .inl (cI, 64, .inl (fun _ => 0))), (q5, .inl (cI, 64, .inl (fun _ => 0)))] := hD
  refine W.widen (k := 5) (n := 324) (Nat.le_of_ble_eq_true rfl) (Nat.le_of_ble_eq_true rfl) ?_
  refine va_putF (D := D) (ci := 2) (v := .ref q5) (ty := (.array .int)) (C := RX2) (T := TX2) (N := 7) S.1 S.2.1 S.2.2.2.2 inX2 tyX2 tyX2_ok nmX2 S.2.2.2.1 hK hP hD hS 0 rfl rfl 6 (by decide) (S.2.2.2.2 _ k_200) (fun _ h9 => h9) rfl hin rfl (by decide +kernel) rfl rfl (Nat.le_of_ble_eq_true rfl) dX2_init_45 (fun H locs hP hD hS => ?_)
  have hP : va_P D classes [(h0, .inr (2, [.int (nI 1), .ref q1, .ref q2, .ref q3, .ref q4, .int 0, .ref q5])), (q1, .inl (cI, 4, .inl (fun _ => 0))), (q2, .inl (cI, 96, .inl (fun _ => 0))), (q3, .inl (cI, 96, .inl (fun _ => 0))), (q4, .inl (cI, 64, .inl (fun _ => 0))), (q5, .inl (cI, 64, .inl (fun _ => 0)))] H := hP
  have hD : va_D A [(h0, .inr (2, [.int (nI 1), .ref q1, .ref q2, .ref q3, .ref q4, .int 0, .ref q5])), (q1, .inl (cI, 4, .inl (fun _ => 0))), (q2, .inl (cI, 96, .inl (fun _ => 0))), (q3, .inl (cI, 96, .inl (fun _ => 0))), (q4, .inl (cI, 64, .inl (fun _ => 0))), (q5, .inl (cI, 64, .inl (fun _ => 0)))] := hD
  exact W.vret S.1 S.2.1 hr (fun t ht hW => ⟨⟨(fun k => [h0, q1, q2, q3, q4, q5].getD k 0), rfl, trivial, rfl, by rw [ht]; exact hP, hD⟩, hS.F ht⟩) hS.2.2 dX2_init_48
set_option maxHeartbeats 4000000 in
set_option maxRecDepth 100000 in
theorem c_X1_init {l : Launch} {D : va_G} {cI cL : ClassId} (h0 sz : Nat) : Met l yX1_init (.code yX1_init cX1_init 2 none :: wt) (rmC 2 14 272) (PC [.ref h0] D cI cL [(h0, .inr (1, [.null, .null, .int 0, .int 0, .int 0, .int 0]))] sz) (va_Qv (fun _ : Nat → Nat => True) (fun u t => u 0 = h0 ∧ va_P D classes (RPw cI cL u (fun _ => 0) false 1 0 0 (fun _ => 0) (fun _ _ => 0) (fun _ _ => 0)) t.heap ∧ va_D (va_A [(h0, .inr (1, [.null, .null, .int 0, .int 0, .int 0, .int 0]))] sz) (RPw cI cL u (fun _ => 0) false 1 0 0 (fun _ => 0) (fun _ _ => 0) (fun _ _ => 0))) (va_A [(h0, .inr (1, [.null, .null, .int 0, .int 0, .int 0, .int 0]))] sz)) 14 272 (va_A [(h0, .inr (1, [.null, .null, .int 0, .int 0, .int 0, .int 0]))] sz) := by
  refine Met.ofW (cc := cX1_init) (maxL := 2) (ret := none) (by decide) rfl ?_
  intro p e s m args below meth c s₁ B hml hv
  obtain ⟨rfl, hsz, ⟨hP, hK, hN⟩, hD0⟩ := hv
  have hts := atoms_spec (ws := .code yX1_init cX1_init 2 none :: wt) B.pre
  have S : CallFix p m c cX1_init 2 s _ wt RX1 := ⟨B.exec, B.bytes, hml, findClass_of_methodNamed B.named, fun w h => hts w (List.mem_cons_of_mem _ h)⟩
  have hr := B.returns
  have hlk := B.notSynchronized
  have hin : meth.name = "<init>" := (name_of_methodNamed B.named B.method).1
  subst hsz
  have hD := hD0.self (sz := s.heap.size)
  generalize hAe : va_A [(h0, .inr (1, [.null, .null, .int 0, .int 0, .int 0, .int 0]))] s.heap.size = A at hD ⊢
  have hA : ∀ q : Nat, s.heap.size ≤ q → A q := fun q h => by rw [← hAe]; exact Or.inr h
  have hS : va_S A s.heap s.heap [] := va_S.rf
  have hl := lv_entry ([.ref h0]) (n := 2) (Nat.le_of_ble_eq_true rfl)
  rw [lg_entry_eq]
  generalize (lg_sl ([.ref h0]) ++ List.replicate (2 - (lg_sl ([.ref h0])).length) Slot.unset).toArray = ls at hl ⊢
  have hl : lv_has ls 2 [(0, .ref h0)] := hl
  show W p l e (rmC 2 14 272) s m _ below meth c s.heap [] 0 0 _ _
  refine lv_aload_n S.1 S.2.1 dX1_init_0 rfl (lv_at hl 0 rfl) ?_
  refine W.objInit S.1 S.2.1 S.2.2.2.1 (S.2.2.2.2 _ k_9) (S.2.2.2.2 _ k_10) (S.2.2.2.2 _ k_11) rfl (by rw [S.2.2.1]; exact hl.1) rfl dX1_init_1 (Nat.le_of_ble_eq_true rfl) (Nat.le_of_ble_eq_true rfl) ?_
  refine W.eq (g2 := F0 m 4 ls []) rfl ?_
  refine lv_aload_n S.1 S.2.1 dX1_init_4 rfl (lv_at hl 0 rfl) ?_
  refine lv_iconst (v := nI 4) S.1 S.2.1 dX1_init_5 (by decide) ?_
  refine va_newq (D := D) (n := nI 4) (N' := 4) (C := RX0) S.1 S.2.1 S.2.2.2.1 (S.2.2.2.2 _ k_12) hN.2.2.2.2.2.2.2 hK hP hD hS hA (by decide) (by decide) (by decide) (Nat.le_of_ble_eq_true rfl) (Nat.le_of_ble_eq_true rfl) dX1_init_6 (fun qa cA H hK1 hP hD hS => ?_)
  obtain rfl := (cL_eq hK1).symm
  have hP : va_P D classes [(h0, .inr (1, [.null, .null, .int 0, .int 0, .int 0, .int 0])), (qa, .inl (cL, 4, .inr (.inr (.inr (.inr (fun _ => none))))))] H := hP
  have hD : va_D A [(h0, .inr (1, [.null, .null, .int 0, .int 0, .int 0, .int 0])), (qa, .inl (cL, 4, .inr (.inr (.inr (.inr (fun _ => none))))))] := hD
  refine W.widen (k := 1) (n := 4) (Nat.le_of_ble_eq_true rfl) (Nat.le_of_ble_eq_true rfl) ?_
  refine va_putF (D := D) (ci := 1) (v := .ref qa) (ty := (.array (.object "ReachProver$ClauseList"))) (C := RX1) (T := TX1) (N := 6) S.1 S.2.1 S.2.2.2.2 inX1 tyX1 tyX1_ok nmX1 S.2.2.2.1 hK hP hD hS 0 rfl rfl 0 (by decide) (S.2.2.2.2 _ k_31) (fun _ h9 => h9) rfl hin rfl (by decide +kernel) rfl rfl (Nat.le_of_ble_eq_true rfl) dX1_init_9 (fun H locs hP hD hS => ?_)
  have hP : va_P D classes [(h0, .inr (1, [.ref qa, .null, .int 0, .int 0, .int 0, .int 0])), (qa, .inl (cL, 4, .inr (.inr (.inr (.inr (fun _ => none))))))] H := hP
  have hD : va_D A [(h0, .inr (1, [.ref qa, .null, .int 0, .int 0, .int 0, .int 0])), (qa, .inl (cL, 4, .inr (.inr (.inr (.inr (fun _ => none))))))] := hD
  refine lv_iconst (v := nI 0) S.1 S.2.1 dX1_init_12 (by decide) ?_
  refine lv_istore_n (lv' := [(1, .int (nI 0)), (0, .ref h0)]) S.1 S.2.1 dX1_init_13 rfl hl (by decide) rfl (fun ls hl => ?_)
  refine lv_iload_n S.1 S.2.1 dX1_init_14 rfl (lv_at hl 0 rfl) ?_
  refine lv_iconst (v := nI 4) S.1 S.2.1 dX1_init_15 (by decide) ?_
  refine lv_icmp_ge (tgt := 38) S.1 S.2.1 dX1_init_16 (by decide) (fun hh => absurd hh (by decide)) (fun _ => ?_)
  refine lv_aload_n S.1 S.2.1 dX1_init_19 rfl (lv_at hl 1 rfl) ?_
  refine va_get (D := D) (ci := 1) (v := .ref qa) (C := RX1) (T := TX1) (N := 6) S.1 S.2.1 S.2.2.2.2 inX1 S.2.2.2.1 hK hP 0 rfl rfl 0 (by decide) (S.2.2.2.2 _ k_31) (fun _ h9 => h9) rfl dX1_init_20 ?_
  refine lv_iload_n S.1 S.2.1 dX1_init_23 rfl (lv_at hl 0 rfl) ?_
  refine va_new (D := D) (ci := 0) (fs := [.null, .null, .int 0]) (C := RX0) (T := TX0) (N := 3) S.1 S.2.1 S.2.2.2.2 inX0 tyX0 tyX0_ok S.2.2.2.1 (S.2.2.2.2 _ k_12) (S.2.2.2.2 _ k_14) (S.2.2.2.2 _ k_2) hK hP hD hS hA rfl (fun j hj => by rcases (show j = 0 ∨ j = 1 ∨ j = 2 by omega) with rfl | rfl | rfl <;> rfl) (Nat.le_of_ble_eq_true rfl) (Nat.le_of_ble_eq_true rfl) dX1_init_24 (fun c0 H hP hD hS => ?_)
  have hP : va_P D classes [(h0, .inr (1, [.ref qa, .null, .int 0, .int 0, .int 0, .int 0])), (qa, .inl (cL, 4, .inr (.inr (.inr (.inr (fun _ => none)))))), (c0, .inr (0, [.null, .null, .int 0]))] H := hP
  have hD : va_D A [(h0, .inr (1, [.ref qa, .null, .int 0, .int 0, .int 0, .int 0])), (qa, .inl (cL, 4, .inr (.inr (.inr (.inr (fun _ => none)))))), (c0, .inr (0, [.null, .null, .int 0]))] := hD
  refine W.widen (k := 2) (n := 7) (Nat.le_of_ble_eq_true rfl) (Nat.le_of_ble_eq_true rfl) ?_
  refine lv_dup S.1 S.2.1 dX1_init_27 rfl ?_
  have hPc := hP.sub (ws' := [(c0, .inr (0, [.null, .null, .int 0]))]) [2] rfl
  have hDc := hD.sub (ws' := [(c0, .inr (0, [.null, .null, .int 0]))]) [2] (by decide) rfl
  have hFc := va_free (wc := [(c0, .inr (0, [.null, .null, .int 0]))]) hD hS hA [2] rfl
  refine va_callv (va_runIN (As := []) (b := c0) (rest := [.ref c0, .int (nI 0), .ref qa]) (g := F0 m 28 ls [.ref c0, .ref c0, .int (nI 0), .ref qa]) S (c_X0_init (l := l) (D := D) (cI := cI) (cL := cL) c0 H.size) ⟨va_cnB 0 S.2.2.2.2 (wt_gd k_17) rfl rfl rfl hN.1 (S.2.2.2.2 _ k_2) (by decide +kernel) ⟨Nat.le_of_ble_eq_true rfl, Nat.le_of_ble_eq_true rfl⟩, rfl, S.2.2.2.2 _ k_16⟩ ⟨PC_blind, PC_at hPc hK hN hDc⟩ rfl rfl hl.1 rfl (lv_room (Nat.le_of_ble_eq_true rfl)) dX1_init_28 ⟨Nat.le_of_ble_eq_true rfl, Nat.le_of_ble_eq_true rfl⟩) hS (fun q _ h => hFc q h) hFc (fun u t H1 locs ht hvm hw hB hz1 hk1 hS => ?_)
  obtain ⟨p0, m0⟩ := u
  obtain ⟨hP1, hD1⟩ := hB
  rw [ht] at hP1
  obtain ⟨hP, hD⟩ := va_join (wr := [(h0, .inr (1, [.ref qa, .null, .int 0, .int 0, .int 0, .int 0])), (qa, .inl (cL, 4, .inr (.inr (.inr (.inr (fun _ => none))))))]) (w1 := (w3 cI c0 p0 m0)) hP hD [2] [0, 1] rfl rfl (by decide) (by decide) hk1 hFc hP1 hD1
  generalize H1 = H at hP hS ⊢
  have hP : va_P D classes [(h0, .inr (1, [.ref qa, .null, .int 0, .int 0, .int 0, .int 0])), (qa, .inl (cL, 4, .inr (.inr (.inr (.inr (fun _ => none)))))), (c0, .inr (0, [.ref p0, .ref m0, .int 0])), (p0, .inl (cI, 24, .inl (fun _ => 0))), (m0, .inl (cI, 24, .inl (fun _ => 0)))] H := hP
  have hD : va_D A [(h0, .inr (1, [.ref qa, .null, .int 0, .int 0, .int 0, .int 0])), (qa, .inl (cL, 4, .inr (.inr (.inr (.inr (fun _ => none)))))), (c0, .inr (0, [.ref p0, .ref m0, .int 0])), (p0, .inl (cI, 24, .inl (fun _ => 0))), (m0, .inl (cI, 24, .inl (fun _ => 0)))] := hD
  refine W.widen (k := 4) (n := 55) (Nat.le_of_ble_eq_true rfl) (Nat.le_of_ble_eq_true rfl) ?_
  refine va_astq (D := D) S.1 S.2.1 hK hP hD hS 1 1 2 0 (r := (RX0, TX0, 3)) rfl rfl rfl rfl (i := nI 0) (vp_in_nI (n := 0) (by decide) (by decide)) dX1_init_31 (fun H locs hP hD hS => ?_)
  have hP : va_P D classes [(h0, .inr (1, [.ref qa, .null, .int 0, .int 0, .int 0, .int 0])), (qa, .inl (cL, 4, .inr (.inr (.inr (.inr (va_up (fun _ => none) 0 (some c0))))))), (c0, .inr (0, [.ref p0, .ref m0, .int 0])), (p0, .inl (cI, 24, .inl (fun _ => 0))), (m0, .inl (cI, 24, .inl (fun _ => 0)))] H := hP
  have hD : va_D A [(h0, .inr (1, [.ref qa, .null, .int 0, .int 0, .int 0, .int 0])), (qa, .inl (cL, 4, .inr (.inr (.inr (.inr (va_up (fun _ => none) 0 (some c0))))))), (c0, .inr (0, [.ref p0, .ref m0, .int 0])), (p0, .inl (cI, 24, .inl (fun _ => 0))), (m0, .inl (cI, 24, .inl (fun _ => 0)))] := hD
  refine lv_iinc (v := nI 1) (lv' := [(1, .int (nI 1)), (0, .ref h0)]) S.1 S.2.1 dX1_init_32 hl (k := 0) rfl (by decide) (by decide) rfl (fun ls hl => ?_)
  refine lv_goto (tgt := 14) S.1 S.2.1 dX1_init_35 (by decide) ?_
  refine lv_iload_n S.1 S.2.1 dX1_init_14 rfl (lv_at hl 0 rfl) ?_
  refine lv_iconst (v := nI 4) S.1 S.2.1 dX1_init_15 (by decide) ?_
  refine lv_icmp_ge (tgt := 38) S.1 S.2.1 dX1_init_16 (by decide) (fun hh => absurd hh (by decide)) (fun _ => ?_)
  refine lv_aload_n S.1 S.2.1 dX1_init_19 rfl (lv_at hl 1 rfl) ?_
  refine va_get (D := D) (ci := 1) (v := .ref qa) (C := RX1) (T := TX1) (N := 6) S.1 S.2.1 S.2.2.2.2 inX1 S.2.2.2.1 hK hP 0 rfl rfl 0 (by decide) (S.2.2.2.2 _ k_31) (fun _ h9 => h9) rfl dX1_init_20 ?_
  refine lv_iload_n S.1 S.2.1 dX1_init_23 rfl (lv_at hl 0 rfl) ?_
  refine va_new (D := D) (ci := 0) (fs := [.null, .null, .int 0]) (C := RX0) (T := TX0) (N := 3) S.1 S.2.1 S.2.2.2.2 inX0 tyX0 tyX0_ok S.2.2.2.1 (S.2.2.2.2 _ k_12) (S.2.2.2.2 _ k_14) (S.2.2.2.2 _ k_2) hK hP hD hS hA rfl (fun j hj => by rcases (show j = 0 ∨ j = 1 ∨ j = 2 by omega) with rfl | rfl | rfl <;> rfl) (Nat.le_of_ble_eq_true rfl) (Nat.le_of_ble_eq_true rfl) dX1_init_24 (fun c1 H hP hD hS => ?_)
  have hP : va_P D classes [(h0, .inr (1, [.ref qa, .null, .int 0, .int 0, .int 0, .int 0])), (qa, .inl (cL, 4, .inr (.inr (.inr (.inr (va_up (fun _ => none) 0 (some c0))))))), (c0, .inr (0, [.ref p0, .ref m0, .int 0])), (p0, .inl (cI, 24, .inl (fun _ => 0))), (m0, .inl (cI, 24, .inl (fun _ => 0))), (c1, .inr (0, [.null, .null, .int 0]))] H := hP
  have hD : va_D A [(h0, .inr (1, [.ref qa, .null, .int 0, .int 0, .int 0, .int 0])), (qa, .inl (cL, 4, .inr (.inr (.inr (.inr (va_up (fun _ => none) 0 (some c0))))))), (c0, .inr (0, [.ref p0, .ref m0, .int 0])), (p0, .inl (cI, 24, .inl (fun _ => 0))), (m0, .inl (cI, 24, .inl (fun _ => 0))), (c1, .inr (0, [.null, .null, .int 0]))] := hD
  refine W.widen (k := 5) (n := 58) (Nat.le_of_ble_eq_true rfl) (Nat.le_of_ble_eq_true rfl) ?_
  refine lv_dup S.1 S.2.1 dX1_init_27 rfl ?_
  have hPc := hP.sub (ws' := [(c1, .inr (0, [.null, .null, .int 0]))]) [5] rfl
  have hDc := hD.sub (ws' := [(c1, .inr (0, [.null, .null, .int 0]))]) [5] (by decide) rfl
  have hFc := va_free (wc := [(c1, .inr (0, [.null, .null, .int 0]))]) hD hS hA [5] rfl
  refine va_callv (va_runIN (As := []) (b := c1) (rest := [.ref c1, .int (nI 1), .ref qa]) (g := F0 m 28 ls [.ref c1, .ref c1, .int (nI 1), .ref qa]) S (c_X0_init (l := l) (D := D) (cI := cI) (cL := cL) c1 H.size) ⟨va_cnB 0 S.2.2.2.2 (wt_gd k_17) rfl rfl rfl hN.1 (S.2.2.2.2 _ k_2) (by decide +kernel) ⟨Nat.le_of_ble_eq_true rfl, Nat.le_of_ble_eq_true rfl⟩, rfl, S.2.2.2.2 _ k_16⟩ ⟨PC_blind, PC_at hPc hK hN hDc⟩ rfl rfl hl.1 rfl (lv_room (Nat.le_of_ble_eq_true rfl)) dX1_init_28 ⟨Nat.le_of_ble_eq_true rfl, Nat.le_of_ble_eq_true rfl⟩) hS (fun q _ h => hFc q h) hFc (fun u t H1 locs ht hvm hw hB hz1 hk1 hS => ?_)
  obtain ⟨p1, m1⟩ := u
  obtain ⟨hP1, hD1⟩ := hB
  rw [ht] at hP1
  obtain ⟨hP, hD⟩ := va_join (wr := [(h0, .inr (1, [.ref qa, .null, .int 0, .int 0, .int 0, .int 0])), (qa, .inl (cL, 4, .inr (.inr (.inr (.inr (va_up (fun _ => none) 0 (some c0))))))), (c0, .inr (0, [.ref p0, .ref m0, .int 0])), (p0, .inl (cI, 24, .inl (fun _ => 0))), (m0, .inl (cI, 24, .inl (fun _ => 0)))]) (w1 := (w3 cI c1 p1 m1)) hP hD [5] [0, 1, 2, 3, 4] rfl rfl (by decide) (by decide) hk1 hFc hP1 hD1
  generalize H1 = H at hP hS ⊢
  have hP : va_P D classes [(h0, .inr (1, [.ref qa, .null, .int 0, .int 0, .int 0, .int 0])), (qa, .inl (cL, 4, .inr (.inr (.inr (.inr (va_up (fun _ => none) 0 (some c0))))))), (c0, .inr (0, [.ref p0, .ref m0, .int 0])), (p0, .inl (cI, 24, .inl (fun _ => 0))), (m0, .inl (cI, 24, .inl (fun _ => 0))), (c1, .inr (0, [.ref p1, .ref m1, .int 0])), (p1, .inl (cI, 24, .inl (fun _ => 0))), (m1, .inl (cI, 24, .inl (fun _ => 0)))] H := hP
  have hD : va_D A [(h0, .inr (1, [.ref qa, .null, .int 0, .int 0, .int 0, .int 0])), (qa, .inl (cL, 4, .inr (.inr (.inr (.inr (va_up (fun _ => none) 0 (some c0))))))), (c0, .inr (0, [.ref p0, .ref m0, .int 0])), (p0, .inl (cI, 24, .inl (fun _ => 0))), (m0, .inl (cI, 24, .inl (fun _ => 0))), (c1, .inr (0, [.ref p1, .ref m1, .int 0])), (p1, .inl (cI, 24, .inl (fun _ => 0))), (m1, .inl (cI, 24, .inl (fun _ => 0)))] := hD
  refine W.widen (k := 7) (n := 106) (Nat.le_of_ble_eq_true rfl) (Nat.le_of_ble_eq_true rfl) ?_
  refine va_astq (D := D) S.1 S.2.1 hK hP hD hS 1 1 5 0 (r := (RX0, TX0, 3)) rfl rfl rfl rfl (i := nI 1) (vp_in_nI (n := 1) (by decide) (by decide)) dX1_init_31 (fun H locs hP hD hS => ?_)
  have hP : va_P D classes [(h0, .inr (1, [.ref qa, .null, .int 0, .int 0, .int 0, .int 0])), (qa, .inl (cL, 4, .inr (.inr (.inr (.inr (va_up (va_up (fun _ => none) 0 (some c0)) 1 (some c1))))))), (c0, .inr (0, [.ref p0, .ref m0, .int 0])), (p0, .inl (cI, 24, .inl (fun _ => 0))), (m0, .inl (cI, 24, .inl (fun _ => 0))), (c1, .inr (0, [.ref p1, .ref m1, .int 0])), (p1, .inl (cI, 24, .inl (fun _ => 0))), (m1, .inl (cI, 24, .inl (fun _ => 0)))] H := hP
  have hD : va_D A [(h0, .inr (1, [.ref qa, .null, .int 0, .int 0, .int 0, .int 0])), (qa, .inl (cL, 4, .inr (.inr (.inr (.inr (va_up (va_up (fun _ => none) 0 (some c0)) 1 (some c1))))))), (c0, .inr (0, [.ref p0, .ref m0, .int 0])), (p0, .inl (cI, 24, .inl (fun _ => 0))), (m0, .inl (cI, 24, .inl (fun _ => 0))), (c1, .inr (0, [.ref p1, .ref m1, .int 0])), (p1, .inl (cI, 24, .inl (fun _ => 0))), (m1, .inl (cI, 24, .inl (fun _ => 0)))] := hD
  refine lv_iinc (v := nI 2) (lv' := [(1, .int (nI 2)), (0, .ref h0)]) S.1 S.2.1 dX1_init_32 hl (k := 0) rfl (by decide) (by decide) rfl (fun ls hl => ?_)
  refine lv_goto (tgt := 14) S.1 S.2.1 dX1_init_35 (by decide) ?_
  refine lv_iload_n S.1 S.2.1 dX1_init_14 rfl (lv_at hl 0 rfl) ?_
  refine lv_iconst (v := nI 4) S.1 S.2.1 dX1_init_15 (by decide) ?_
  refine lv_icmp_ge (tgt := 38) S.1 S.2.1 dX1_init_16 (by decide) (fun hh => absurd hh (by decide)) (fun _ => ?_)
  refine lv_aload_n S.1 S.2.1 dX1_init_19 rfl (lv_at hl 1 rfl) ?_
  refine va_get (D := D) (ci := 1) (v := .ref qa) (C := RX1) (T := TX1) (N := 6) S.1 S.2.1 S.2.2.2.2 inX1 S.2.2.2.1 hK hP 0 rfl rfl 0 (by decide) (S.2.2.2.2 _ k_31) (fun _ h9 => h9) rfl dX1_init_20 ?_
  refine lv_iload_n S.1 S.2.1 dX1_init_23 rfl (lv_at hl 0 rfl) ?_
  refine va_new (D := D) (ci := 0) (fs := [.null, .null, .int 0]) (C := RX0) (T := TX0) (N := 3) S.1 S.2.1 S.2.2.2.2 inX0 tyX0 tyX0_ok S.2.2.2.1 (S.2.2.2.2 _ k_12) (S.2.2.2.2 _ k_14) (S.2.2.2.2 _ k_2) hK hP hD hS hA rfl (fun j hj => by rcases (show j = 0 ∨ j = 1 ∨ j = 2 by omega) with rfl | rfl | rfl <;> rfl) (Nat.le_of_ble_eq_true rfl) (Nat.le_of_ble_eq_true rfl) dX1_init_24 (fun c2 H hP hD hS => ?_)
  have hP : va_P D classes [(h0, .inr (1, [.ref qa, .null, .int 0, .int 0, .int 0, .int 0])), (qa, .inl (cL, 4, .inr (.inr (.inr (.inr (va_up (va_up (fun _ => none) 0 (some c0)) 1 (some c1))))))), (c0, .inr (0, [.ref p0, .ref m0, .int 0])), (p0, .inl (cI, 24, .inl (fun _ => 0))), (m0, .inl (cI, 24, .inl (fun _ => 0))), (c1, .inr (0, [.ref p1, .ref m1, .int 0])), (p1, .inl (cI, 24, .inl (fun _ => 0))), (m1, .inl (cI, 24, .inl (fun _ => 0))), (c2, .inr (0, [.null, .null, .int 0]))] H := hP
  have hD : va_D A [(h0, .inr (1, [.ref qa, .null, .int 0, .int 0, .int 0, .int 0])), (qa, .inl (cL, 4, .inr (.inr (.inr (.inr (va_up (va_up (fun _ => none) 0 (some c0)) 1 (some c1))))))), (c0, .inr (0, [.ref p0, .ref m0, .int 0])), (p0, .inl (cI, 24, .inl (fun _ => 0))), (m0, .inl (cI, 24, .inl (fun _ => 0))), (c1, .inr (0, [.ref p1, .ref m1, .int 0])), (p1, .inl (cI, 24, .inl (fun _ => 0))), (m1, .inl (cI, 24, .inl (fun _ => 0))), (c2, .inr (0, [.null, .null, .int 0]))] := hD
  refine W.widen (k := 8) (n := 109) (Nat.le_of_ble_eq_true rfl) (Nat.le_of_ble_eq_true rfl) ?_
  refine lv_dup S.1 S.2.1 dX1_init_27 rfl ?_
  have hPc := hP.sub (ws' := [(c2, .inr (0, [.null, .null, .int 0]))]) [8] rfl
  have hDc := hD.sub (ws' := [(c2, .inr (0, [.null, .null, .int 0]))]) [8] (by decide) rfl
  have hFc := va_free (wc := [(c2, .inr (0, [.null, .null, .int 0]))]) hD hS hA [8] rfl
  refine va_callv (va_runIN (As := []) (b := c2) (rest := [.ref c2, .int (nI 2), .ref qa]) (g := F0 m 28 ls [.ref c2, .ref c2, .int (nI 2), .ref qa]) S (c_X0_init (l := l) (D := D) (cI := cI) (cL := cL) c2 H.size) ⟨va_cnB 0 S.2.2.2.2 (wt_gd k_17) rfl rfl rfl hN.1 (S.2.2.2.2 _ k_2) (by decide +kernel) ⟨Nat.le_of_ble_eq_true rfl, Nat.le_of_ble_eq_true rfl⟩, rfl, S.2.2.2.2 _ k_16⟩ ⟨PC_blind, PC_at hPc hK hN hDc⟩ rfl rfl hl.1 rfl (lv_room (Nat.le_of_ble_eq_true rfl)) dX1_init_28 ⟨Nat.le_of_ble_eq_true rfl, Nat.le_of_ble_eq_true rfl⟩) hS (fun q _ h => hFc q h) hFc (fun u t H1 locs ht hvm hw hB hz1 hk1 hS => ?_)
  obtain ⟨p2, m2⟩ := u
  obtain ⟨hP1, hD1⟩ := hB
  rw [ht] at hP1
  obtain ⟨hP, hD⟩ := va_join (wr := [(h0, .inr (1, [.ref qa, .null, .int 0, .int 0, .int 0, .int 0])), (qa, .inl (cL, 4, .inr (.inr (.inr (.inr (va_up (va_up (fun _ => none) 0 (some c0)) 1 (some c1))))))), (c0, .inr (0, [.ref p0, .ref m0, .int 0])), (p0, .inl (cI, 24, .inl (fun _ => 0))), (m0, .inl (cI, 24, .inl (fun _ => 0))), (c1, .inr (0, [.ref p1, .ref m1, .int 0])), (p1, .inl (cI, 24, .inl (fun _ => 0))), (m1, .inl (cI, 24, .inl (fun _ => 0)))]) (w1 := (w3 cI c2 p2 m2)) hP hD [8] [0, 1, 2, 3, 4, 5, 6, 7] rfl rfl (by decide) (by decide) hk1 hFc hP1 hD1
  generalize H1 = H at hP hS ⊢
  have hP : va_P D classes [(h0, .inr (1, [.ref qa, .null, .int 0, .int 0, .int 0, .int 0])), (qa, .inl (cL, 4, .inr (.inr (.inr (.inr (va_up (va_up (fun _ => none) 0 (some c0)) 1 (some c1))))))), (c0, .inr (0, [.ref p0, .ref m0, .int 0])), (p0, .inl (cI, 24, .inl (fun _ => 0))), (m0, .inl (cI, 24, .inl (fun _ => 0))), (c1, .inr (0, [.ref p1, .ref m1, .int 0])), (p1, .inl (cI, 24, .inl (fun _ => 0))), (m1, .inl (cI, 24, .inl (fun _ => 0))), (c2, .inr (0, [.ref p2, .ref m2, .int 0])), (p2, .inl (cI, 24, .inl (fun _ => 0))), (m2, .inl (cI, 24, .inl (fun _ => 0)))] H := hP
  have hD : va_D A [(h0, .inr (1, [.ref qa, .null, .int 0, .int 0, .int 0, .int 0])), (qa, .inl (cL, 4, .inr (.inr (.inr (.inr (va_up (va_up (fun _ => none) 0 (some c0)) 1 (some c1))))))), (c0, .inr (0, [.ref p0, .ref m0, .int 0])), (p0, .inl (cI, 24, .inl (fun _ => 0))), (m0, .inl (cI, 24, .inl (fun _ => 0))), (c1, .inr (0, [.ref p1, .ref m1, .int 0])), (p1, .inl (cI, 24, .inl (fun _ => 0))), (m1, .inl (cI, 24, .inl (fun _ => 0))), (c2, .inr (0, [.ref p2, .ref m2, .int 0])), (p2, .inl (cI, 24, .inl (fun _ => 0))), (m2, .inl (cI, 24, .inl (fun _ => 0)))] := hD
  refine W.widen (k := 10) (n := 157) (Nat.le_of_ble_eq_true rfl) (Nat.le_of_ble_eq_true rfl) ?_
  refine va_astq (D := D) S.1 S.2.1 hK hP hD hS 1 1 8 0 (r := (RX0, TX0, 3)) rfl rfl rfl rfl (i := nI 2) (vp_in_nI (n := 2) (by decide) (by decide)) dX1_init_31 (fun H locs hP hD hS => ?_)
  have hP : va_P D classes [(h0, .inr (1, [.ref qa, .null, .int 0, .int 0, .int 0, .int 0])), (qa, .inl (cL, 4, .inr (.inr (.inr (.inr (va_up (va_up (va_up (fun _ => none) 0 (some c0)) 1 (some c1)) 2 (some c2))))))), (c0, .inr (0, [.ref p0, .ref m0, .int 0])), (p0, .inl (cI, 24, .inl (fun _ => 0))), (m0, .inl (cI, 24, .inl (fun _ => 0))), (c1, .inr (0, [.ref p1, .ref m1, .int 0])), (p1, .inl (cI, 24, .inl (fun _ => 0))), (m1, .inl (cI, 24, .inl (fun _ => 0))), (c2, .inr (0, [.ref p2, .ref m2, .int 0])), (p2, .inl (cI, 24, .inl (fun _ => 0))), (m2, .inl (cI, 24, .inl (fun _ => 0)))] H := hP
  have hD : va_D A [(h0, .inr (1, [.ref qa, .null, .int 0, .int 0, .int 0, .int 0])), (qa, .inl (cL, 4, .inr (.inr (.inr (.inr (va_up (va_up (va_up (fun _ => none) 0 (some c0)) 1 (some c1)) 2 (some c2))))))), (c0, .inr (0, [.ref p0, .ref m0, .int 0])), (p0, .inl (cI, 24, .inl (fun _ => 0))), (m0, .inl (cI, 24, .inl (fun _ => 0))), (c1, .inr (0, [.ref p1, .ref m1, .int 0])), (p1, .inl (cI, 24, .inl (fun _ => 0))), (m1, .inl (cI, 24, .inl (fun _ => 0))), (c2, .inr (0, [.ref p2, .ref m2, .int 0])), (p2, .inl (cI, 24, .inl (fun _ => 0))), (m2, .inl (cI, 24, .inl (fun _ => 0)))] := hD
  refine lv_iinc (v := nI 3) (lv' := [(1, .int (nI 3)), (0, .ref h0)]) S.1 S.2.1 dX1_init_32 hl (k := 0) rfl (by decide) (by decide) rfl (fun ls hl => ?_)
  refine lv_goto (tgt := 14) S.1 S.2.1 dX1_init_35 (by decide) ?_
  refine lv_iload_n S.1 S.2.1 dX1_init_14 rfl (lv_at hl 0 rfl) ?_
  refine lv_iconst (v := nI 4) S.1 S.2.1 dX1_init_15 (by decide) ?_
  refine lv_icmp_ge (tgt := 38) S.1 S.2.1 dX1_init_16 (by decide) (fun hh => absurd hh (by decide)) (fun _ => ?_)
  refine lv_aload_n S.1 S.2.1 dX1_init_19 rfl (lv_at hl 1 rfl) ?_
  refine va_get (D := D) (ci := 1) (v := .ref qa) (C := RX1) (T := TX1) (N := 6) S.1 S.2.1 S.2.2.2.2 inX1 S.2.2.2.1 hK hP 0 rfl rfl 0 (by decide) (S.2.2.2.2 _ k_31) (fun _ h9 => h9) rfl dX1_init_20 ?_
  refine lv_iload_n S.1 S.2.1 dX1_init_23 rfl (lv_at hl 0 rfl) ?_
  refine va_new (D := D) (ci := 0) (fs := [.null, .null, .int 0]) (C := RX0) (T := TX0) (N := 3) S.1 S.2.1 S.2.2.2.2 inX0 tyX0 tyX0_ok S.2.2.2.1 (S.2.2.2.2 _ k_12) (S.2.2.2.2 _ k_14) (S.2.2.2.2 _ k_2) hK hP hD hS hA rfl (fun j hj => by rcases (show j = 0 ∨ j = 1 ∨ j = 2 by omega) with rfl | rfl | rfl <;> rfl) (Nat.le_of_ble_eq_true rfl) (Nat.le_of_ble_eq_true rfl) dX1_init_24 (fun c3 H hP hD hS => ?_)
  have hP : va_P D classes [(h0, .inr (1, [.ref qa, .null, .int 0, .int 0, .int 0, .int 0])), (qa, .inl (cL, 4, .inr (.inr (.inr (.inr (va_up (va_up (va_up (fun _ => none) 0 (some c0)) 1 (some c1)) 2 (some c2))))))), (c0, .inr (0, [.ref p0, .ref m0, .int 0])), (p0, .inl (cI, 24, .inl (fun _ => 0))), (m0, .inl (cI, 24, .inl (fun _ => 0))), (c1, .inr (0, [.ref p1, .ref m1, .int 0])), (p1, .inl (cI, 24, .inl (fun _ => 0))), (m1, .inl (cI, 24, .inl (fun _ => 0))), (c2, .inr (0, [.ref p2, .ref m2, .int 0])), (p2, .inl (cI, 24, .inl (fun _ => 0))), (m2, .inl (cI, 24, .inl (fun _ => 0))), (c3, .inr (0, [.null, .null, .int 0]))] H := hP
  have hD : va_D A [(h0, .inr (1, [.ref qa, .null, .int 0, .int 0, .int 0, .int 0])), (qa, .inl (cL, 4, .inr (.inr (.inr (.inr (va_up (va_up (va_up (fun _ => none) 0 (some c0)) 1 (some c1)) 2 (some c2))))))), (c0, .inr (0, [.ref p0, .ref m0, .int 0])), (p0, .inl (cI, 24, .inl (fun _ => 0))), (m0, .inl (cI, 24, .inl (fun _ => 0))), (c1, .inr (0, [.ref p1, .ref m1, .int 0])), (p1, .inl (cI, 24, .inl (fun _ => 0))), (m1, .inl (cI, 24, .inl (fun _ => 0))), (c2, .inr (0, [.ref p2, .ref m2, .int 0])), (p2, .inl (cI, 24, .inl (fun _ => 0))), (m2, .inl (cI, 24, .inl (fun _ => 0))), (c3, .inr (0, [.null, .null, .int 0]))] := hD
  refine W.widen (k := 11) (n := 160) (Nat.le_of_ble_eq_true rfl) (Nat.le_of_ble_eq_true rfl) ?_
  refine lv_dup S.1 S.2.1 dX1_init_27 rfl ?_
  have hPc := hP.sub (ws' := [(c3, .inr (0, [.null, .null, .int 0]))]) [11] rfl
  have hDc := hD.sub (ws' := [(c3, .inr (0, [.null, .null, .int 0]))]) [11] (by decide) rfl
  have hFc := va_free (wc := [(c3, .inr (0, [.null, .null, .int 0]))]) hD hS hA [11] rfl
  refine va_callv (va_runIN (As := []) (b := c3) (rest := [.ref c3, .int (nI 3), .ref qa]) (g := F0 m 28 ls [.ref c3, .ref c3, .int (nI 3), .ref qa]) S (c_X0_init (l := l) (D := D) (cI := cI) (cL := cL) c3 H.size) ⟨va_cnB 0 S.2.2.2.2 (wt_gd k_17) rfl rfl rfl hN.1 (S.2.2.2.2 _ k_2) (by decide +kernel) ⟨Nat.le_of_ble_eq_true rfl, Nat.le_of_ble_eq_true rfl⟩, rfl, S.2.2.2.2 _ k_16⟩ ⟨PC_blind, PC_at hPc hK hN hDc⟩ rfl rfl hl.1 rfl (lv_room (Nat.le_of_ble_eq_true rfl)) dX1_init_28 ⟨Nat.le_of_ble_eq_true rfl, Nat.le_of_ble_eq_true rfl⟩) hS (fun q _ h => hFc q h) hFc (fun u t H1 locs ht hvm hw hB hz1 hk1 hS => ?_)
  obtain ⟨p3, m3⟩ := u
  obtain ⟨hP1, hD1⟩ := hB
  rw [ht] at hP1
  obtain ⟨hP, hD⟩ := va_join (wr := [(h0, .inr (1, [.ref qa, .null, .int 0, .int 0, .int 0, .int 0])), (qa, .inl (cL, 4, .inr (.inr (.inr (.inr (va_up (va_up (va_up (fun _ => none) 0 (some c0)) 1 (some c1)) 2 (some c2))))))), (c0, .inr (0, [.ref p0, .ref m0, .int 0])), (p0, .inl (cI, 24, .inl (fun _ => 0))), (m0, .inl (cI, 24, .inl (fun _ => 0))), (c1, .inr (0, [.ref p1, .ref m1, .int 0])), (p1, .inl (cI, 24, .inl (fun _ => 0))), (m1, .inl (cI, 24, .inl (fun _ => 0))), (c2, .inr (0, [.ref p2, .ref m2, .int 0])), (p2, .inl (cI, 24, .inl (fun _ => 0))), (m2, .inl (cI, 24, .inl (fun _ => 0)))]) (w1 := (w3 cI c3 p3 m3)) hP hD [11] [0, 1, 2, 3, 4, 5, 6, 7, 8, 9, 10] rfl rfl (by decide) (by decide) hk1 hFc hP1 hD1
  generalize H1 = H at hP hS ⊢
  have hP : va_P D classes [(h0, .inr (1, [.ref qa, .null, .int 0, .int 0, .int 0, .int 0])), (qa, .inl (cL, 4, .inr (.inr (.inr (.inr (va_up (va_up (va_up (fun _ => none) 0 (some c0)) 1 (some c1)) 2 (some c2))))))), (c0, .inr (0, [.ref p0, .ref m0, .int 0])), (p0, .inl (cI, 24, .inl (fun _ => 0))), (m0, .inl (cI, 24, .inl (fun _ => 0))), (c1, .inr (0, [.ref p1, .ref m1, .int 0])), (p1, .inl (cI, 24, .inl (fun _ => 0))), (m1, .inl (cI, 24, .inl (fun _ => 0))), (c2, .inr (0, [.ref p2, .ref m2, .int 0])), (p2, .inl (cI, 24, .inl (fun _ => 0))), (m2, .inl (cI, 24, .inl (fun _ => 0))), (c3, .inr (0, [.ref p3, .ref m3, .int 0])), (p3, .inl (cI, 24, .inl (fun _ => 0))), (m3, .inl (cI, 24, .inl (fun _ => 0)))] H := hP
  have hD : va_D A [(h0, .inr (1, [.ref qa, .null, .int 0, .int 0, .int 0, .int 0])), (qa, .inl (cL, 4, .inr (.inr (.inr (.inr (va_up (va_up (va_up (fun _ => none) 0 (some c0)) 1 (some c1)) 2 (some c2))))))), (c0, .inr (0, [.ref p0, .ref m0, .int 0])), (p0, .inl (cI, 24, .inl (fun _ => 0))), (m0, .inl (cI, 24, .inl (fun _ => 0))), (c1, .inr (0, [.ref p1, .ref m1, .int 0])), (p1, .inl (cI, 24, .inl (fun _ => 0))), (m1, .inl (cI, 24, .inl (fun _ => 0))), (c2, .inr (0, [.ref p2, .ref m2, .int 0])), (p2, .inl (cI, 24, .inl (fun _ => 0))), (m2, .inl (cI, 24, .inl (fun _ => 0))), (c3, .inr (0, [.ref p3, .ref m3, .int 0])), (p3, .inl (cI, 24, .inl (fun _ => 0))), (m3, .inl (cI, 24, .inl (fun _ => 0)))] := hD
  refine W.widen (k := 13) (n := 208) (Nat.le_of_ble_eq_true rfl) (Nat.le_of_ble_eq_true rfl) ?_
  refine va_astq (D := D) S.1 S.2.1 hK hP hD hS 1 1 11 0 (r := (RX0, TX0, 3)) rfl rfl rfl rfl (i := nI 3) (vp_in_nI (n := 3) (by decide) (by decide)) dX1_init_31 (fun H locs hP hD hS => ?_)
  have hP : va_P D classes [(h0, .inr (1, [.ref qa, .null, .int 0, .int 0, .int 0, .int 0])), (qa, .inl (cL, 4, .inr (.inr (.inr (.inr (va_up (va_up (va_up (va_up (fun _ => none) 0 (some c0)) 1 (some c1)) 2 (some c2)) 3 (some c3))))))), (c0, .inr (0, [.ref p0, .ref m0, .int 0])), (p0, .inl (cI, 24, .inl (fun _ => 0))), (m0, .inl (cI, 24, .inl (fun _ => 0))), (c1, .inr (0, [.ref p1, .ref m1, .int 0])), (p1, .inl (cI, 24, .inl (fun _ => 0))), (m1, .inl (cI, 24, .inl (fun _ => 0))), (c2, .inr (0, [.ref p2, .ref m2, .int 0])), (p2, .inl (cI, 24, .inl (fun _ => 0))), (m2, .inl (cI, 24, .inl (fun _ => 0))), (c3, .inr (0, [.ref p3, .ref m3, .int 0])), (p3, .inl (cI, 24, .inl (fun _ => 0))), (m3, .inl (cI, 24, .inl (fun _ => 0)))] H := hP
  have hD : va_D A [(h0, .inr (1, [.ref qa, .null, .int 0, .int 0, .int 0, .int 0])), (qa, .inl (cL, 4, .inr (.inr (.inr (.inr (va_up (va_up (va_up (va_up (fun _ => none) 0 (some c0)) 1 (some c1)) 2 (some c2)) 3 (some c3))))))), (c0, .inr (0, [.ref p0, .ref m0, .int 0])), (p0, .inl (cI, 24, .inl (fun _ => 0))), (m0, .inl (cI, 24, .inl (fun _ => 0))), (c1, .inr (0, [.ref p1, .ref m1, .int 0])), (p1, .inl (cI, 24, .inl (fun _ => 0))), (m1, .inl (cI, 24, .inl (fun _ => 0))), (c2, .inr (0, [.ref p2, .ref m2, .int 0])), (p2, .inl (cI, 24, .inl (fun _ => 0))), (m2, .inl (cI, 24, .inl (fun _ => 0))), (c3, .inr (0, [.ref p3, .ref m3, .int 0])), (p3, .inl (cI, 24, .inl (fun _ => 0))), (m3, .inl (cI, 24, .inl (fun _ => 0)))] := hD
  refine lv_iinc (v := nI 4) (lv' := [(1, .int (nI 4)), (0, .ref h0)]) S.1 S.2.1 dX1_init_32 hl (k := 0) rfl (by decide) (by decide) rfl (fun ls hl => ?_)
  refine lv_goto (tgt := 14) S.1 S.2.1 dX1_init_35 (by decide) ?_
  refine lv_iload_n S.1 S.2.1 dX1_init_14 rfl (lv_at hl 0 rfl) ?_
  refine lv_iconst (v := nI 4) S.1 S.2.1 dX1_init_15 (by decide) ?_
  refine lv_icmp_ge (tgt := 38) S.1 S.2.1 dX1_init_16 (by decide) (fun _ => ?_) (fun hh => absurd (by decide) hh)
  refine lv_aload_n S.1 S.2.1 dX1_init_38 rfl (lv_at hl 1 rfl) ?_
  refine lv_bipush (v := nI 64) S.1 S.2.1 dX1_init_39 (by decide) ?_
  refine va_newa (D := D) (atype := .int) (a0 := (64, .inl (fun _ => 0))) (ty := .int) (n := nI 64) (N' := 64) S.1 S.2.1 (S.2.2.2.2 _ k_30) rfl hK hP hD hS hA (fun _ => rfl) (by decide) (by decide) (by decide) (Nat.le_of_ble_eq_true rfl) (Nat.le_of_ble_eq_true rfl) dX1_init_41 (fun qd cA H hK1 hP hD hS => ?_)
  obtain rfl := (cA_eq hK1).symm
  have hP : va_P D classes [(h0, .inr (1, [.ref qa, .null, .int 0, .int 0, .int 0, .int 0])), (qa, .inl (cL, 4, .inr (.inr (.inr (.inr (va_up (va_up (va_up (va_up (fun _ => none) 0 (some c0)) 1 (some c1)) 2 (some c2)) 3 (some c3))))))), (c0, .inr (0, [.ref p0, .ref m0, .int 0])), (p0, .inl (cI, 24, .inl (fun _ => 0))), (m0, .inl (cI, 24, .inl (fun _ => 0))), (c1, .inr (0, [.ref p1, .ref m1, .int 0])), (p1, .inl (cI, 24, .inl (fun _ => 0))), (m1, .inl (cI, 24, .inl (fun _ => 0))), (c2, .inr (0, [.ref p2, .ref m2, .int 0])), (p2, .inl (cI, 24, .inl (fun _ => 0))), (m2, .inl (cI, 24, .inl (fun _ => 0))), (c3, .inr (0, [.ref p3, .ref m3, .int 0])), (p3, .inl (cI, 24, .inl (fun _ => 0))), (m3, .inl (cI, 24, .inl (fun _ => 0))), (qd, .inl (cI, 64, .inl (fun _ => 0)))] H := hP
  have hD : va_D A [(h0, .inr (1, [.ref qa, .null, .int 0, .int 0, .int 0, .int 0])), (qa, .inl (cL, 4, .inr (.inr (.inr (.inr (va_up (va_up (va_up (va_up (fun _ => none) 0 (some c0)) 1 (some c1)) 2 (some c2)) 3 (some c3))))))), (c0, .inr (0, [.ref p0, .ref m0, .int 0])), (p0, .inl (cI, 24, .inl (fun _ => 0))), (m0, .inl (cI, 24, .inl (fun _ => 0))), (c1, .inr (0, [.ref p1, .ref m1, .int 0])), (p1, .inl (cI, 24, .inl (fun _ => 0))), (m1, .inl (cI, 24, .inl (fun _ => 0))), (c2, .inr (0, [.ref p2, .ref m2, .int 0])), (p2, .inl (cI, 24, .inl (fun _ => 0))), (m2, .inl (cI, 24, .inl (fun _ => 0))), (c3, .inr (0, [.ref p3, .ref m3, .int 0])), (p3, .inl (cI, 24, .inl (fun _ => 0))), (m3, .inl (cI, 24, .inl (fun _ => 0))), (qd, .inl (cI, 64, .inl (fun _ => 0)))] := hD
  refine W.widen (k := 14) (n := 272) (Nat.le_of_ble_eq_true rfl) (Nat.le_of_ble_eq_true rfl) ?_
  refine va_putF (D := D) (ci := 1) (v := .ref qd) (ty := (.array .int)) (C := RX1) (T := TX1) (N := 6) S.1 S.2.1 S.2.2.2.2 inX1 tyX1 tyX1_ok nmX1 S.2.2.2.1 hK hP hD hS 0 rfl rfl 1 (by decide) (S.2.2.2.2 _ k_32) (fun _ h9 => h9) rfl hin rfl (by decide +kernel) rfl rfl (Nat.le_of_ble_eq_true rfl) dX1_init_43 (fun H locs hP hD hS => ?_)
  have hP : va_P D classes [(h0, .inr (1, [.ref qa, .ref qd, .int 0, .int 0, .int 0, .int 0])), (qa, .inl (cL, 4, .inr (.inr (.inr (.inr (va_up (va_up (va_up (va_up (fun _ => none) 0 (some c0)) 1 (some c1)) 2 (some c2)) 3 (some c3))))))), (c0, .inr (0, [.ref p0, .ref m0, .int 0])), (p0, .inl (cI, 24, .inl (fun _ => 0))), (m0, .inl (cI, 24, .inl (fun _ => 0))), (c1, .inr (0, [.ref p1, .ref m1, .int 0])), (p1, .inl (cI, 24, .inl (fun _ => 0))), (m1, .inl (cI, 24, .inl (fun _ => 0))), (c2, .inr (0, [.ref p2, .ref m2, .int 0])), (p2, .inl (cI, 24, .inl (fun _ => 0))), (m2, .inl (cI, 24, .inl (fun _ => 0))), (c3, .inr (0, [.ref p3, .ref m3, .int 0])), (p3, .inl (cI, 24, .inl (fun _ => 0))), (m3, .inl (cI, 24, .inl (fun _ => 0))), (qd, .inl (cI, 64, .inl (fun _ => 0)))] H := hP
  have hD : va_D A [(h0, .inr (1, [.ref qa, .ref qd, .int 0, .int 0, .int 0, .int 0])), (qa, .inl (cL, 4, .inr (.inr (.inr (.inr (va_up (va_up (va_up (va_up (fun _ => none) 0 (some c0)) 1 (some c1)) 2 (some c2)) 3 (some c3))))))), (c0, .inr (0, [.ref p0, .ref m0, .int 0])), (p0, .inl (cI, 24, .inl (fun _ => 0))), (m0, .inl (cI, 24, .inl (fun _ => 0))), (c1, .inr (0, [.ref p1, .ref m1, .int 0])), (p1, .inl (cI, 24, .inl (fun _ => 0))), (m1, .inl (cI, 24, .inl (fun _ => 0))), (c2, .inr (0, [.ref p2, .ref m2, .int 0])), (p2, .inl (cI, 24, .inl (fun _ => 0))), (m2, .inl (cI, 24, .inl (fun _ => 0))), (c3, .inr (0, [.ref p3, .ref m3, .int 0])), (p3, .inl (cI, 24, .inl (fun _ => 0))), (m3, .inl (cI, 24, .inl (fun _ => 0))), (qd, .inl (cI, 64, .inl (fun _ => 0)))] := hD
  refine lv_aload_n S.1 S.2.1 dX1_init_46 rfl (lv_at hl 1 rfl) ?_
  refine lv_iconst (v := nI 0) S.1 S.2.1 dX1_init_47 (by decide) ?_
  refine tp (y := 0) (by decide) ?_
  refine va_put (D := D) (ci := 1) (v := .int 0) (ty := .boolean) (C := RX1) (T := TX1) (N := 6) S.1 S.2.1 S.2.2.2.2 inX1 tyX1 tyX1_ok nmX1 S.2.2.2.1 hK hP hD hS 0 rfl rfl 2 (by decide) (S.2.2.2.2 _ k_33) (fun _ h9 => h9) rfl (by decide +kernel) (by decide) (by decide) (Nat.le_of_ble_eq_true rfl) dX1_init_48 (fun H locs hP hD hS => ?_)
  have hP : va_P D classes [(h0, .inr (1, [.ref qa, .ref qd, .int 0, .int 0, .int 0, .int 0])), (qa, .inl (cL, 4, .inr (.inr (.inr (.inr (va_up (va_up (va_up (va_up (fun _ => none) 0 (some c0)) 1 (some c1)) 2 (some c2)) 3 (some c3))))))), (c0, .inr (0, [.ref p0, .ref m0, .int 0])), (p0, .inl (cI, 24, .inl (fun _ => 0))), (m0, .inl (cI, 24, .inl (fun _ => 0))), (c1, .inr (0, [.ref p1, .ref m1, .int 0])), (p1, .inl (cI, 24, .inl (fun _ => 0))), (m1, .inl (cI, 24, .inl (fun _ => 0))), (c2, .inr (0, [.ref p2, .ref m2, .int 0])), (p2, .inl (cI, 24, .inl (fun _ => 0))), (m2, .inl (cI, 24, .inl (fun _ => 0))), (c3, .inr (0, [.ref p3, .ref m3, .int 0])), (p3, .inl (cI, 24, .inl (fun _ => 0))), (m3, .inl (cI, 24, .inl (fun _ => 0))), (qd, .inl (cI, 64, .inl (fun _ => 0)))] H := hP
  have hD : va_D A [(h0, .inr (1, [.ref qa, .ref qd, .int 0, .int 0, .int 0, .int 0])), (qa, .inl (cL, 4, .inr (.inr (.inr (.inr (va_up (va_up (va_up (va_up (fun _ => none) 0 (some c0)) 1 (some c1)) 2 (some c2)) 3 (some c3))))))), (c0, .inr (0, [.ref p0, .ref m0, .int 0])), (p0, .inl (cI, 24, .inl (fun _ => 0))), (m0, .inl (cI, 24, .inl (fun _ => 0))), (c1, .inr (0, [.ref p1, .ref m1, .int 0])), (p1, .inl (cI, 24, .inl (fun _ => 0))), (m1, .inl (cI, 24, .inl (fun _ => 0))), (c2, .inr (0, [.ref p2, .ref m2, .int 0])), (p2, .inl (cI, 24, .inl (fun _ => 0))), (m2, .inl (cI, 24, .inl (fun _ => 0))), (c3, .inr (0, [.ref p3, .ref m3, .int 0])), (p3, .inl (cI, 24, .inl (fun _ => 0))), (m3, .inl (cI, 24, .inl (fun _ => 0))), (qd, .inl (cI, 64, .inl (fun _ => 0)))] := hD
  refine lv_aload_n S.1 S.2.1 dX1_init_51 rfl (lv_at hl 1 rfl) ?_
  refine lv_iconst (v := nI 1) S.1 S.2.1 dX1_init_52 (by decide) ?_
  refine va_put (D := D) (ci := 1) (v := .int (nI 1)) (ty := .int) (C := RX1) (T := TX1) (N := 6) S.1 S.2.1 S.2.2.2.2 inX1 tyX1 tyX1_ok nmX1 S.2.2.2.1 hK hP hD hS 0 rfl rfl 3 (by decide) (S.2.2.2.2 _ k_34) (fun _ h9 => h9) rfl (by decide +kernel) rfl rfl (Nat.le_of_ble_eq_true rfl) dX1_init_53 (fun H locs hP hD hS => ?_)
  have hP : va_P D classes [(h0, .inr (1, [.ref qa, .ref qd, .int 0, .int (nI 1), .int 0, .int 0])), (qa, .inl (cL, 4, .inr (.inr (.inr (.inr (va_up (va_up (va_up (va_up (fun _ => none) 0 (some c0)) 1 (some c1)) 2 (some c2)) 3 (some c3))))))), (c0, .inr (0, [.ref p0, .ref m0, .int 0])), (p0, .inl (cI, 24, .inl (fun _ => 0))), (m0, .inl (cI, 24, .inl (fun _ => 0))), (c1, .inr (0, [.ref p1, .ref m1, .int 0])), (p1, .inl (cI, 24, .inl (fun _ => 0))), (m1, .inl (cI, 24, .inl (fun _ => 0))), (c2, .inr (0, [.ref p2, .ref m2, .int 0])), (p2, .inl (cI, 24, .inl (fun _ => 0))), (m2, .inl (cI, 24, .inl (fun _ => 0))), (c3, .inr (0, [.ref p3, .ref m3, .int 0])), (p3, .inl (cI, 24, .inl (fun _ => 0))), (m3, .inl (cI, 24, .inl (fun _ => 0))), (qd, .inl (cI, 64, .inl (fun _ => 0)))] H := hP
  have hD : va_D A [(h0, .inr (1, [.ref qa, .ref qd, .int 0, .int (nI 1), .int 0, .int 0])), (qa, .inl (cL, 4, .inr (.inr (.inr (.inr (va_up (va_up (va_up (va_up (fun _ => none) 0 (some c0)) 1 (some c1)) 2 (some c2)) 3 (some c3))))))), (c0, .inr (0, [.ref p0, .ref m0, .int 0])), (p0, .inl (cI, 24, .inl (fun _ => 0))), (m0, .inl (cI, 24, .inl (fun _ => 0))), (c1, .inr (0, [.ref p1, .ref m1, .int 0])), (p1, .inl (cI, 24, .inl (fun _ => 0))), (m1, .inl (cI, 24, .inl (fun _ => 0))), (c2, .inr (0, [.ref p2, .ref m2, .int 0])), (p2, .inl (cI, 24, .inl (fun _ => 0))), (m2, .inl (cI, 24, .inl (fun _ => 0))), (c3, .inr (0, [.ref p3, .ref m3, .int 0])), (p3, .inl (cI, 24, .inl (fun _ => 0))), (m3, .inl (cI, 24, .inl (fun _ => 0))), (qd, .inl (cI, 64, .inl (fun _ => 0)))] := hD
  refine lv_aload_n S.1 S.2.1 dX1_init_56 rfl (lv_at hl 1 rfl) ?_
  refine lv_iconst (v := nI 0) S.1 S.2.1 dX1_init_57 (by decide) ?_
  refine va_put (D := D) (ci := 1) (v := .int (nI 0)) (ty := .int) (C := RX1) (T := TX1) (N := 6) S.1 S.2.1 S.2.2.2.2 inX1 tyX1 tyX1_ok nmX1 S.2.2.2.1 hK hP hD hS 0 rfl rfl 4 (by decide) (S.2.2.2.2 _ k_35) (fun _ h9 => h9) rfl (by decide +kernel) rfl rfl (Nat.le_of_ble_eq_true rfl) dX1_init_58 (fun H locs hP hD hS => ?_)
  have hP : va_P D classes [(h0, .inr (1, [.ref qa, .ref qd, .int 0, .int (nI 1), .int (nI 0), .int 0])), (qa, .inl (cL, 4, .inr (.inr (.inr (.inr (va_up (va_up (va_up (va_up (fun _ => none) 0 (some c0)) 1 (some c1)) 2 (some c2)) 3 (some c3))))))), (c0, .inr (0, [.ref p0, .ref m0, .int 0])), (p0, .inl (cI, 24, .inl (fun _ => 0))), (m0, .inl (cI, 24, .inl (fun _ => 0))), (c1, .inr (0, [.ref p1, .ref m1, .int 0])), (p1, .inl (cI, 24, .inl (fun _ => 0))), (m1, .inl (cI, 24, .inl (fun _ => 0))), (c2, .inr (0, [.ref p2, .ref m2, .int 0])), (p2, .inl (cI, 24, .inl (fun _ => 0))), (m2, .inl (cI, 24, .inl (fun _ => 0))), (c3, .inr (0, [.ref p3, .ref m3, .int 0])), (p3, .inl (cI, 24, .inl (fun _ => 0))), (m3, .inl (cI, 24, .inl (fun _ => 0))), (qd, .inl (cI, 64, .inl (fun _ => 0)))] H := hP
  have hD : va_D A [(h0, .inr (1, [.ref qa, .ref qd, .int 0, .int (nI 1), .int (nI 0), .int 0])), (qa, .inl (cL, 4, .inr (.inr (.inr (.inr (va_up (va_up (va_up (va_up (fun _ => none) 0 (some c0)) 1 (some c1)) 2 (some c2)) 3 (some c3))))))), (c0, .inr (0, [.ref p0, .ref m0, .int 0])), (p0, .inl (cI, 24, .inl (fun _ => 0))), (m0, .inl (cI, 24, .inl (fun _ => 0))), (c1, .inr (0, [.ref p1, .ref m1, .int 0])), (p1, .inl (cI, 24, .inl (fun _ => 0))), (m1, .inl (cI, 24, .inl (fun _ => 0))), (c2, .inr (0, [.ref p2, .ref m2, .int 0])), (p2, .inl (cI, 24, .inl (fun _ => 0))), (m2, .inl (cI, 24, .inl (fun _ => 0))), (c3, .inr (0, [.ref p3, .ref m3, .int 0])), (p3, .inl (cI, 24, .inl (fun _ => 0))), (m3, .inl (cI, 24, .inl (fun _ => 0))), (qd, .inl (cI, 64, .inl (fun _ => 0)))] := hD
  refine lv_aload_n S.1 S.2.1 dX1_init_61 rfl (lv_at hl 1 rfl) ?_
  refine lv_iconst (v := nI 0) S.1 S.2.1 dX1_init_62 (by decide) ?_
  refine va_put (D := D) (ci := 1) (v := .int (nI 0)) (ty := .int) (C := RX1) (T := TX1) (N := 6) S.1 S.2.1 S.2.2.2.2 inX1 tyX1 tyX1_ok nmX1 S.2.2.2.1 hK hP hD hS 0 rfl rfl 5 (by decide) (S.2.2.2.2 _ k_36) (fun _ h9 => h9) rfl (by decide +kernel) rfl rfl (Nat.le_of_ble_eq_true rfl) dX1_init_63 (fun H locs hP hD hS => ?_)
  have hP : va_P D classes [(h0, .inr (1, [.ref qa, .ref qd, .int 0, .int (nI 1), .int (nI 0), .int (nI 0)])), (qa, .inl (cL, 4, .inr (.inr (.inr (.inr (va_up (va_up (va_up (va_up (fun _ => none) 0 (some c0)) 1 (some c1)) 2 (some c2)) 3 (some c3))))))), (c0, .inr (0, [.ref p0, .ref m0, .int 0])), (p0, .inl (cI, 24, .inl (fun _ => 0))), (m0, .inl (cI, 24, .inl (fun _ => 0))), (c1, .inr (0, [.ref p1, .ref m1, .int 0])), (p1, .inl (cI, 24, .inl (fun _ => 0))), (m1, .inl (cI, 24, .inl (fun _ => 0))), (c2, .inr (0, [.ref p2, .ref m2, .int 0])), (p2, .inl (cI, 24, .inl (fun _ => 0))), (m2, .inl (cI, 24, .inl (fun _ => 0))), (c3, .inr (0, [.ref p3, .ref m3, .int 0])), (p3, .inl (cI, 24, .inl (fun _ => 0))), (m3, .inl (cI, 24, .inl (fun _ => 0))), (qd, .inl (cI, 64, .inl (fun _ => 0)))] H := hP
  have hD : va_D A [(h0, .inr (1, [.ref qa, .ref qd, .int 0, .int (nI 1), .int (nI 0), .int (nI 0)])), (qa, .inl (cL, 4, .inr (.inr (.inr (.inr (va_up (va_up (va_up (va_up (fun _ => none) 0 (some c0)) 1 (some c1)) 2 (some c2)) 3 (some c3))))))), (c0, .inr (0, [.ref p0, .ref m0, .int 0])), (p0, .inl (cI, 24, .inl (fun _ => 0))), (m0, .inl (cI, 24, .inl (fun _ => 0))), (c1, .inr (0, [.ref p1, .ref m1, .int 0])), (p1, .inl (cI, 24, .inl (fun _ => 0))), (m1, .inl (cI, 24, .inl (fun _ => 0))), (c2, .inr (0, [.ref p2, .ref m2, .int 0])), (p2, .inl (cI, 24, .inl (fun _ => 0))), (m2, .inl (cI, 24, .inl (fun _ => 0))), (c3, .inr (0, [.ref p3, .ref m3, .int 0])), (p3, .inl (cI, 24, .inl (fun _ => 0))), (m3, .inl (cI, 24, .inl (fun _ => 0))), (qd, .inl (cI, 64, .inl (fun _ => 0)))] := hD
  have hP9 := hP.sub (ws' := [(h0, .inr (1, [.ref qa, .ref qd, .int 0, .int (nI 1), .int (nI 0), .int (nI 0)])), (qa, .inl (cL, 4, .inr (.inr (.inr (.inr (va_up (va_up (va_up (va_up (fun _ => none) 0 (some c0)) 1 (some c1)) 2 (some c2)) 3 (some c3))))))), (qd, .inl (cI, 64, .inl (fun _ => 0))), (c0, .inr (0, [.ref p0, .ref m0, .int 0])), (p0, .inl (cI, 24, .inl (fun _ => 0))), (m0, .inl (cI, 24, .inl (fun _ => 0))), (c1, .inr (0, [.ref p1, .ref m1, .int 0])), (p1, .inl (cI, 24, .inl (fun _ => 0))), (m1, .inl (cI, 24, .inl (fun _ => 0))), (c2, .inr (0, [.ref p2, .ref m2, .int 0])), (p2, .inl (cI, 24, .inl (fun _ => 0))), (m2, .inl (cI, 24, .inl (fun _ => 0))), (c3, .inr (0, [.ref p3, .ref m3, .int 0])), (p3, .inl (cI, 24, .inl (fun _ => 0))), (m3, .inl (cI, 24, .inl (fun _ => 0)))]) [0, 1, 14, 2, 3, 4, 5, 6, 7, 8, 9, 10, 11, 12, 13] rfl
  have hD9 := hD.sub (ws' := [(h0, .inr (1, [.ref qa, .ref qd, .int 0, .int (nI 1), .int (nI 0), .int (nI 0)])), (qa, .inl (cL, 4, .inr (.inr (.inr (.inr (va_up (va_up (va_up (va_up (fun _ => none) 0 (some c0)) 1 (some c1)) 2 (some c2)) 3 (some c3))))))), (qd, .inl (cI, 64, .inl (fun _ => 0))), (c0, .inr (0, [.ref p0, .ref m0, .int 0])), (p0, .inl (cI, 24, .inl (fun _ => 0))), (m0, .inl (cI, 24, .inl (fun _ => 0))), (c1, .inr (0, [.ref p1, .ref m1, .int 0])), (p1, .inl (cI, 24, .inl (fun _ => 0))), (m1, .inl (cI, 24, .inl (fun _ => 0))), (c2, .inr (0, [.ref p2, .ref m2, .int 0])), (p2, .inl (cI, 24, .inl (fun _ => 0))), (m2, .inl (cI, 24, .inl (fun _ => 0))), (c3, .inr (0, [.ref p3, .ref m3, .int 0])), (p3, .inl (cI, 24, .inl (fun _ => 0))), (m3, .inl (cI, 24, .inl (fun _ => 0)))]) [0, 1, 14, 2, 3, 4, 5, 6, 7, 8, 9, 10, 11, 12, 13] (by decide) rfl
  have hP8 := P_refs (w1 := [(h0, .inr (1, [.ref qa, .ref qd, .int 0, .int (nI 1), .int (nI 0), .int (nI 0)]))]) (w2 := [(qd, .inl (cI, 64, .inl (fun _ => 0))), (c0, .inr (0, [.ref p0, .ref m0, .int 0])), (p0, .inl (cI, 24, .inl (fun _ => 0))), (m0, .inl (cI, 24, .inl (fun _ => 0))), (c1, .inr (0, [.ref p1, .ref m1, .int 0])), (p1, .inl (cI, 24, .inl (fun _ => 0))), (m1, .inl (cI, 24, .inl (fun _ => 0))), (c2, .inr (0, [.ref p2, .ref m2, .int 0])), (p2, .inl (cI, 24, .inl (fun _ => 0))), (m2, .inl (cI, 24, .inl (fun _ => 0))), (c3, .inr (0, [.ref p3, .ref m3, .int 0])), (p3, .inl (cI, 24, .inl (fun _ => 0))), (m3, .inl (cI, 24, .inl (fun _ => 0)))]) (g := fun k => some ((fun k => [h0, qa, qd, c0, p0, m0, c1, p1, m1, c2, p2, m2, c3, p3, m3].getD k 0) (3 + 3 * k))) hP9 (fun j hj => by rcases (show j = 0 ∨ j = 1 ∨ j = 2 ∨ j = 3 by omega) with rfl | rfl | rfl | rfl <;> rfl)
  have hD8 : va_D A (RPw cI cL (fun k => [h0, qa, qd, c0, p0, m0, c1, p1, m1, c2, p2, m2, c3, p3, m3].getD k 0) (fun _ => 0) false 1 0 0 (fun _ => 0) (fun _ _ => 0) (fun _ _ => 0)) := D_same hD9 rfl
  exact W.vret S.1 S.2.1 hr (fun t ht hW => ⟨⟨(fun k => [h0, qa, qd, c0, p0, m0, c1, p1, m1, c2, p2, m2, c3, p3, m3].getD k 0), rfl, trivial, rfl, by rw [ht]; exact hP8, hD8⟩, hS.F ht⟩) hS.2.2 dX1_init_66
end
section
/-! class and reference compute the same -/
def bt (x : Int32) (i : Nat) : Bool := x.toBitVec.getLsbD i
theorem b_ext {x y : Int32} (h : ∀ i, i < 32 → bt x i = bt y i) : x = y := Int32.toBitVec_inj.mp (BitVec.eq_of_getLsbD_eq (fun i hi => h i hi))
theorem b_and (x y : Int32) (i : Nat) : bt (x &&& y) i = (bt x i && bt y i) := by unfold bt; rw [Int32.toBitVec_and, BitVec.getLsbD_and]
theorem b_xor (x y : Int32) (i : Nat) : bt (x ^^^ y) i = (bt x i ^^ bt y i) := by unfold bt; rw [Int32.toBitVec_xor, BitVec.getLsbD_xor]
theorem b_m1 : ∀ i, i < 32 → bt (-1) i = true := by decide +kernel
theorem b_0 (i : Nat) : bt 0 i = false := BitVec.getLsbD_zero
theorem s_l : ∀ n, n < 32 → ((nI n &&& 31).toBitVec.smod 32).toNat = n := by decide +kernel
theorem b_sshr (n : Nat) (hn : n < 32) (x : Int32) {i : Nat} (hi : i < 32) : bt (x >>> (nI n &&& 31)) i = if n + i < 32 then bt x (n + i) else bt x 31 := by
  unfold bt
  rw [Int32.toBitVec_shiftRight]
  show (x.toBitVec.sshiftRight ((nI n &&& 31).toBitVec.smod 32).toNat).getLsbD i = _
  rw [s_l n hn, BitVec.getLsbD_sshiftRight, BitVec.msb_eq_getLsbD_last]
  simp [hi]
theorem b_one : ∀ i, i < 32 → bt (nI 1) i = decide (i = 0) := by decide +kernel
theorem btM_bt (v : Int32) {i : Nat} (hi : i < 32) : btM v i = bt v i := by
  have h0 : bt ((v >>> (nI i &&& 31)) &&& nI 1) 0 = bt v i := by
    rw [b_and, b_sshr i hi v (by decide), b_one 0 (by decide)]
    simp [hi]
  unfold btM
  cases hb : bt v i with
  | true =>
    refine decide_eq_true (b_ext fun j hj => ?_)
    by_cases hz : j = 0
    · subst hz
      rw [h0, hb]
      decide
    · rw [b_and, b_one j hj, decide_eq_false hz, Bool.and_false]
  | false =>
    refine decide_eq_false (fun q => ?_)
    rw [q, hb] at h0
    exact absurd h0 (by decide)
theorem nI_bit {p n i : Nat} (h : p < 2 ^ n) (hi : n ≤ i) : bt (nI p) i = false := by
  unfold bt
  show (BitVec.ofNat 32 p).getLsbD i = false
  rw [BitVec.getLsbD_ofNat, Nat.testBit_lt_two_pow (Nat.lt_of_lt_of_le h (Nat.pow_le_pow_right (by decide) hi)), Bool.and_false]
theorem an_K (q : Nat → Bool) : ∀ (k i : Nat), anK q k i = true ↔ ∃ j, i ≤ j ∧ j < i + k ∧ q j = true
  | 0, i => by
    simp only [anK]
    exact ⟨fun h => absurd h (by decide), fun ⟨j, h1, h2, _⟩ => by omega⟩
  | k + 1, i => by
    simp only [anK, Bool.or_eq_true, an_K q k (i + 1)]
    constructor
    · rintro (h | ⟨j, h1, h2, h3⟩)
      · exact ⟨i, Nat.le_refl _, by omega, h⟩
      · exact ⟨j, by omega, by omega, h3⟩
    · rintro ⟨j, h1, h2, h3⟩
      by_cases hj : j = i
      · subst hj; exact Or.inl h3
      · exact Or.inr ⟨j, by omega, by omega, h3⟩
theorem an_0 {q : Nat → Bool} {S : Nat} : an q S 0 = true ↔ ∃ j, j < S ∧ q j = true := by
  unfold an
  rw [an_K]
  constructor
  · rintro ⟨j, -, h2, h3⟩
    exact ⟨j, by omega, h3⟩
  · rintro ⟨j, h2, h3⟩
    exact ⟨j, Nat.zero_le _, by omega, h3⟩
theorem fd_orK (q : Nat → Bool) : ∀ (k i : Nat) (h : Bool), fdK (fun i h => h || q i) k i h = (h || anK q k i)
  | 0, _, h => by simp [fdK, anK]
  | k + 1, i, h => by
    simp only [fdK, anK]
    rw [fd_orK q k (i + 1)]
    cases h <;> cases q i <;> simp
theorem okc_cl {N p m : Nat} {x : Int32} (hN : N ≤ 6) (hp : p < 2 ^ (2 * N)) (hm : m < 2 ^ (2 * N)) : okc (nI p) (nI m) x = clM N (nI p) (nI m) x := by
  have e1 : clM N (nI p) (nI m) x = an (fun i => (btM (nI p) i && btM x i) || (btM (nI m) i && !btM x i)) (2 * N) 0 := by
    unfold clM fd an
    have h := fd_orK (fun i => (btM (nI p) i && btM x i) || (btM (nI m) i && !btM x i)) (2 * N - 0) 0 false
    rw [Bool.false_or] at h
    exact h
  rw [e1, Bool.eq_iff_iff, an_0]
  constructor
  · intro h
    by_cases hq : ∃ j, j < 2 * N ∧ ((btM (nI p) j && btM x j) || (btM (nI m) j && !btM x j)) = true
    · exact hq
    · have hall : ∀ j, j < 2 * N → (bt (nI p) j && bt x j) = false ∧ (bt (nI m) j && !bt x j) = false := by
        intro j hj
        have h1 : ¬ ((btM (nI p) j && btM x j) || (btM (nI m) j && !btM x j)) = true := fun q => hq ⟨j, hj, q⟩
        rw [btM_bt _ (by omega), btM_bt _ (by omega), btM_bt _ (by omega)] at h1
        simpa using h1
      have z1 : nI p &&& x = 0 := b_ext fun j hj => by
        rw [b_and, b_0]
        by_cases hl : j < 2 * N
        · exact (hall j hl).1
        · rw [nI_bit hp (by omega), Bool.false_and]
      have z2 : nI m &&& (x ^^^ (-1)) = 0 := b_ext fun j hj => by
        rw [b_and, b_xor, b_m1 j hj, b_0, Bool.xor_true]
        by_cases hl : j < 2 * N
        · exact (hall j hl).2
        · rw [nI_bit hm (by omega), Bool.false_and]
      rw [okc_0 z1 z2] at h
      exact absurd h (by decide)
  · rintro ⟨j, hj, h⟩
    rw [btM_bt _ (by omega), btM_bt _ (by omega), btM_bt _ (by omega)] at h
    rcases Bool.or_eq_true _ _ |>.mp h with h1 | h1
    · refine okc_1 fun q => ?_
      have h2 := b_and (nI p) x j
      rw [q, b_0, h1] at h2
      exact absurd h2 (by decide)
    · refine okc_2 fun q => ?_
      have h2 := b_and (nI m) (x ^^^ (-1)) j
      rw [q, b_0, b_xor, b_m1 j (by omega), Bool.xor_true, h1] at h2
      exact absurd h2 (by decide)
/-- loops over equal things -/
theorem al_cgK {q q' : Nat → Bool} : ∀ (k i : Nat), (∀ j, i ≤ j → j < i + k → q j = q' j) → alK q k i = alK q' k i
  | 0, _, _ => rfl
  | k + 1, i, h => by
    simp only [alK]
    rw [h i (Nat.le_refl _) (by omega), al_cgK k (i + 1) (fun j h1 h2 => h j (by omega) (by omega))]
theorem al_cg {q q' : Nat → Bool} {S : Nat} (h : ∀ j, j < S → q j = q' j) : al q S 0 = al q' S 0 := al_cgK _ _ (fun j _ h2 => h j (by omega))
theorem fo_cgK {q q' : Nat → Bool} : ∀ (k i : Nat), (∀ j, i ≤ j → j < i + k → q j = q' j) → foK q k i = foK q' k i
  | 0, _, _ => rfl
  | k + 1, i, h => by
    simp only [foK]
    rw [h i (Nat.le_refl _) (by omega), fo_cgK k (i + 1) (fun j h1 h2 => h j (by omega) (by omega))]
theorem fo_cg {q q' : Nat → Bool} {S i : Nat} (h : ∀ j, i ≤ j → j < S → q j = q' j) : fo q S i = fo q' S i := fo_cgK _ _ (fun j h1 h2 => h j h1 (by omega))
theorem an_cgK {q q' : Nat → Bool} : ∀ (k i : Nat), (∀ j, i ≤ j → j < i + k → q j = q' j) → anK q k i = anK q' k i
  | 0, _, _ => rfl
  | k + 1, i, h => by
    simp only [anK]
    rw [h i (Nat.le_refl _) (by omega), an_cgK k (i + 1) (fun j h1 h2 => h j (by omega) (by omega))]
theorem an_cg {q q' : Nat → Bool} {S : Nat} (h : ∀ j, j < S → q j = q' j) : an q S 0 = an q' S 0 := an_cgK _ _ (fun j _ h2 => h j (by omega))
theorem fd_inv {α : Type} {f : Nat → α → α} {I : α → Prop} {S : Nat} (hf : ∀ i x, i < S → I x → I (f i x)) : ∀ (k i : Nat) (x : α), i + k ≤ S → I x → I (fdK f k i x)
  | 0, _, _, _, h => h
  | k + 1, i, x, hs, h => by
    simp only [fdK]
    exact fd_inv hf k (i + 1) _ (by omega) (hf i x (by omega) h)
theorem fd_rel {α β : Type} {f : Nat → α → α} {g : Nat → β → β} {I : α → β → Prop} {S : Nat} (hf : ∀ i x y, i < S → I x y → I (f i x) (g i y)) : ∀ (k i : Nat) (x : α) (y : β), i + k ≤ S → I x y → I (fdK f k i x) (fdK g k i y)
  | 0, _, _, _, _, h => h
  | k + 1, i, x, y, hs, h => by
    simp only [fdK]
    exact fd_rel hf k (i + 1) _ _ (by omega) (hf i x y (by omega) h)
/-- the lists say the same -/
def sm (N : Nat) (v : Int32) : Prop := ∃ p : Nat, p < 2 ^ (2 * N) ∧ v = nI p
def Same (N : Nat) (cn : Nat → Nat) (P M : Nat → Nat → Int32) (P' M' : Nat → Int32) : Prop := RInv N cn ∧ ∀ k i, k < 4 → i < cn k → P k i = P' (24 * k + i) ∧ M k i = M' (24 * k + i) ∧ sm N (P k i) ∧ sm N (M k i)
section SAME
variable {N : Nat} {cn : Nat → Nat} {P M : Nat → Nat → Int32} {P' M' : Nat → Int32}
theorem in_so (h : Same N cn P M P' M') {k : Nat} (hk : k < 4) (x : Int32) : inC cn P M k x = soM N cn P' M' k x := by
  unfold inC soM
  refine al_cg fun j hj => ?_
  obtain ⟨h1, h2, ⟨p, hp, e1⟩, ⟨m, hm, e2⟩⟩ := h.2 k j hk hj
  rw [← h1, ← h2, e1, e2]
  exact okc_cl h.1.2.1 hp hm
theorem go_go (h : Same N cn P M P' M') (f t : Int32) : goC N cn P M f t = goM N cn P' M' f t := in_so h (by decide) _
theorem ho_ho (h : Same N cn P M P' M') (li x y : Int32) : hoC N cn P M li x y = hoM N cn P' M' li x y := by
  unfold hoC hoM
  rw [go_go h]
  cases hl : liB li with
  | false => rfl
  | true =>
    obtain ⟨k, hk, rfl⟩ := liB_t hl
    rw [in_so h (by rw [nI_clamp (by omega)]; exact hk)]
theorem le_es (h : Same N cn P M P' M') (i : Nat) : leC N cn P M i = esM N cn P' M' i := by
  unfold leC esM
  exact an_cg fun t _ => by rw [in_so h (by decide), go_go h]
theorem br_le (h : Same N cn P M P' M') {r : Nat} (hr : r = 1 ∨ r = 2 ∨ r = 3) (i : Nat) : brC N cn P M r i = leM N cn P' M' r i := by
  unfold brC leM
  rw [in_so h (by decide), in_so h (by decide), in_so h (by decide), le_es h]
  rcases hr with rfl | rfl | rfl
  · simp [Bool.and_comm]
  · simp
  · simp
theorem lb_lm (h : Same N cn P M P' M') {r : Nat} (hr : r = 1 ∨ r = 2 ∨ r = 3) : lbC N cn P M r = lmM N cn P' M' r := by
  unfold lbC lmM
  exact fo_cg fun j _ _ => br_le h hr j
theorem oI_neg {o : Option Nat} {S : Nat} (h : ∀ i, o = some i → i < S) (hS : S ≤ 64) : (oI (-1) o = -1) ↔ (oI (-1) o < 0) := by
  rcases o with _ | i
  · exact ⟨fun _ => by show (-1 : Int32) < 0; decide, fun _ => rfl⟩
  · have hi := h i rfl
    have h1 : ¬ nI i < 0 := nI_pos (by omega)
    exact ⟨fun q => absurd (show nI i < 0 by rw [show nI i = -1 from q]; decide) h1, fun q => absurd q h1⟩
theorem ch_ch (h : Same N cn P M P' M') : chC N cn P M = chM N cn P' M' := by
  unfold chC chM
  refine fo_cg fun r h1 h2 => ?_
  rw [← lb_lm h (by omega)]
  have hS := h.1.S
  have := oI_neg (o := lbC N cn P M r) (S := 2 ^ N) (fun i e => (fo_in e).2) hS
  by_cases hq : oI (-1) (lbC N cn P M r) = -1
  · rw [decide_eq_true hq, decide_eq_true (this.mp hq)]
  · rw [decide_eq_false hq, decide_eq_false (fun q => hq (this.mpr q))]
theorem fl_fl (h : Same N cn P M P' M') : flC N cn P M = flM N cn P' M' := by
  unfold flC flM
  rw [← ch_ch h]
  cases hc : chC N cn P M with
  | none => rfl
  | some r =>
    have := fo_in hc
    show oI (-1) (lbC N cn P M r) = oI (-1) (lmM N cn P' M' r)
    rw [lb_lm h (by omega)]
end SAME
end
section
/-! the two searches find the same depths -/
def agr (S : Nat) (d d' : Nat → Int32) : Prop := ∀ i, i < S → d i = d' i
/-- a depth is NONE or not below 0 -/
def gd (S : Nat) (d : Nat → Int32) : Prop := ∀ i, i < S → d i = -1 ∨ 0 ≤ d i
/-- all depths are at most k -/
def upto (S k : Nat) (d : Nat → Int32) : Prop := ∀ i, i < S → d i = -1 ∨ ∃ j, j ≤ k ∧ d i = nI j
theorem m1_n {k : Nat} (hk : k < 2 ^ 31) : ¬ (-1 : Int32) = nI k := fun q => nI_pos hk (by rw [← q]; decide)
theorem m1_ge {x : Int32} (h : x = -1) : ¬ 0 ≤ x := by rw [h]; decide
theorem upto_gd {S k : Nat} {d : Nat → Int32} (hk : k < 2 ^ 30) (h : upto S k d) : gd S d := fun i hi => by
  rcases h i hi with h1 | ⟨j, hj, h1⟩
  · exact Or.inl h1
  · exact Or.inr (by rw [h1]; exact nI_pos' (by omega))
theorem ini_K (q : Nat → Bool) : ∀ (k i : Nat) (d : Nat → Int32) (j : Nat), fdK (iniC q) k i d j = if i ≤ j ∧ j < i + k then (if q j = true then nI 0 else -1) else d j
  | 0, i, d, j => by
    simp only [fdK]
    rw [if_neg (by omega)]
  | k + 1, i, d, j => by
    simp only [fdK]
    rw [ini_K q k (i + 1)]
    by_cases h1 : i + 1 ≤ j ∧ j < i + 1 + k
    · rw [if_pos h1, if_pos (show i ≤ j ∧ j < i + (k + 1) by omega)]
    · rw [if_neg h1]
      by_cases h2 : j = i
      · subst h2
        rw [if_pos (by omega)]
        exact if_pos rfl
      · rw [if_neg (by omega)]
        exact if_neg h2
theorem ini_at {q : Nat → Bool} {S : Nat} {d : Nat → Int32} {j : Nat} (hj : j < S) : fd (iniC q) S 0 d j = if q j = true then nI 0 else -1 := by
  unfold fd
  rw [ini_K, if_pos (by omega)]
theorem fd_rl {α β : Type} {f : Nat → α → α} {g : Nat → β → β} {I : α → β → Prop} {S i : Nat} {x : α} {y : β} (hf : ∀ i x y, i < S → I x y → I (f i x) (g i y)) (h : I x y) : I (fd f S i x) (fd g S i y) := by
  by_cases hi : i ≤ S
  · exact fd_rel hf (S - i) i x y (by omega) h
  · rw [fd_d (by omega), fd_d (by omega)]
    exact h
theorem fd_iv {α : Type} {f : Nat → α → α} {I : α → Prop} {S i : Nat} {x : α} (hf : ∀ i x, i < S → I x → I (f i x)) (h : I x) : I (fd f S i x) := by
  by_cases hi : i ≤ S
  · exact fd_inv hf (S - i) i x (by omega) h
  · rw [fd_d (by omega)]
    exact h
section STEP
variable {g : Nat → Nat → Bool} {S : Nat}
theorem step_agr {fr to : Nat} {d d' : Nat → Int32} (hf : fr < S) (ht : to < S) (h : agr S d d') : agr S (stepC g fr to d) (stepC g fr to d') := by
  intro i hi
  unfold stepC
  rw [h to ht, h fr hf]
  by_cases hq : d' to = -1 ∧ g fr to = true
  · rw [if_pos hq, if_pos hq]
    unfold upd
    by_cases e : i = to
    · rw [if_pos e, if_pos e]
    · rw [if_neg e, if_neg e]
      exact h i hi
  · rw [if_neg hq, if_neg hq]
    exact h i hi
theorem from_agr {lev fr : Nat} {d d' : Nat → Int32} (hf : fr < S) (h : agr S d d') : agr S (fromC g S lev fr d) (fromC g S lev fr d') := by
  unfold fromC
  rw [h fr hf]
  by_cases hq : d' fr = nI lev
  · rw [if_pos hq, if_pos hq]
    exact fd_rl (I := agr S) (f := stepC g fr) (g := stepC g fr) (fun to x y ht hxy => step_agr hf ht hxy) h
  · rw [if_neg hq, if_neg hq]
    exact h
theorem lev_agr {lev : Nat} {d d' : Nat → Int32} (h : agr S d d') : agr S (levC g S lev d) (levC g S lev d') :=
  fd_rl (I := agr S) (f := fromC g S lev) (g := fromC g S lev) (fun fr x y hf hxy => from_agr hf hxy) h
theorem levs_agr {i : Nat} {d d' : Nat → Int32} (h : agr S d d') : agr S (fd (levC g S) S i d) (fd (levC g S) S i d') :=
  fd_rl (I := agr S) (f := levC g S) (g := levC g S) (fun fr x y hf hxy => lev_agr hxy) h
/-- one step of the reference's inner loop is one of the class's -/
theorem ts_step {k s t : Nat} {d : Nat → Int32} {m : Bool} (hk : k < 2 ^ 30) (ht : t < S) (hs : d s = nI k) (hg : gd S d) : (tsM g k s t (d, m)).1 = stepC g s t d ∧ stepC g s t d s = nI k ∧ gd S (stepC g s t d) := by
  have e : (d t = -1) ↔ ¬ 0 ≤ d t := by
    rcases hg t ht with h | h
    · exact ⟨fun _ => m1_ge h, fun _ => h⟩
    · exact ⟨fun q => absurd h (m1_ge q), fun q => absurd h q⟩
  unfold tsM stepC
  by_cases hq : d t = -1 ∧ g s t = true
  · rw [if_pos ⟨e.mp hq.1, hq.2⟩, if_pos hq, hs]
    refine ⟨rfl, ?_, fun i hi => ?_⟩
    · have hne : ¬ s = t := fun q => by
        subst q
        exact m1_n (by omega) (hq.1.symm.trans hs)
      exact (if_neg hne).trans hs
    · by_cases ei : i = t
      · right
        have : upd d t (nI k + nI 1) i = nI k + nI 1 := if_pos ei
        rw [this]
        exact k1_pos hk
      · have : upd d t (nI k + nI 1) i = d i := if_neg ei
        rw [this]
        exact hg i hi
  · rw [if_neg (fun q => hq ⟨e.mpr q.1, q.2⟩), if_neg hq]
    exact ⟨rfl, hs, hg⟩
theorem tiK_step {k s : Nat} (hk : k < 2 ^ 30) : ∀ (f t : Nat) (d : Nat → Int32) (m : Bool), t + f ≤ S → d s = nI k → gd S d → (tiK g k s f t (d, m)).1 = fdK (stepC g s) f t d ∧ gd S (fdK (stepC g s) f t d)
  | 0, _, _, _, _, _, hg => ⟨rfl, hg⟩
  | f + 1, t, d, m, hf, hs, hg => by
    obtain ⟨h1, h2, h3⟩ := ts_step (g := g) (m := m) hk (show t < S by omega) hs hg
    simp only [tiK, fdK]
    rw [if_pos hs]
    have e : tsM g k s t (d, m) = (stepC g s t d, (tsM g k s t (d, m)).2) := by rw [← h1]
    rw [e]
    exact tiK_step hk f (t + 1) _ _ (by omega) h2 h3
theorem ti_from {k s : Nat} {d : Nat → Int32} {m : Bool} (hk : k < 2 ^ 30) (hg : gd S d) : (ti g k s S 0 (d, m)).1 = fromC g S k s d ∧ gd S (fromC g S k s d) := by
  unfold fromC
  by_cases hs : d s = nI k
  · rw [if_pos hs]
    exact tiK_step hk _ _ _ _ (by omega) hs hg
  · rw [if_neg hs, ti_n hs]
    exact ⟨rfl, hg⟩
theorem rnd_lev {k : Nat} {d : Nat → Int32} (hk : k < 2 ^ 30) (hg : gd S d) : (rnd g S k d).1 = levC g S k d ∧ gd S (levC g S k d) := by
  have h := fd_rl (S := S) (i := 0) (x := (d, false)) (y := d) (f := fun s x => ti g k s S 0 x) (g := fromC g S k) (I := fun x d => x.1 = d ∧ gd S d) (fun s x y hs hxy => by
    obtain ⟨x1, x2⟩ := x
    obtain ⟨e, hy⟩ := hxy
    have e' : x1 = y := e
    subst e'
    exact ti_from hk hy) ⟨rfl, hg⟩
  exact h
/-- a round that says 'no more' has changed nothing -/
def still (x y : (Nat → Int32) × Bool) : Prop := y.2 = false → y = x
theorem still_tr {x y z : (Nat → Int32) × Bool} (h1 : still x y) (h2 : still y z) : still x z := fun h => by
  have e := h2 h
  rw [e] at h ⊢
  exact h1 h
theorem still_ts {k s t : Nat} {x : (Nat → Int32) × Bool} : still x (tsM g k s t x) := by
  unfold tsM
  split
  · exact fun h => absurd (show true = false from h) (by decide)
  · exact fun _ => rfl
theorem still_tiK {k s : Nat} : ∀ (f t : Nat) (x : (Nat → Int32) × Bool), still x (tiK g k s f t x)
  | 0, _, _ => fun _ => rfl
  | f + 1, t, x => by
    simp only [tiK]
    split
    · exact still_tr still_ts (still_tiK f (t + 1) _)
    · exact fun _ => rfl
theorem still_fdK {f : Nat → (Nat → Int32) × Bool → (Nat → Int32) × Bool} (hf : ∀ i x, still x (f i x)) : ∀ (n i : Nat) (x : (Nat → Int32) × Bool), still x (fdK f n i x)
  | 0, _, _ => fun _ => rfl
  | n + 1, i, x => by
    simp only [fdK]
    exact still_tr (hf i x) (still_fdK hf n (i + 1) _)
theorem rnd_still {k : Nat} {d : Nat → Int32} (h : (rnd g S k d).2 = false) : (rnd g S k d).1 = d := by
  have e : rnd g S k d = (d, false) := still_fdK (fun i x => still_tiK _ _ _) _ _ _ h
  rw [e]
/-- depths go up by one a round -/
theorem step_upto {k fr to : Nat} {d : Nat → Int32} (hf : d fr = nI k) (h : upto S (k + 1) d) : upto S (k + 1) (stepC g fr to d) := by
  unfold stepC
  by_cases hq : d to = -1 ∧ g fr to = true
  · rw [if_pos hq]
    intro i hi
    by_cases ei : i = to
    · right
      refine ⟨k + 1, Nat.le_refl _, ?_⟩
      have : upd d to (d fr + nI 1) i = d fr + nI 1 := if_pos ei
      rw [this, hf]
      exact nI_add k 1
    · have : upd d to (d fr + nI 1) i = d i := if_neg ei
      rw [this]
      exact h i hi
  · rw [if_neg hq]
    exact h
theorem step_keep {k fr to : Nat} {d : Nat → Int32} (hk : k < 2 ^ 31) (hf : d fr = nI k) : stepC g fr to d fr = nI k := by
  unfold stepC
  by_cases hq : d to = -1 ∧ g fr to = true
  · rw [if_pos hq]
    have hne : ¬ fr = to := fun q => by
      subst q
      exact m1_n hk (hq.1.symm.trans hf)
    exact (if_neg hne).trans hf
  · rw [if_neg hq]
    exact hf
theorem from_upto {k fr : Nat} {d : Nat → Int32} (hk : k < 2 ^ 31) (h : upto S (k + 1) d) : upto S (k + 1) (fromC g S k fr d) := by
  unfold fromC
  by_cases hs : d fr = nI k
  · rw [if_pos hs]
    exact (fd_iv (S := S) (f := stepC g fr) (I := fun d => d fr = nI k ∧ upto S (k + 1) d) (fun i x _ hx => ⟨step_keep hk hx.1, step_upto hx.1 hx.2⟩) ⟨hs, h⟩).2
  · rw [if_neg hs]
    exact h
theorem lev_upto {k : Nat} {d : Nat → Int32} (hk : k < 2 ^ 31) (h : upto S k d) : upto S (k + 1) (levC g S k d) :=
  fd_iv (S := S) (f := fromC g S k) (I := upto S (k + 1)) (fun i x _ hx => from_upto hk hx) (fun i hi => by
    rcases h i hi with h1 | ⟨j, hj, h1⟩
    · exact Or.inl h1
    · exact Or.inr ⟨j, by omega, h1⟩)
/-- a level that nobody has does nothing -/
theorem lev_none {k : Nat} {d : Nat → Int32} (h : ∀ i, i < S → ¬ d i = nI k) : levC g S k d = d :=
  fd_iv (S := S) (f := fromC g S k) (I := fun x => x = d) (fun i x hi hx => by
    subst hx
    unfold fromC
    rw [if_neg (h i hi)]) rfl
theorem levs_none : ∀ (n k : Nat) (d : Nat → Int32), (∀ j, k ≤ j → j < k + n → ∀ i, i < S → ¬ d i = nI j) → fdK (levC g S) n k d = d
  | 0, _, _, _ => rfl
  | n + 1, k, d, h => by
    simp only [fdK]
    rw [lev_none (h k (Nat.le_refl _) (by omega))]
    exact levs_none n (k + 1) d (fun j h1 h2 => h j (by omega) (by omega))
theorem upto_no {k j : Nat} {d : Nat → Int32} (hj : j < 2 ^ 31) (hkj : k < j) (h : upto S k d) : ∀ i, i < S → ¬ d i = nI j := fun i hi q => by
  rcases h i hi with h1 | ⟨j', hj', h1⟩
  · exact m1_n hj (h1.symm.trans q)
  · have := eq_n (by omega) hj (h1.symm.trans q)
    omega
theorem unK_m1 {d : Nat → Int32} : ∀ S, unK d S = S → ∀ i, i < S → ¬ 0 ≤ d i
  | 0, _, i, hi => absurd hi (Nat.not_lt_zero _)
  | S + 1, h, i, hi => by
    simp only [unK] at h
    have h1 : unK d S ≤ S := unr_le S d
    by_cases hd : 0 ≤ d S
    · rw [if_pos hd] at h
      omega
    · rw [if_neg hd] at h
      rcases Nat.lt_or_ge i S with h2 | h2
      · exact unK_m1 S (by omega) i h2
      · rw [show i = S by omega]
        exact hd
/-- THE SEARCHES: the reference's rounds come to what the class's levels come to -/
theorem xp_levs (hS : S ≤ 64) : ∀ (f k : Nat) (d : Nat → Int32), k ≤ S → upto S k d → unr S d < f → (unr S d + k + 1 ≤ S ∨ unr S d = S) → xpK g S f k d = fd (levC g S) S k d
  | 0, _, _, _, _, h, _ => absurd h (Nat.not_lt_zero _)
  | f + 1, k, d, hk, hu, hf, hc => by
    have hg := upto_gd (by omega) hu
    obtain ⟨e1, hg'⟩ := rnd_lev (g := g) (k := k) (by omega) hg
    simp only [xpK]
    rcases hc with hc | hc
    · rw [fd_s (show k < S by omega)]
      by_cases hm : (rnd g S k d).2 = true
      · rw [if_pos hm, e1]
        have hmor := rnd_mor (g := g) (S := S) (dp := d) (show k < 2 ^ 30 by omega)
        rcases hmor.2 hm with q | q
        · exact absurd (show false = true from q) (by decide)
        · rw [e1] at q
          have q' : unr S (levC g S k d) < unr S d := q
          exact xp_levs hS f (k + 1) _ (by omega) (lev_upto (by omega) hu) (by omega) (Or.inl (by omega))
      · have hm' : (rnd g S k d).2 = false := by simpa using hm
        rw [if_neg hm, rnd_still hm']
        have e2 : levC g S k d = d := by rw [← e1]; exact rnd_still hm'
        rw [e2]
        exact (levs_none _ _ _ (fun j h1 h2 => upto_no (k := k) (by omega) (by omega) hu)).symm
    · have hno : ∀ j, j < 2 ^ 31 → ∀ i, i < S → ¬ d i = nI j := fun j hj i hi q => unK_m1 S hc i hi (by rw [q]; exact nI_pos' hj)
      have e2 : levC g S k d = d := lev_none (hno k (by omega))
      have e3 : (rnd g S k d).2 = false := by
        by_cases hm : (rnd g S k d).2 = true
        · have hmor := rnd_mor (g := g) (S := S) (dp := d) (show k < 2 ^ 30 by omega)
          rcases hmor.2 hm with q | q
          · exact absurd (show false = true from q) (by decide)
          · rw [e1, e2] at q
            exact absurd q (Nat.lt_irrefl _)
        · simpa using hm
      rw [e3, if_neg (by decide), e1, e2]
      exact (levs_none _ _ _ (fun j h1 h2 => hno j (by omega))).symm
end STEP
end
section
/-! the answers out of the depths -/
theorem upK_ini {q : Nat → Bool} {S : Nat} {d : Nat → Int32} : upto S 0 (fd (iniC q) S 0 d) := fun i hi => by
  rw [ini_at hi]
  by_cases h : q i = true
  · rw [if_pos h]
    exact Or.inr ⟨0, Nat.le_refl _, rfl⟩
  · rw [if_neg h]
    exact Or.inl rfl
section ANS
variable {N : Nat} {cn : Nat → Nat} {P M : Nat → Nat → Int32} {P' M' : Nat → Int32}
/-- THE DEPTHS of a machine, on its states -/
def BF (N : Nat) (cn : Nat → Nat) (P M : Nat → Nat → Int32) : Nat → Int32 := findC N cn P M (fun _ => 0)
theorem find_BF (dep : Nat → Int32) : agr (2 ^ N) (findC N cn P M dep) (BF N cn P M) := by
  unfold BF findC
  exact levs_agr fun i hi => by rw [ini_at hi, ini_at hi]
theorem xpl_BF (h : Same N cn P M P' M') (dep : Nat → Int32) : agr (2 ^ N) (xplM N cn P' M' dep) (BF N cn P M) := by
  have hS := h.1.S
  have e : xplM N cn P' M' dep = findC N cn P M dep := by
    unfold xplM findC
    have e1 : (fun f t => goM N cn P' M' (nI f) (nI t)) = (fun f t => goC N cn P M (nI f) (nI t)) := by
      funext f t
      exact (go_go h _ _).symm
    have e2 : (fun i => soM N cn P' M' 0 (nI i)) = (fun i => inC cn P M 0 (nI i)) := by
      funext i
      exact (in_so h (by decide) _).symm
    rw [e1, e2]
    generalize hd : fd (iniC (fun i => inC cn P M 0 (nI i))) (2 ^ N) 0 dep = d
    have hu : upto (2 ^ N) 0 d := by rw [← hd]; exact upK_ini
    have hle := unr_le (2 ^ N) d
    exact xp_levs hS _ _ _ (Nat.zero_le _) hu (by omega) (by omega)
  rw [e]
  exact find_BF dep
theorem levs_gd {g : Nat → Nat → Bool} {S : Nat} (hS : S ≤ 64) : ∀ (n k : Nat) (d : Nat → Int32), k + n ≤ S → upto S k d → gd S (fdK (levC g S) n k d)
  | 0, k, d, hk, h => upto_gd (by omega) h
  | n + 1, k, d, hk, h => by
    simp only [fdK]
    exact levs_gd hS n (k + 1) _ (by omega) (lev_upto (by omega) h)
theorem BF_gd (hV : RInv N cn) : gd (2 ^ N) (BF N cn P M) := by
  unfold BF findC fd
  exact levs_gd hV.S _ _ _ (by simp) upK_ini
variable {d d' : Nat → Int32}
/-- what is said of the class's depths d and the reference's d' -/
def DD (N : Nat) (d d' : Nat → Int32) : Prop := agr (2 ^ N) d d' ∧ gd (2 ^ N) d
theorem DD_lt (h : DD N d d') {i : Nat} (hi : i < 2 ^ N) : decide (d i = -1) = decide (d' i < 0) := by
  rw [← h.1 i hi]
  rcases h.2 i hi with e | e
  · rw [decide_eq_true e, e]
    decide
  · rw [decide_eq_false (fun q => m1_ge q e), decide_eq_false (Int32.not_lt.mpr e)]
theorem wo_wo (hs : Same N cn P M P' M') (h : DD N d d') : woC N cn P M d = woM N cn P' M' d' := by
  unfold woC woM
  refine fo_cg fun i _ hi => ?_
  unfold rbC
  rw [in_so hs (by decide), DD_lt h hi]
theorem re_re (h : DD N d d') : reC N d = reM N d' := by
  unfold reC reM
  refine fd_rl (I := fun x y => x = y) (fun i x y hi e => ?_) rfl
  subst e
  simp only [cntF, DD_lt h hi]
/-- the least depth so far: NONE, or not below 0 -/
theorem st_st (hs : Same N cn P M P' M') (h : DD N d d') : stC N cn P M d = stM N cn P' M' d' := by
  unfold stC stM
  refine (fd_rl (I := fun x y : Int32 => x = y ∧ (x = -1 ∨ 0 ≤ x)) (fun i x y hi e => ?_) ⟨rfl, Or.inl rfl⟩).1
  obtain ⟨e, hx⟩ := e
  subst e
  have e1 : decide (x = -1) = decide (x < 0) := by
    rcases hx with q | q
    · rw [decide_eq_true q, q]
      decide
    · rw [decide_eq_false (fun z => m1_ge z q), decide_eq_false (Int32.not_lt.mpr q)]
  have e2 : (rbC d cn P M i && (decide (x = -1) || !decide (x ≤ d i))) = (!decide (d' i < 0) && ((decide (x < 0) || !decide (x ≤ d' i)) && soM N cn P' M' 2 (nI i))) := by
    unfold rbC
    rw [in_so hs (by decide), DD_lt h hi, e1, h.1 i hi]
    cases decide (d' i < 0) <;> cases soM N cn P' M' 2 (nI i) <;> cases (decide (x < 0) || !decide (x ≤ d' i)) <;> rfl
  dsimp only [minF]
  simp only [e2]
  by_cases hq : (!decide (d' i < 0) && ((decide (x < 0) || !decide (x ≤ d' i)) && soM N cn P' M' 2 (nI i))) = true
  · rw [if_pos hq, if_pos hq]
    exact ⟨h.1 i hi, h.2 i hi⟩
  · rw [if_neg hq, if_neg hq]
    exact ⟨rfl, hx⟩
theorem st_K {u : Nat → Int32 → Bool} {rb : Nat → Bool} (hu : ∀ i x, u i x = (rb i && (decide (x = -1) || !decide (x ≤ d i)))) {S : Nat} (hd : ∀ i, i < S → rb i = true → 0 ≤ d i) : ∀ (k i : Nat) (x : Int32), i + k ≤ S → (x = -1 ∨ 0 ≤ x) → ((0 ≤ fdK (minF u d) k i x) ↔ (0 ≤ x ∨ ∃ j, i ≤ j ∧ j < i + k ∧ rb j = true))
  | 0, i, x, _, _ => by
    simp only [fdK]
    exact ⟨Or.inl, fun h => h.elim id (fun ⟨j, h1, h2, _⟩ => by omega)⟩
  | k + 1, i, x, hs, hx => by
    simp only [fdK]
    have hlt : i < S := by omega
    cases hr : rb i with
    | false =>
      have e : minF u d i x = x := by
        unfold minF
        rw [hu, hr, Bool.false_and, if_neg (by decide)]
      rw [e, st_K hu hd k (i + 1) x (by omega) hx]
      constructor
      · rintro (h | ⟨j, h1, h2, h3⟩)
        · exact Or.inl h
        · exact Or.inr ⟨j, by omega, by omega, h3⟩
      · rintro (h | ⟨j, h1, h2, h3⟩)
        · exact Or.inl h
        · refine Or.inr ⟨j, ?_, by omega, h3⟩
          rcases Nat.lt_or_ge i j with q | q
          · exact q
          · rw [show j = i by omega, hr] at h3
            exact absurd h3 (by decide)
    | true =>
      have hdi := hd i hlt hr
      have hm : 0 ≤ minF u d i x := by
        unfold minF
        by_cases hq : u i x = true
        · rw [if_pos hq]; exact hdi
        · rw [if_neg hq]
          rcases hx with q | q
          · rw [hu, hr, decide_eq_true q] at hq
            exact absurd rfl hq
          · exact q
      rw [st_K hu hd k (i + 1) _ (by omega) (Or.inr hm)]
      exact ⟨fun _ => Or.inr ⟨i, Nat.le_refl _, by omega, hr⟩, fun _ => Or.inl hm⟩
theorem fo_none {q : Nat → Bool} : ∀ (k i : Nat), foK q k i = none ↔ ∀ j, i ≤ j → j < i + k → q j = false
  | 0, i => by
    exact ⟨fun _ j h1 h2 => by omega, fun _ => rfl⟩
  | k + 1, i => by
    simp only [foK]
    by_cases hq : q i = true
    · rw [if_pos hq]
      constructor
      · intro h
        cases h
      · intro h
        rw [h i (Nat.le_refl _) (by omega)] at hq
        exact absurd hq (by decide)
    · rw [if_neg hq, fo_none k (i + 1)]
      constructor
      · intro h j h1 h2
        by_cases e : j = i
        · subst e; simpa using hq
        · exact h j (by omega) (by omega)
      · exact fun h j h1 h2 => h j (by omega) (by omega)
theorem safe_safe (hs : Same N cn P M P' M') (h : DD N d d') : decide (oI (-1) (woC N cn P M d) = -1) = !decide (0 ≤ stM N cn P' M' d') := by
  rw [← st_st hs h]
  have hS := hs.1.S
  have hk := st_K (d := d) (u := fun i x => rbC d cn P M i && (decide (x = -1) || !decide (x ≤ d i))) (rb := rbC d cn P M) (fun _ _ => rfl) (S := 2 ^ N) (fun i hi hr => by
    rcases h.2 i hi with q | q
    · unfold rbC at hr
      rw [decide_eq_true q] at hr
      exact absurd hr (by simp)
    · exact q) (2 ^ N - 0) 0 (-1) (by simp) (Or.inl rfl)
  have hk2 : (0 ≤ stC N cn P M d) ↔ ∃ j, j < 2 ^ N ∧ rbC d cn P M j = true := by
    refine Iff.trans hk ⟨?_, ?_⟩
    · rintro (q | ⟨j, -, h2, h3⟩)
      · exact absurd q (by decide)
      · exact ⟨j, by omega, h3⟩
    · rintro ⟨j, h2, h3⟩
      exact Or.inr ⟨j, Nat.zero_le _, by omega, h3⟩
  cases hw : woC N cn P M d with
  | none =>
    have hn := (fo_none _ _).mp (show foK (rbC d cn P M) (2 ^ N - 0) 0 = none from hw)
    have hno : ¬ 0 ≤ stC N cn P M d := fun q => by
      obtain ⟨j, h1, h2⟩ := hk2.mp q
      rw [hn j (Nat.zero_le _) (by simpa using h1)] at h2
      exact absurd h2 (by decide)
    rw [decide_eq_false hno, decide_eq_true (show oI (-1) none = -1 from rfl)]
    rfl
  | some i =>
    have hi := fo_inK _ _ _ _ (show foK (rbC d cn P M) (2 ^ N - 0) 0 = some i from hw)
    rw [decide_eq_true (hk2.mpr ⟨i, by omega, hi.2.2⟩), decide_eq_false (fun q => nI_pos (n := i) (by omega) (by
      have q' : nI i = -1 := q
      rw [q']
      decide))]
    rfl
end ANS
end
section
/-! class and reference side by side -/
def Rel (N pl : Nat) (pe : Int32) (cn : Nat → Nat) (P M : Nat → Nat → Int32) (dk : Bool) (dep : Nat → Int32) (P' M' pth : Nat → Int32) : Prop := Same N cn P M P' M' ∧ pl ≤ 64 ∧ (1 ≤ pl → pth (pl - 1) = pe) ∧ (dk = true → agr (2 ^ N) dep (BF N cn P M))
section REL
variable {N pl : Nat} {pe : Int32} {cn : Nat → Nat} {P M : Nat → Nat → Int32} {dk : Bool} {dep dep' : Nat → Int32} {P' M' pth : Nat → Int32}
theorem Rel.bf (h : Rel N pl pe cn P M dk dep P' M' pth) : agr (2 ^ N) (depC dk N cn P M dep) (BF N cn P M) := by
  unfold depC
  by_cases hq : dk = true
  · rw [if_pos hq]
    exact h.2.2.2 hq
  · rw [if_neg hq]
    exact find_BF dep
theorem Rel.DD (h : Rel N pl pe cn P M dk dep P' M' pth) : DD N (depC dk N cn P M dep) (xplM N cn P' M' dep') := by
  refine ⟨fun i hi => (h.bf i hi).trans (xpl_BF h.1 dep' i hi).symm, fun i hi => ?_⟩
  rw [h.bf i hi]
  exact BF_gd h.1.1 i hi
theorem Rel.known (h : Rel N pl pe cn P M dk dep P' M' pth) : Rel N pl pe cn P M true (depC dk N cn P M dep) P' M' pth := ⟨h.1, h.2.1, h.2.2.1, fun _ => h.bf⟩
theorem Rel.ar (h : Rel N pl pe cn P M dk dep P' M' pth) : (!decide (nI pl ≤ 0) && inC cn P M 2 pe) = (!decide (nI pl ≤ 0) && soM N cn P' M' 2 (pth (pl - 1))) := by
  by_cases hq : nI pl ≤ 0
  · rw [decide_eq_true hq]
    rfl
  · rw [h.2.2.1 (len_pos (by have := h.2.1; omega) hq), in_so h.1 (by decide)]
theorem Rel.wa (h : Rel N pl pe cn P M dk dep P' M' pth) (x : Int32) : waM N pl cn P' M' pth x = waB N pl pe cn P M x := by
  unfold waM waB
  rw [in_so h.1 (by decide)]
  by_cases hq : nI pl = 0
  · rw [if_pos hq, if_pos hq]
  · rw [if_neg hq, if_neg hq, h.2.2.1 (len_ne hq), go_go h.1]
theorem cn_0K : ∀ (n k : Nat) (c : Nat → Nat) (j : Nat), k ≤ j → j < k + n → fdK (fun k c => va_up c k 0) n k c j = 0
  | 0, k, _, j, h1, h2 => by omega
  | n + 1, k, c, j, h1, h2 => by
    simp only [fdK]
    by_cases e : j = k
    · have keep : ∀ (n k' : Nat) (c : Nat → Nat), j < k' → fdK (fun k c => va_up c k 0) n k' c j = c j := by
        intro n
        induction n with
        | zero => intro k' c _; rfl
        | succ n ih =>
          intro k' c hk
          simp only [fdK]
          rw [ih (k' + 1) _ (by omega)]
          exact if_neg (by omega)
      rw [keep n (k + 1) _ (by omega)]
      exact if_pos e
    · exact cn_0K n (k + 1) _ j (by omega) (by omega)
theorem cn_0 (c : Nat → Nat) {j : Nat} (hj : j < 4) : fd (fun k c => va_up c k 0) 4 0 c j = 0 := cn_0K 4 0 c j (Nat.zero_le _) (by omega)
theorem Rel.begin {n : Nat} (h1 : 1 ≤ n) (h6 : n ≤ 6) : Rel n 0 pe (fd (fun k c => va_up c k 0) 4 0 cn) P M false dep P' M' pth := by
  refine ⟨⟨⟨h1, h6, fun k hk => by rw [cn_0 cn hk]; exact Nat.zero_le _⟩, fun k i hk hi => ?_⟩, Nat.zero_le _, fun h => absurd h (by decide), fun h => absurd h (by decide)⟩
  rw [cn_0 cn hk] at hi
  exact absurd hi (Nat.not_lt_zero _)
theorem bgB_t {x : Int32} (h : bgB x = true) : ∃ n : Nat, 1 ≤ n ∧ n ≤ 6 ∧ x = nI n := by
  unfold bgB at h
  simp only [Bool.and_eq_true, Bool.not_eq_true', decide_eq_false_iff_not, decide_eq_true_eq] at h
  have h0 : ¬ x < 0 := fun q => h.1 (Int32.lt_trans q (by decide))
  obtain ⟨j, hj, rfl⟩ := nI_of2 (x := x) (M := nI 6) (n := 6) (by decide) h0 h.2
  refine ⟨j, ?_, hj, rfl⟩
  rcases j with _ | j
  · exact absurd (by decide) h.1
  · omega
theorem stB_e {x : Int32} (hV : RInv N cn) (h : stB N x = true) : ∃ i : Nat, i < 2 ^ N ∧ x = nI i := by
  unfold stB at h
  simp only [Bool.and_eq_true, Bool.not_eq_true', decide_eq_false_iff_not] at h
  have hS := hV.S
  rcases pk_ix x (n := 2 ^ N) (by omega) with q | q | q
  · exact absurd q h.1
  · exact absurd q h.2
  · exact q
theorem seB_sm {li x : Int32} (hN : N ≤ 6) (h : seB N li x = true) : sm N x := by
  obtain ⟨h1, h2⟩ := seB_e h
  have hle : (if li = nI 1 then 2 * N else N) ≤ 2 * N := by split <;> omega
  have h12 : 2 ^ (2 * N) ≤ 2 ^ 12 := Nat.pow_le_pow_right (by decide) (by omega)
  have hp : 2 ^ (if li = nI 1 then 2 * N else N) ≤ 2 ^ (2 * N) := Nat.pow_le_pow_right (by decide) hle
  rcases pk_ix x (n := 2 ^ (if li = nI 1 then 2 * N else N)) (by omega) with q | q | ⟨j, hj, e⟩
  · exact absurd q h1
  · exact absurd q h2
  · exact ⟨j, by omega, e⟩
theorem clB_e {li x y : Int32} (h : clB N cn li x y = true) : ∃ k : Nat, k < 4 ∧ li = nI k ∧ seB N (nI k) x = true ∧ seB N (nI k) y = true ∧ cn k < 24 := by
  unfold clB at h
  simp only [Bool.and_eq_true, decide_eq_true_eq] at h
  obtain ⟨k, hk, rfl⟩ := liB_t h.1
  rw [nI_clamp (by omega)] at h
  exact ⟨k, hk, rfl, h.2.1, h.2.2.1, h.2.2.2⟩
theorem drB_e {li : Int32} (h : drB cn li = true) : ∃ k : Nat, k < 4 ∧ li = nI k ∧ 0 < cn k := by
  unfold drB at h
  simp only [Bool.and_eq_true, Bool.not_eq_true', decide_eq_false_iff_not] at h
  obtain ⟨k, hk, rfl⟩ := liB_t h.1
  rw [nI_clamp (by omega)] at h
  exact ⟨k, hk, rfl, by have := h.2; omega⟩
theorem Rel.drop (h : Rel N pl pe cn P M dk dep P' M' pth) {k : Nat} (hk : k < 4) (hp : 0 < cn k) : Rel N 0 pe (va_up cn k (cn k - 1)) P M false dep P' M' pth := by
  have hle : ∀ j, va_up cn k (cn k - 1) j ≤ cn j := fun j => by
    unfold va_up
    split
    · rename_i e; rw [e]; omega
    · exact Nat.le_refl _
  exact ⟨⟨⟨h.1.1.1, h.1.1.2.1, fun j hj => Nat.le_trans (hle j) (h.1.1.2.2 j hj)⟩, fun j i hj hi => h.1.2 j i hj (Nat.lt_of_lt_of_le hi (hle j))⟩, Nat.zero_le _, fun q => absurd q (by decide), fun q => absurd q (by decide)⟩
theorem Rel.clause (h : Rel N pl pe cn P M dk dep P' M' pth) {k : Nat} {x y : Int32} (hk : k < 4) (hx : seB N (nI k) x = true) (hy : seB N (nI k) y = true) (hc : cn k < 24) : Rel N 0 pe (va_up cn k (cn k + 1)) (va_up P k (upd (P k) (cn k) x)) (va_up M k (upd (M k) (cn k) y)) false dep (upd P' (24 * k + cn k) x) (upd M' (24 * k + cn k) y) pth := by
  refine ⟨⟨⟨h.1.1.1, h.1.1.2.1, fun j hj => ?_⟩, fun j i hj hi => ?_⟩, Nat.zero_le _, fun q => absurd q (by decide), fun q => absurd q (by decide)⟩
  · unfold va_up
    split
    · omega
    · exact h.1.1.2.2 j hj
  · by_cases e : j = k
    · subst e
      have hi' : i < cn j + 1 := by
        have e1 : va_up cn j (cn j + 1) j = cn j + 1 := if_pos rfl
        rw [e1] at hi
        exact hi
      have eP : va_up P j (upd (P j) (cn j) x) j = upd (P j) (cn j) x := if_pos rfl
      have eM : va_up M j (upd (M j) (cn j) y) j = upd (M j) (cn j) y := if_pos rfl
      rw [eP, eM]
      by_cases ei : i = cn j
      · subst ei
        have e1 : upd (P j) (cn j) x (cn j) = x := if_pos rfl
        have e2 : upd (M j) (cn j) y (cn j) = y := if_pos rfl
        have e3 : upd P' (24 * j + cn j) x (24 * j + cn j) = x := if_pos rfl
        have e4 : upd M' (24 * j + cn j) y (24 * j + cn j) = y := if_pos rfl
        rw [e1, e2, e3, e4]
        exact ⟨rfl, rfl, seB_sm h.1.1.2.1 hx, seB_sm h.1.1.2.1 hy⟩
      · have e1 : upd (P j) (cn j) x i = P j i := if_neg ei
        have e2 : upd (M j) (cn j) y i = M j i := if_neg ei
        have e3 : upd P' (24 * j + cn j) x (24 * j + i) = P' (24 * j + i) := if_neg (by omega)
        have e4 : upd M' (24 * j + cn j) y (24 * j + i) = M' (24 * j + i) := if_neg (by omega)
        rw [e1, e2, e3, e4]
        exact h.1.2 j i hj (by omega)
    · have e0 : va_up cn k (cn k + 1) j = cn j := if_neg e
      rw [e0] at hi
      have hj24 := h.1.1.2.2 j hj
      have eP : va_up P k (upd (P k) (cn k) x) j = P j := if_neg e
      have eM : va_up M k (upd (M k) (cn k) y) j = M j := if_neg e
      have e3 : upd P' (24 * k + cn k) x (24 * j + i) = P' (24 * j + i) := if_neg (by omega)
      have e4 : upd M' (24 * k + cn k) y (24 * j + i) = M' (24 * j + i) := if_neg (by omega)
      rw [eP, eM, e3, e4]
      exact h.1.2 j i hj hi
theorem Rel.walk (h : Rel N pl pe cn P M dk dep P' M' pth) {x : Int32} (hb : waB N pl pe cn P M x = true) : Rel N (pl + 1) x cn P M dk dep P' M' (upd pth pl x) := by
  obtain ⟨-, h64, -⟩ := waB_e hb
  refine ⟨h.1, h64, fun _ => ?_, h.2.2.2⟩
  show upd pth pl x (pl + 1 - 1) = x
  rw [Nat.add_sub_cancel]
  exact if_pos rfl
theorem Rel.new : Rel 1 0 0 (fun _ => 0) P M false dep P' M' pth := ⟨⟨⟨by decide, by decide, fun k hk => Nat.zero_le _⟩, fun k i hk hi => absurd hi (Nat.not_lt_zero _)⟩, Nat.zero_le _, fun q => absurd q (by decide), fun q => absurd q (by decide)⟩
end REL
/-- two worlds beside each other -/
theorem adr_eq {w w' : va_W} (e : w.map Prod.fst = w'.map Prod.fst) {q : Nat} (h : adr w q) : adr w' q := by
  obtain ⟨k, x, hk⟩ := h
  have h1 : (w.map Prod.fst)[k]? = some q := by rw [List.getElem?_map, hk]; rfl
  rw [e, List.getElem?_map] at h1
  cases hw : w'[k]? with
  | none => rw [hw] at h1; cases h1
  | some q0 =>
    rw [hw] at h1
    have e1 : q0.1 = q := Option.some.inj h1
    exact ⟨k, q0.2, by rw [← e1]; exact hw⟩
theorem P_keep {D : va_G} {w1 w2 : va_W} {H H1 : Heap} (hP : va_P D classes w2 H) (hk : ∀ q : Nat, q < H.size → ¬ adr w1 q → H1[q]? = H[q]?) (hd : ∀ q, adr w1 q → ¬ adr w2 q) : va_P D classes w2 H1 := hP.kept (fun k q hq => hk q.1 ((hP k q hq).lt) (fun h => hd q.1 h ⟨k, q.2, hq⟩))
theorem D_l {A : Nat → Prop} {w1 w2 : va_W} (h : va_D A (w1 ++ w2)) : va_D A w1 := ⟨fun i j p q hi hj e => h.1 i j p q (by rw [List.getElem?_append_left (List.getElem?_eq_some_iff.mp hi).1]; exact hi) (by rw [List.getElem?_append_left (List.getElem?_eq_some_iff.mp hj).1]; exact hj) e, fun k q hk => h.2 k q (by rw [List.getElem?_append_left (List.getElem?_eq_some_iff.mp hk).1]; exact hk)⟩
theorem app_r {w1 w2 : va_W} {k : Nat} {q : Nat × va_E} (h : w2[k]? = some q) : (w1 ++ w2)[w1.length + k]? = some q := by
  rw [List.getElem?_append_right (by omega), Nat.add_sub_cancel_left]
  exact h
theorem D_r {A : Nat → Prop} {w1 w2 : va_W} (h : va_D A (w1 ++ w2)) : va_D A w2 := ⟨fun i j p q hi hj e => by
  have := h.1 _ _ p q (app_r hi) (app_r hj) e
  omega, fun k q hk => h.2 _ q (app_r hk)⟩
theorem D_x {A : Nat → Prop} {w1 w2 : va_W} (h : va_D A (w1 ++ w2)) : ∀ q, adr w1 q → ¬ adr w2 q := fun q ⟨k, e, hk⟩ ⟨j, e', hj⟩ => by
  have hl := (List.getElem?_eq_some_iff.mp hk).1
  have := h.1 k _ (q, e) (q, e') (by rw [List.getElem?_append_left hl]; exact hk) (app_r hj) rfl
  omega
theorem adr_rp {cI cL : ClassId} {a : Nat → Nat} {dep dep' : Nat → Int32} {dk dk' : Bool} {N pl N' pl' : Nat} {pe pe' : Int32} {cn cn' : Nat → Nat} {P M P' M' : Nat → Nat → Int32} {q : Nat} (h : adr (RPw cI cL a dep dk N pl pe cn P M) q) : adr (RPw cI cL a dep' dk' N' pl' pe' cn' P' M') q := adr_eq (w := RPw cI cL a dep dk N pl pe cn P M) (w' := RPw cI cL a dep' dk' N' pl' pe' cn' P' M') rfl h
theorem adr_md {cI : ClassId} {b : Nat → Nat} {N len N' len' : Nat} {cn cn' : Nat → Nat} {P M pth dep P' M' pth' dep' : Nat → Int32} {q : Nat} (h : adr (MDw cI b N len cn P M pth dep) q) : adr (MDw cI b N' len' cn' P' M' pth' dep') q := adr_eq (w := MDw cI b N len cn P M pth dep) (w' := MDw cI b N' len' cn' P' M' pth' dep') rfl h
end
section
/-! THE CLAIM OUT OF ONE WALK OF THE LAW'S BODY. Your part is whole_start (and what it stands on); all else here is the same for every law, but numbers. -/
def R_law : String := "ReachProverLaw"
def lw_P (b : Addr) (xs : List Int32) (args : Array Value) (s : State) : Prop := args = #[.ref b] ∧ s.IntsAt b xs ∧ xs.length ≤ 2048 ∧ (Jvm.Cond.and given_1 narrow_1).before args s = true
def lw_Q (_ : Array Value) (s : State) (o : Outcome) (t : State) : Prop := o = .returned (some (.int 1)) ∧ Framed s o t [] 600000 7302250
def lw_Z (below : List Frame) (a : Array Value) (s : State) : State → Prop := fun t => ∃ o, t.status = .running ∧ Ended t below o ∧ lw_Q a s o t
/-- the law's own end, with 1 on the stack, nothing written that was there before, its room as the claim has it -/
theorem lw_ret {p : Program} {l : Launch} {e : Env} {s : State} {m : MethodId} {below : List Frame} {meth : Method} {c : Code} {b : Nat} (hx : p.tables.exec = Jvm.exec) (hb : c.code = code) (hr : meth.sig.returnType = ret) (hlocks : meth.locks = false) {pc : Nat} {H : Heap} {ls : Array Slot} (hdg : decode code pc = .ok (.ireturn, 1)) : W p l e room_1 s m #[Value.ref b] below meth c H [] 600000 7302250 (lw_Z below #[Value.ref b] s) (F0 m pc ls [.int 1]) := by
  intro T hT X
  obtain ⟨fs, hret, hrun, hended, hW, hframe⟩ := X.leave (v := some (.int 1)) (hlocks := hlocks) (fun h => by rw [hr] at h; cases h)
  have hmeth' : T.vm.method? m = some meth := X.method'
  refine ⟨T.setFrames fs, ?_, .returned (some (.int 1)), hrun, hended, rfl, ⟨_, rfl⟩, hW, hframe⟩
  jvm_step X.here [X.here.top, hx, hb, hdg, hmeth', hr, ret, narrow_b1]
  (try refine ⟨rfl, ?_⟩); (try refine ⟨rfl, ?_⟩)
  first | (intro acts; rw [hret _ acts rfl rfl rfl]) | rw [hret _ _ rfl rfl rfl]
  exact Steps.refl _
/-- what holds at the law's entry: the machine, the code, the tables' words (any of lw_tbl by 'hts w (by decide +kernel)'), the script of L ints xs at the cell b, what the Statement gives of the start (any of its parts by flat_of_before) -/
def lw_At (p : Program) (s : State) (m : MethodId) (meth : Method) (c : Code) (b L : Nat) (xs : Nat → Int32) : Prop :=
  p.tables.exec = Jvm.exec ∧ c.code = code ∧ meth.sig.returnType = ret ∧ c.maxLocals = 4 ∧ s.vm.findClass R_law = some m.cls ∧ (∀ w ∈ lw_tbl, w.before #[Value.ref b] s = true) ∧ va_X b L xs s s.heap ∧ b < s.heap.size ∧ meth.locks = false ∧ (Jvm.Cond.and given_1 narrow_1).before #[Value.ref b] s = true
theorem lw_w {b : Nat} {s : State} (hts : ∀ w ∈ lw_tbl, w.before #[Value.ref b] s = true) : ∀ w ∈ wt, w.before #[Value.ref b] s = true := fun w h => hts w (List.mem_filter.mp h).1
theorem lw_NS {b : Nat} {s : State} (hts : ∀ w ∈ lw_tbl, w.before #[Value.ref b] s = true) : NS s := ⟨va_Nw.of rfl (hts (.methodLinkNest RX1 15 yX0_init RX1) (List.mem_append_right _ (List.mem_of_getElem? (i := 15) (by decide +kernel)))), va_Nw.of rfl (hts (.methodLinkNest RX1 34 yX0_removeAll RX1) (List.mem_append_right _ (List.mem_of_getElem? (i := 54) (by decide +kernel)))), va_Nw.of rfl (hts (.methodLinkNest RX1 48 yX0_isFull RX1) (List.mem_append_right _ (List.mem_of_getElem? (i := 73) (by decide +kernel)))), va_Nw.of rfl (hts (.methodLinkNest RX1 52 yX0_add RX1) (List.mem_append_right _ (List.mem_of_getElem? (i := 77) (by decide +kernel)))), va_Nw.of rfl (hts (.methodLinkNest RX1 59 yX0_removeLast RX1) (List.mem_append_right _ (List.mem_of_getElem? (i := 86) (by decide +kernel)))), va_Nw.of rfl (hts (.methodLinkNest RX1 91 yX0_allHold RX1) (List.mem_append_right _ (List.mem_of_getElem? (i := 114) (by decide +kernel)))), va_Nw.of rfl (hts (.fieldLinkNest RX1 56 "ReachProver$ClauseList" "size" "I" RX1) (List.mem_append_right _ (List.mem_of_getElem? (i := 22) (by decide +kernel)))), va_AO.of (hts (.arrayOver (.object RX0)) (List.mem_append_right _ (List.mem_of_getElem? (i := 13) (by decide +kernel))))⟩
/-- the tables at the start: class numbers and slots, the two array classes -/
theorem lw_K {b : Nat} {s : State} (hts : ∀ w ∈ lw_tbl, w.before #[Value.ref b] s = true) : ∃ (D : va_G) (cI cL : ClassId), va_K D classes (tyl cI cL) s := by
  have hw := lw_w hts
  obtain ⟨c0, iS0, hKn0⟩ := u_known (C := RX0) (T := TX0) (N := 3) (n := 3) hw inX0 (hw _ k_14)
  obtain ⟨c1, iS1, hKn1⟩ := u_known (C := RX1) (T := TX1) (N := 6) (n := 6) hw inX1 (hw _ k_5)
  obtain ⟨c2, iS2, hKn2⟩ := u_known (C := RX2) (T := TX2) (N := 7) (n := 7) hw inX2 (hw _ k_189)
  obtain ⟨cI, kI, compI, i1, i2, i3⟩ := Cond.arrayClass_spec (hw _ k_30)
  obtain ⟨comp, cL, kL, l1, l2, l3, l4, l5⟩ := Cond.arrayOver_spec (lw_NS hts).2.2.2.2.2.2.2
  refine ⟨(fun k => if k = 0 then c0 else if k = 1 then c1 else c2, fun k => if k = 0 then iS0 else if k = 1 then iS1 else iS2), cI, cL, ?_, ?_⟩
  · intro k q hq
    match k, hq with
    | 0, hq => cases hq; exact hKn0
    | 1, hq => cases hq; exact hKn1
    | 2, hq => cases hq; exact hKn2
    | k + 3, hq => simp [classes] at hq
  · intro k q hq
    match k, hq with
    | 0, hq =>
      cases hq
      exact ⟨fun n z => ⟨fun k h => (by cases h), kI, i2, compI, i3⟩, i1⟩
    | 1, hq =>
      cases hq
      exact ⟨fun n z => ⟨fun k h => (by cases h), kL, l3, comp, l4⟩, kL, comp, l3, l4, l1, l5⟩
    | k + 2, hq => simp at hq
theorem lw_c {L i : Nat} (hL : L ≤ 2048) (hi : i ≤ L) (h : ¬ nI L - nI 4 < nI i) : i + 4 ≤ L := by
  have h1 : ¬ (nI L - nI 4).toInt < (nI i).toInt := fun q => h (Int32.lt_iff_toInt_lt.mpr q)
  rw [pk_sub_toInt (by omega) (by decide), nI_toInt (by omega)] at h1
  omega
theorem lw_ld {p : Program} {l : Launch} {e : Env} {R : Room} {s : State} {m : MethodId} {args : Array Value} {below : List Frame} {meth : Method} {c : Code} {H H0 : Heap} {locs : List Loc} {cells slots : Nat} {Q : State → Prop} {cc : ByteArray} {pc : Nat} {ls : Array Slot} {rest : List Value} {A : Nat → Prop} {b L : Nat} {xs : Nat → Int32} (hx : p.tables.exec = Jvm.exec) (hb : c.code = cc) (hX : va_X b L xs s H0) (hbl : b < H0.size) (hbA : ¬ A b) (hS : va_S A H0 H locs) {j : Nat} (hj : j < L) (hL : L ≤ 2048) (hdg : decode cc pc = .ok (.iaload, 1)) (kk : W p l e R s m args below meth c H locs cells slots Q (F0 m (pc + 1) ls (.int (xs j) :: rest))) : W p l e R s m args below meth c H locs cells slots Q (F0 m pc ls (.int (nI j) :: .ref b :: rest)) := by
  refine va_sld hx hb hX hbl hbA hS (vp_in_nI hj (by omega)) hdg ?_
  rw [nI_clamp (by omega)]
  exact kk
/-- where the law stands between two calls -/
def lw_I (cI cL : ClassId) (D : va_G) (A : Nat → Prop) (a bb : Nat → Nat) (N pl : Nat) (pe : Int32) (cn : Nat → Nat) (P M : Nat → Nat → Int32) (dk : Bool) (dep : Nat → Int32) (P' M' pth dep' : Nat → Int32) (H0 H : Heap) (locs : List Loc) : Prop :=
  va_P D classes (RPw cI cL a dep dk N pl pe cn P M) H ∧ va_P D classes (MDw cI bb N pl cn P' M' pth dep') H ∧ va_S A H0 H locs ∧ Rel N pl pe cn P M dk dep P' M' pth
set_option maxHeartbeats 8000000 in
set_option maxRecDepth 100000 in
theorem law_loop {p : Program} {l : Launch} {e : Env} {s : State} {m : MethodId} {below : List Frame} {meth : Method} {c : Code} {b L : Nat} {xs : Nat → Int32} (hL : L ≤ 2048) (C0 : lw_At p s m meth c b L xs) {D : va_G} {cI cL : ClassId} {a bb : Nat → Nat} (hK : va_K D classes (tyl cI cL) s) {A : Nat → Prop} (hAe : A = fun q : Nat => s.heap.size ≤ q) (hD1 : va_D A (RPw cI cL a (fun _ => 0) false 1 0 0 (fun _ => 0) (fun _ _ => 0) (fun _ _ => 0))) (hD2 : va_D A (MDw cI bb 1 0 (fun _ => 0) (fun _ => 0) (fun _ => 0) (fun _ => 0) (fun _ => 0))) (hdis : ∀ q, adr (RPw cI cL a (fun _ => 0) false 1 0 0 (fun _ => 0) (fun _ _ => 0) (fun _ _ => 0)) q → ¬ adr (MDw cI bb 1 0 (fun _ => 0) (fun _ => 0) (fun _ => 0) (fun _ => 0) (fun _ => 0)) q) : ∀ (nf i : Nat) (N pl : Nat) (pe : Int32) (cn : Nat → Nat) (P M : Nat → Nat → Int32) (dk : Bool) (dep : Nat → Int32) (P' M' pth dep' : Nat → Int32) (H : Heap) (locs : List Loc) (ls : Array Slot), L - i < nf → i ≤ L → lw_I cI cL D A a bb N pl pe cn P M dk dep P' M' pth dep' s.heap H locs → lv_has ls 4 [(3, .int (nI i)), (2, .ref (bb 0)), (1, .ref (a 0)), (0, .ref b)] → W p l e room_1 s m #[Value.ref b] below meth c H locs 21 609 (lw_Z below #[Value.ref b] s) (F0 m 18 ls []) := by
  obtain ⟨hx, hb, hr, hml, hown, hts, hX, hbl, hlocks, hgv⟩ := id C0
  have S : CallFix p m c code 4 s #[Value.ref b] wt RL := ⟨hx, hb, hml, hown, lw_w hts⟩
  have hN := lw_NS hts
  have hbA : ¬ A b := by rw [hAe]; exact Nat.not_le.mpr hbl
  intro nf
  induction nf with
  | zero => exact fun i N pl pe cn P M dk dep P' M' pth dep' H locs ls hn => absurd hn (Nat.not_lt_zero _)
  | succ nf ih =>
    intro i N pl pe cn P M dk dep P' M' pth dep' H locs ls hn hi hI hl
    have hend : ∀ (N pl : Nat) (pe : Int32) (cn : Nat → Nat) (P M : Nat → Nat → Int32) (dk : Bool) (dep : Nat → Int32) (P' M' pth dep' : Nat → Int32) (H : Heap) (locs : List Loc) (ls : Array Slot), i + 4 ≤ L → lw_I cI cL D A a bb N pl pe cn P M dk dep P' M' pth dep' s.heap H locs → lv_has ls 4 [(3, .int (nI i)), (2, .ref (bb 0)), (1, .ref (a 0)), (0, .ref b)] → W p l e room_1 s m #[Value.ref b] below meth c H locs 21 609 (lw_Z below #[Value.ref b] s) (F0 m 413 ls []) := by
      intro N pl pe cn P M dk dep P' M' pth dep' H locs ls h4 hI hl
      refine lv_iinc (v := nI (i + 4)) (lv' := [(3, .int (nI (i + 4))), (2, .ref (bb 0)), (1, .ref (a 0)), (0, .ref b)]) hx hb dL_law_413 hl (k := 0) rfl (nI_add _ _) (by decide) rfl (fun ls hl => ?_)
      refine lv_goto (tgt := 18) hx hb dL_law_416 (by decide) ?_
      exact ih (i + 4) N pl pe cn P M dk dep P' M' pth dep' H locs ls (by omega) h4 hI hl
    obtain ⟨hP1, hP2, hS, hR⟩ := hI
    refine lv_iload_n hx hb dL_law_18 rfl (lv_at hl 0 rfl) ?_
    refine lv_aload_n hx hb dL_law_19 rfl (lv_at hl 3 rfl) ?_
    refine va_slen hx hb hX hbl hbA hS dL_law_20 ?_
    refine lv_iconst (v := nI 4) hx hb dL_law_21 (by decide) ?_
    refine lv_isub hx hb dL_law_22 ?_
    refine lv_icmp_gt (tgt := 419) hx hb dL_law_23 (by decide) (fun _ => ?_) (fun hc => ?_)
    · refine lv_iconst (v := 1) hx hb dL_law_419 (by decide) ?_
      refine va_forget (fun q hq => by have := hS.2.2 q hq; rw [hAe] at this; exact this) ?_
      refine W.widen (k := 600000) (n := 7302250) (Nat.le_of_ble_eq_true rfl) (Nat.le_of_ble_eq_true rfl) ?_
      exact lw_ret hx hb hr hlocks dL_law_420
    have h4 := lw_c hL hi hc
    refine lv_aload_n hx hb dL_law_26 rfl (lv_at hl 3 rfl) ?_
    refine lv_iload_n hx hb dL_law_27 rfl (lv_at hl 0 rfl) ?_
    refine lw_ld hx hb hX hbl hbA hS (show i < L by omega) hL dL_law_28 ?_
    refine lv_bipush (v := nI 15) hx hb dL_law_29 (by decide) ?_
    refine lv_iand hx hb dL_law_31 ?_
    obtain ⟨op, hop, eop⟩ := pk_andE (xs i) (m := nI 15) 4 (by decide)
    refine tp (y := nI op) eop ?_
    have hV := hR.1.1
    have hE1 : va_D A (RPw cI cL a dep dk N pl pe cn P M) := D_same hD1 rfl
    have hE2 : va_D A (MDw cI bb N pl cn P' M' pth dep') := D_same hD2 rfl
    rcases (show op = 0 ∨ op = 1 ∨ op = 2 ∨ op = 3 ∨ op = 4 ∨ op = 5 ∨ op = 6 ∨ op = 7 ∨ op = 8 ∨ op = 9 ∨ op = 10 ∨ op = 11 ∨ op = 12 ∨ op = 13 ∨ op = 14 ∨ op = 15 by omega) with rfl | rfl | rfl | rfl | rfl | rfl | rfl | rfl | rfl | rfl | rfl | rfl | rfl | rfl | rfl | rfl
    · refine lv_tableIn (off := 76) (tgt := 108) hx hb dL_law_32 (by decide) (by decide) (by decide) (by decide) ?_
      rcases hq : bgB (xs (i + 1)) with _ | _
      · refine lv_aload_n hx hb dL_law_108 rfl (lv_at hl 2 rfl) ?_
        refine lv_aload_n hx hb dL_law_109 rfl (lv_at hl 3 rfl) ?_
        refine lv_iload_n hx hb dL_law_110 rfl (lv_at hl 0 rfl) ?_
        refine lv_iconst (v := nI 1) hx hb dL_law_111 (by decide) ?_
        refine lv_iadd hx hb dL_law_112 ?_
        refine tp (y := nI (i + 1)) (nI_add _ _) ?_
        refine lw_ld hx hb hX hbl hbA hS (show i + 1 < L by omega) hL dL_law_113 ?_
        refine rdV S cv_RL_13 (c_X1_begin_f (x := xs (i + 1)) hq) hK hN hP1 (rp_rv hK hP1) ⟨Nat.le_of_ble_eq_true rfl, Nat.le_of_ble_eq_true rfl⟩ ⟨Nat.le_of_ble_eq_true rfl, Nat.le_of_ble_eq_true rfl⟩ rfl hl.1 rfl (Nat.le_of_ble_eq_true rfl) dL_law_114 ?_
        refine lv_aload_n hx hb dL_law_117 rfl (lv_at hl 1 rfl) ?_
        refine lv_aload_n hx hb dL_law_118 rfl (lv_at hl 3 rfl) ?_
        refine lv_iload_n hx hb dL_law_119 rfl (lv_at hl 0 rfl) ?_
        refine lv_iconst (v := nI 1) hx hb dL_law_120 (by decide) ?_
        refine lv_iadd hx hb dL_law_121 ?_
        refine tp (y := nI (i + 1)) (nI_add _ _) ?_
        refine lw_ld hx hb hX hbl hbA hS (show i + 1 < L by omega) hL dL_law_122 ?_
        refine rdV S cv_RL_17 (c_X2_begin_f (x := xs (i + 1)) hq) hK hN hP2 (md_rv hK hP2) ⟨Nat.le_of_ble_eq_true rfl, Nat.le_of_ble_eq_true rfl⟩ ⟨Nat.le_of_ble_eq_true rfl, Nat.le_of_ble_eq_true rfl⟩ rfl hl.1 rfl (Nat.le_of_ble_eq_true rfl) dL_law_123 ?_
        refine lv_icmp_eq (tgt := 413) hx hb dL_law_126 (by decide) (fun _ => ?_) (fun hh => absurd rfl hh)
        exact hend _ _ _ _ _ _ _ _ _ _ _ _ _ _ ls h4 ⟨hP1, hP2, hS, hR⟩ hl
      · obtain ⟨n, hn1, hn6, en⟩ := bgB_t hq
        refine lv_aload_n hx hb dL_law_108 rfl (lv_at hl 2 rfl) ?_
        refine lv_aload_n hx hb dL_law_109 rfl (lv_at hl 3 rfl) ?_
        refine lv_iload_n hx hb dL_law_110 rfl (lv_at hl 0 rfl) ?_
        refine lv_iconst (v := nI 1) hx hb dL_law_111 (by decide) ?_
        refine lv_iadd hx hb dL_law_112 ?_
        refine tp (y := nI (i + 1)) (nI_add _ _) ?_
        refine lw_ld hx hb hX hbl hbA hS (show i + 1 < L by omega) hL dL_law_113 ?_
        refine tp (y := nI n) en ?_
        refine wrVi S cv_RL_13 (c_X1_begin_t (n := n) hn1 hn6) hK hN hP1 hE1 hS (rp_rv hK hP1) ⟨Nat.le_of_ble_eq_true rfl, Nat.le_of_ble_eq_true rfl⟩ ⟨Nat.le_of_ble_eq_true rfl, Nat.le_of_ble_eq_true rfl⟩ rfl hl.1 rfl (Nat.le_of_ble_eq_true rfl) dL_law_114 (fun H locs hP1n hS hkk => ?_)
        have hP2 := P_keep hP2 hkk (fun q h1 h2 => hdis q (adr_rp h1) (adr_md h2))
        have hP1 := hP1n
        refine lv_aload_n hx hb dL_law_117 rfl (lv_at hl 1 rfl) ?_
        refine lv_aload_n hx hb dL_law_118 rfl (lv_at hl 3 rfl) ?_
        refine lv_iload_n hx hb dL_law_119 rfl (lv_at hl 0 rfl) ?_
        refine lv_iconst (v := nI 1) hx hb dL_law_120 (by decide) ?_
        refine lv_iadd hx hb dL_law_121 ?_
        refine tp (y := nI (i + 1)) (nI_add _ _) ?_
        refine lw_ld hx hb hX hbl hbA hS (show i + 1 < L by omega) hL dL_law_122 ?_
        refine tp (y := nI n) en ?_
        refine wrVi S cv_RL_17 (c_X2_begin_t (n := n) hn1 hn6) hK hN hP2 hE2 hS (md_rv hK hP2) ⟨Nat.le_of_ble_eq_true rfl, Nat.le_of_ble_eq_true rfl⟩ ⟨Nat.le_of_ble_eq_true rfl, Nat.le_of_ble_eq_true rfl⟩ rfl hl.1 rfl (Nat.le_of_ble_eq_true rfl) dL_law_123 (fun H locs hP2n hS hkk => ?_)
        have hP1 := P_keep hP1 hkk (fun q h1 h2 => hdis q (adr_rp h2) (adr_md h1))
        have hP2 := hP2n
        refine lv_icmp_eq (tgt := 413) hx hb dL_law_126 (by decide) (fun _ => ?_) (fun hh => absurd rfl hh)
        exact hend _ _ _ _ _ _ _ _ _ _ _ _ _ _ ls h4 ⟨hP1, hP2, hS, Rel.begin hn1 hn6⟩ hl
    · refine lv_tableIn (off := 99) (tgt := 131) hx hb dL_law_32 (by decide) (by decide) (by decide) (by decide) ?_
      rcases hq : clB N cn (xs (i + 1)) (xs (i + 2)) (xs (i + 3)) with _ | _
      · refine lv_aload_n hx hb dL_law_131 rfl (lv_at hl 2 rfl) ?_
        refine lv_aload_n hx hb dL_law_132 rfl (lv_at hl 3 rfl) ?_
        refine lv_iload_n hx hb dL_law_133 rfl (lv_at hl 0 rfl) ?_
        refine lv_iconst (v := nI 1) hx hb dL_law_134 (by decide) ?_
        refine lv_iadd hx hb dL_law_135 ?_
        refine tp (y := nI (i + 1)) (nI_add _ _) ?_
        refine lw_ld hx hb hX hbl hbA hS (show i + 1 < L by omega) hL dL_law_136 ?_
        refine lv_aload_n hx hb dL_law_137 rfl (lv_at hl 3 rfl) ?_
        refine lv_iload_n hx hb dL_law_138 rfl (lv_at hl 0 rfl) ?_
        refine lv_iconst (v := nI 2) hx hb dL_law_139 (by decide) ?_
        refine lv_iadd hx hb dL_law_140 ?_
        refine tp (y := nI (i + 2)) (nI_add _ _) ?_
        refine lw_ld hx hb hX hbl hbA hS (show i + 2 < L by omega) hL dL_law_141 ?_
        refine lv_aload_n hx hb dL_law_142 rfl (lv_at hl 3 rfl) ?_
        refine lv_iload_n hx hb dL_law_143 rfl (lv_at hl 0 rfl) ?_
        refine lv_iconst (v := nI 3) hx hb dL_law_144 (by decide) ?_
        refine lv_iadd hx hb dL_law_145 ?_
        refine tp (y := nI (i + 3)) (nI_add _ _) ?_
        refine lw_ld hx hb hX hbl hbA hS (show i + 3 < L by omega) hL dL_law_146 ?_
        refine rdV S cv_RL_18 (c_X1_clause_f (li := xs (i + 1)) (x := xs (i + 2)) (y := xs (i + 3)) hq hV) hK hN hP1 (rp_rv hK hP1) ⟨Nat.le_of_ble_eq_true rfl, Nat.le_of_ble_eq_true rfl⟩ ⟨Nat.le_of_ble_eq_true rfl, Nat.le_of_ble_eq_true rfl⟩ rfl hl.1 rfl (Nat.le_of_ble_eq_true rfl) dL_law_147 ?_
        refine lv_aload_n hx hb dL_law_150 rfl (lv_at hl 1 rfl) ?_
        refine lv_aload_n hx hb dL_law_151 rfl (lv_at hl 3 rfl) ?_
        refine lv_iload_n hx hb dL_law_152 rfl (lv_at hl 0 rfl) ?_
        refine lv_iconst (v := nI 1) hx hb dL_law_153 (by decide) ?_
        refine lv_iadd hx hb dL_law_154 ?_
        refine tp (y := nI (i + 1)) (nI_add _ _) ?_
        refine lw_ld hx hb hX hbl hbA hS (show i + 1 < L by omega) hL dL_law_155 ?_
        refine lv_aload_n hx hb dL_law_156 rfl (lv_at hl 3 rfl) ?_
        refine lv_iload_n hx hb dL_law_157 rfl (lv_at hl 0 rfl) ?_
        refine lv_iconst (v := nI 2) hx hb dL_law_158 (by decide) ?_
        refine lv_iadd hx hb dL_law_159 ?_
        refine tp (y := nI (i + 2)) (nI_add _ _) ?_
        refine lw_ld hx hb hX hbl hbA hS (show i + 2 < L by omega) hL dL_law_160 ?_
        refine lv_aload_n hx hb dL_law_161 rfl (lv_at hl 3 rfl) ?_
        refine lv_iload_n hx hb dL_law_162 rfl (lv_at hl 0 rfl) ?_
        refine lv_iconst (v := nI 3) hx hb dL_law_163 (by decide) ?_
        refine lv_iadd hx hb dL_law_164 ?_
        refine tp (y := nI (i + 3)) (nI_add _ _) ?_
        refine lw_ld hx hb hX hbl hbA hS (show i + 3 < L by omega) hL dL_law_165 ?_
        refine rdV S cv_RL_22 (c_X2_clause_f (li := xs (i + 1)) (x := xs (i + 2)) (y := xs (i + 3)) hq hV) hK hN hP2 (md_rv hK hP2) ⟨Nat.le_of_ble_eq_true rfl, Nat.le_of_ble_eq_true rfl⟩ ⟨Nat.le_of_ble_eq_true rfl, Nat.le_of_ble_eq_true rfl⟩ rfl hl.1 rfl (Nat.le_of_ble_eq_true rfl) dL_law_166 ?_
        refine lv_icmp_eq (tgt := 413) hx hb dL_law_169 (by decide) (fun _ => ?_) (fun hh => absurd rfl hh)
        exact hend _ _ _ _ _ _ _ _ _ _ _ _ _ _ ls h4 ⟨hP1, hP2, hS, hR⟩ hl
      · obtain ⟨k, hk, ek, hx1, hy1, hc1⟩ := clB_e hq
        refine lv_aload_n hx hb dL_law_131 rfl (lv_at hl 2 rfl) ?_
        refine lv_aload_n hx hb dL_law_132 rfl (lv_at hl 3 rfl) ?_
        refine lv_iload_n hx hb dL_law_133 rfl (lv_at hl 0 rfl) ?_
        refine lv_iconst (v := nI 1) hx hb dL_law_134 (by decide) ?_
        refine lv_iadd hx hb dL_law_135 ?_
        refine tp (y := nI (i + 1)) (nI_add _ _) ?_
        refine lw_ld hx hb hX hbl hbA hS (show i + 1 < L by omega) hL dL_law_136 ?_
        refine tp (y := nI k) ek ?_
        refine lv_aload_n hx hb dL_law_137 rfl (lv_at hl 3 rfl) ?_
        refine lv_iload_n hx hb dL_law_138 rfl (lv_at hl 0 rfl) ?_
        refine lv_iconst (v := nI 2) hx hb dL_law_139 (by decide) ?_
        refine lv_iadd hx hb dL_law_140 ?_
        refine tp (y := nI (i + 2)) (nI_add _ _) ?_
        refine lw_ld hx hb hX hbl hbA hS (show i + 2 < L by omega) hL dL_law_141 ?_
        refine lv_aload_n hx hb dL_law_142 rfl (lv_at hl 3 rfl) ?_
        refine lv_iload_n hx hb dL_law_143 rfl (lv_at hl 0 rfl) ?_
        refine lv_iconst (v := nI 3) hx hb dL_law_144 (by decide) ?_
        refine lv_iadd hx hb dL_law_145 ?_
        refine tp (y := nI (i + 3)) (nI_add _ _) ?_
        refine lw_ld hx hb hX hbl hbA hS (show i + 3 < L by omega) hL dL_law_146 ?_
        refine wrVi S cv_RL_18 (c_X1_clause_t (k := k) (x := xs (i + 2)) (y := xs (i + 3)) hk hx1 hy1 hc1 hV) hK hN hP1 hE1 hS (rp_rv hK hP1) ⟨Nat.le_of_ble_eq_true rfl, Nat.le_of_ble_eq_true rfl⟩ ⟨Nat.le_of_ble_eq_true rfl, Nat.le_of_ble_eq_true rfl⟩ rfl hl.1 rfl (Nat.le_of_ble_eq_true rfl) dL_law_147 (fun H locs hP1n hS hkk => ?_)
        have hP2 := P_keep hP2 hkk (fun q h1 h2 => hdis q (adr_rp h1) (adr_md h2))
        have hP1 := hP1n
        refine lv_aload_n hx hb dL_law_150 rfl (lv_at hl 1 rfl) ?_
        refine lv_aload_n hx hb dL_law_151 rfl (lv_at hl 3 rfl) ?_
        refine lv_iload_n hx hb dL_law_152 rfl (lv_at hl 0 rfl) ?_
        refine lv_iconst (v := nI 1) hx hb dL_law_153 (by decide) ?_
        refine lv_iadd hx hb dL_law_154 ?_
        refine tp (y := nI (i + 1)) (nI_add _ _) ?_
        refine lw_ld hx hb hX hbl hbA hS (show i + 1 < L by omega) hL dL_law_155 ?_
        refine tp (y := nI k) ek ?_
        refine lv_aload_n hx hb dL_law_156 rfl (lv_at hl 3 rfl) ?_
        refine lv_iload_n hx hb dL_law_157 rfl (lv_at hl 0 rfl) ?_
        refine lv_iconst (v := nI 2) hx hb dL_law_158 (by decide) ?_
        refine lv_iadd hx hb dL_law_159 ?_
        refine tp (y := nI (i + 2)) (nI_add _ _) ?_
        refine lw_ld hx hb hX hbl hbA hS (show i + 2 < L by omega) hL dL_law_160 ?_
        refine lv_aload_n hx hb dL_law_161 rfl (lv_at hl 3 rfl) ?_
        refine lv_iload_n hx hb dL_law_162 rfl (lv_at hl 0 rfl) ?_
        refine lv_iconst (v := nI 3) hx hb dL_law_163 (by decide) ?_
        refine lv_iadd hx hb dL_law_164 ?_
        refine tp (y := nI (i + 3)) (nI_add _ _) ?_
        refine lw_ld hx hb hX hbl hbA hS (show i + 3 < L by omega) hL dL_law_165 ?_
        refine wrVi S cv_RL_22 (c_X2_clause_t (k := k) (x := xs (i + 2)) (y := xs (i + 3)) hk hx1 hy1 hc1 hV) hK hN hP2 hE2 hS (md_rv hK hP2) ⟨Nat.le_of_ble_eq_true rfl, Nat.le_of_ble_eq_true rfl⟩ ⟨Nat.le_of_ble_eq_true rfl, Nat.le_of_ble_eq_true rfl⟩ rfl hl.1 rfl (Nat.le_of_ble_eq_true rfl) dL_law_166 (fun H locs hP2n hS hkk => ?_)
        have hP1 := P_keep hP1 hkk (fun q h1 h2 => hdis q (adr_rp h2) (adr_md h1))
        have hP2 := hP2n
        refine lv_icmp_eq (tgt := 413) hx hb dL_law_169 (by decide) (fun _ => ?_) (fun hh => absurd rfl hh)
        exact hend _ _ _ _ _ _ _ _ _ _ _ _ _ _ ls h4 ⟨hP1, hP2, hS, hR.clause hk hx1 hy1 hc1⟩ hl
    · refine lv_tableIn (off := 142) (tgt := 174) hx hb dL_law_32 (by decide) (by decide) (by decide) (by decide) ?_
      rcases hq : drB cn (xs (i + 1)) with _ | _
      · refine lv_aload_n hx hb dL_law_174 rfl (lv_at hl 2 rfl) ?_
        refine lv_aload_n hx hb dL_law_175 rfl (lv_at hl 3 rfl) ?_
        refine lv_iload_n hx hb dL_law_176 rfl (lv_at hl 0 rfl) ?_
        refine lv_iconst (v := nI 1) hx hb dL_law_177 (by decide) ?_
        refine lv_iadd hx hb dL_law_178 ?_
        refine tp (y := nI (i + 1)) (nI_add _ _) ?_
        refine lw_ld hx hb hX hbl hbA hS (show i + 1 < L by omega) hL dL_law_179 ?_
        refine rdV S cv_RL_23 (c_X1_drop_f (li := xs (i + 1)) hq hV) hK hN hP1 (rp_rv hK hP1) ⟨Nat.le_of_ble_eq_true rfl, Nat.le_of_ble_eq_true rfl⟩ ⟨Nat.le_of_ble_eq_true rfl, Nat.le_of_ble_eq_true rfl⟩ rfl hl.1 rfl (Nat.le_of_ble_eq_true rfl) dL_law_180 ?_
        refine lv_aload_n hx hb dL_law_183 rfl (lv_at hl 1 rfl) ?_
        refine lv_aload_n hx hb dL_law_184 rfl (lv_at hl 3 rfl) ?_
        refine lv_iload_n hx hb dL_law_185 rfl (lv_at hl 0 rfl) ?_
        refine lv_iconst (v := nI 1) hx hb dL_law_186 (by decide) ?_
        refine lv_iadd hx hb dL_law_187 ?_
        refine tp (y := nI (i + 1)) (nI_add _ _) ?_
        refine lw_ld hx hb hX hbl hbA hS (show i + 1 < L by omega) hL dL_law_188 ?_
        refine rdV S cv_RL_27 (c_X2_drop_f (li := xs (i + 1)) hq) hK hN hP2 (md_rv hK hP2) ⟨Nat.le_of_ble_eq_true rfl, Nat.le_of_ble_eq_true rfl⟩ ⟨Nat.le_of_ble_eq_true rfl, Nat.le_of_ble_eq_true rfl⟩ rfl hl.1 rfl (Nat.le_of_ble_eq_true rfl) dL_law_189 ?_
        refine lv_icmp_eq (tgt := 413) hx hb dL_law_192 (by decide) (fun _ => ?_) (fun hh => absurd rfl hh)
        exact hend _ _ _ _ _ _ _ _ _ _ _ _ _ _ ls h4 ⟨hP1, hP2, hS, hR⟩ hl
      · obtain ⟨k, hk, ek, hp1⟩ := drB_e hq
        refine lv_aload_n hx hb dL_law_174 rfl (lv_at hl 2 rfl) ?_
        refine lv_aload_n hx hb dL_law_175 rfl (lv_at hl 3 rfl) ?_
        refine lv_iload_n hx hb dL_law_176 rfl (lv_at hl 0 rfl) ?_
        refine lv_iconst (v := nI 1) hx hb dL_law_177 (by decide) ?_
        refine lv_iadd hx hb dL_law_178 ?_
        refine tp (y := nI (i + 1)) (nI_add _ _) ?_
        refine lw_ld hx hb hX hbl hbA hS (show i + 1 < L by omega) hL dL_law_179 ?_
        refine tp (y := nI k) ek ?_
        refine wrVi S cv_RL_23 (c_X1_drop_t (k := k) hk hp1 hV) hK hN hP1 hE1 hS (rp_rv hK hP1) ⟨Nat.le_of_ble_eq_true rfl, Nat.le_of_ble_eq_true rfl⟩ ⟨Nat.le_of_ble_eq_true rfl, Nat.le_of_ble_eq_true rfl⟩ rfl hl.1 rfl (Nat.le_of_ble_eq_true rfl) dL_law_180 (fun H locs hP1n hS hkk => ?_)
        have hP2 := P_keep hP2 hkk (fun q h1 h2 => hdis q (adr_rp h1) (adr_md h2))
        have hP1 := hP1n
        refine lv_aload_n hx hb dL_law_183 rfl (lv_at hl 1 rfl) ?_
        refine lv_aload_n hx hb dL_law_184 rfl (lv_at hl 3 rfl) ?_
        refine lv_iload_n hx hb dL_law_185 rfl (lv_at hl 0 rfl) ?_
        refine lv_iconst (v := nI 1) hx hb dL_law_186 (by decide) ?_
        refine lv_iadd hx hb dL_law_187 ?_
        refine tp (y := nI (i + 1)) (nI_add _ _) ?_
        refine lw_ld hx hb hX hbl hbA hS (show i + 1 < L by omega) hL dL_law_188 ?_
        refine tp (y := nI k) ek ?_
        refine wrVi S cv_RL_27 (c_X2_drop_t (k := k) hk hp1 hV) hK hN hP2 hE2 hS (md_rv hK hP2) ⟨Nat.le_of_ble_eq_true rfl, Nat.le_of_ble_eq_true rfl⟩ ⟨Nat.le_of_ble_eq_true rfl, Nat.le_of_ble_eq_true rfl⟩ rfl hl.1 rfl (Nat.le_of_ble_eq_true rfl) dL_law_189 (fun H locs hP2n hS hkk => ?_)
        have hP1 := P_keep hP1 hkk (fun q h1 h2 => hdis q (adr_rp h2) (adr_md h1))
        have hP2 := hP2n
        refine lv_icmp_eq (tgt := 413) hx hb dL_law_192 (by decide) (fun _ => ?_) (fun hh => absurd rfl hh)
        exact hend _ _ _ _ _ _ _ _ _ _ _ _ _ _ ls h4 ⟨hP1, hP2, hS, hR.drop hk hp1⟩ hl
    · refine lv_tableIn (off := 165) (tgt := 197) hx hb dL_law_32 (by decide) (by decide) (by decide) (by decide) ?_
      refine lv_aload_n hx hb dL_law_197 rfl (lv_at hl 2 rfl) ?_
      refine rdV S cv_RL_28 (c_X1_switches) hK hN hP1 (rp_rv hK hP1) ⟨Nat.le_of_ble_eq_true rfl, Nat.le_of_ble_eq_true rfl⟩ ⟨Nat.le_of_ble_eq_true rfl, Nat.le_of_ble_eq_true rfl⟩ rfl hl.1 rfl (Nat.le_of_ble_eq_true rfl) dL_law_198 ?_
      refine lv_aload_n hx hb dL_law_201 rfl (lv_at hl 1 rfl) ?_
      refine rdV S cv_RL_32 (c_X2_switches) hK hN hP2 (md_rv hK hP2) ⟨Nat.le_of_ble_eq_true rfl, Nat.le_of_ble_eq_true rfl⟩ ⟨Nat.le_of_ble_eq_true rfl, Nat.le_of_ble_eq_true rfl⟩ rfl hl.1 rfl (Nat.le_of_ble_eq_true rfl) dL_law_202 ?_
      refine lv_icmp_eq (tgt := 413) hx hb dL_law_205 (by decide) (fun _ => ?_) (fun hh => absurd rfl hh)
      exact hend _ _ _ _ _ _ _ _ _ _ _ _ _ _ ls h4 ⟨hP1, hP2, hS, hR⟩ hl
    · refine lv_tableIn (off := 178) (tgt := 210) hx hb dL_law_32 (by decide) (by decide) (by decide) (by decide) ?_
      refine lv_aload_n hx hb dL_law_210 rfl (lv_at hl 2 rfl) ?_
      refine lv_aload_n hx hb dL_law_211 rfl (lv_at hl 3 rfl) ?_
      refine lv_iload_n hx hb dL_law_212 rfl (lv_at hl 0 rfl) ?_
      refine lv_iconst (v := nI 1) hx hb dL_law_213 (by decide) ?_
      refine lv_iadd hx hb dL_law_214 ?_
      refine tp (y := nI (i + 1)) (nI_add _ _) ?_
      refine lw_ld hx hb hX hbl hbA hS (show i + 1 < L by omega) hL dL_law_215 ?_
      refine rdV S cv_RL_33 (c_X1_count (x := xs (i + 1))) hK hN hP1 (rp_rv hK hP1) ⟨Nat.le_of_ble_eq_true rfl, Nat.le_of_ble_eq_true rfl⟩ ⟨Nat.le_of_ble_eq_true rfl, Nat.le_of_ble_eq_true rfl⟩ rfl hl.1 rfl (Nat.le_of_ble_eq_true rfl) dL_law_216 ?_
      refine lv_aload_n hx hb dL_law_219 rfl (lv_at hl 1 rfl) ?_
      refine lv_aload_n hx hb dL_law_220 rfl (lv_at hl 3 rfl) ?_
      refine lv_iload_n hx hb dL_law_221 rfl (lv_at hl 0 rfl) ?_
      refine lv_iconst (v := nI 1) hx hb dL_law_222 (by decide) ?_
      refine lv_iadd hx hb dL_law_223 ?_
      refine tp (y := nI (i + 1)) (nI_add _ _) ?_
      refine lw_ld hx hb hX hbl hbA hS (show i + 1 < L by omega) hL dL_law_224 ?_
      refine rdV S cv_RL_36 (c_X2_count (x := xs (i + 1))) hK hN hP2 (md_rv hK hP2) ⟨Nat.le_of_ble_eq_true rfl, Nat.le_of_ble_eq_true rfl⟩ ⟨Nat.le_of_ble_eq_true rfl, Nat.le_of_ble_eq_true rfl⟩ rfl hl.1 rfl (Nat.le_of_ble_eq_true rfl) dL_law_225 ?_
      refine lv_icmp_eq (tgt := 413) hx hb dL_law_228 (by decide) (fun _ => ?_) (fun hh => absurd rfl hh)
      exact hend _ _ _ _ _ _ _ _ _ _ _ _ _ _ ls h4 ⟨hP1, hP2, hS, hR⟩ hl
    · refine lv_tableIn (off := 201) (tgt := 233) hx hb dL_law_32 (by decide) (by decide) (by decide) (by decide) ?_
      refine lv_aload_n hx hb dL_law_233 rfl (lv_at hl 2 rfl) ?_
      refine lv_aload_n hx hb dL_law_234 rfl (lv_at hl 3 rfl) ?_
      refine lv_iload_n hx hb dL_law_235 rfl (lv_at hl 0 rfl) ?_
      refine lv_iconst (v := nI 1) hx hb dL_law_236 (by decide) ?_
      refine lv_iadd hx hb dL_law_237 ?_
      refine tp (y := nI (i + 1)) (nI_add _ _) ?_
      refine lw_ld hx hb hX hbl hbA hS (show i + 1 < L by omega) hL dL_law_238 ?_
      refine lv_aload_n hx hb dL_law_239 rfl (lv_at hl 3 rfl) ?_
      refine lv_iload_n hx hb dL_law_240 rfl (lv_at hl 0 rfl) ?_
      refine lv_iconst (v := nI 2) hx hb dL_law_241 (by decide) ?_
      refine lv_iadd hx hb dL_law_242 ?_
      refine tp (y := nI (i + 2)) (nI_add _ _) ?_
      refine lw_ld hx hb hX hbl hbA hS (show i + 2 < L by omega) hL dL_law_243 ?_
      refine lv_aload_n hx hb dL_law_244 rfl (lv_at hl 3 rfl) ?_
      refine lv_iload_n hx hb dL_law_245 rfl (lv_at hl 0 rfl) ?_
      refine lv_iconst (v := nI 3) hx hb dL_law_246 (by decide) ?_
      refine lv_iadd hx hb dL_law_247 ?_
      refine tp (y := nI (i + 3)) (nI_add _ _) ?_
      refine lw_ld hx hb hX hbl hbA hS (show i + 3 < L by omega) hL dL_law_248 ?_
      refine rdV S cv_RL_37 (c_X1_holds (li := xs (i + 1)) (x := xs (i + 2)) (y := xs (i + 3)) hV) hK hN hP1 (rp_rv hK hP1) ⟨Nat.le_of_ble_eq_true rfl, Nat.le_of_ble_eq_true rfl⟩ ⟨Nat.le_of_ble_eq_true rfl, Nat.le_of_ble_eq_true rfl⟩ rfl hl.1 rfl (Nat.le_of_ble_eq_true rfl) dL_law_249 ?_
      refine lv_aload_n hx hb dL_law_252 rfl (lv_at hl 1 rfl) ?_
      refine lv_aload_n hx hb dL_law_253 rfl (lv_at hl 3 rfl) ?_
      refine lv_iload_n hx hb dL_law_254 rfl (lv_at hl 0 rfl) ?_
      refine lv_iconst (v := nI 1) hx hb dL_law_255 (by decide) ?_
      refine lv_iadd hx hb dL_law_256 ?_
      refine tp (y := nI (i + 1)) (nI_add _ _) ?_
      refine lw_ld hx hb hX hbl hbA hS (show i + 1 < L by omega) hL dL_law_257 ?_
      refine lv_aload_n hx hb dL_law_258 rfl (lv_at hl 3 rfl) ?_
      refine lv_iload_n hx hb dL_law_259 rfl (lv_at hl 0 rfl) ?_
      refine lv_iconst (v := nI 2) hx hb dL_law_260 (by decide) ?_
      refine lv_iadd hx hb dL_law_261 ?_
      refine tp (y := nI (i + 2)) (nI_add _ _) ?_
      refine lw_ld hx hb hX hbl hbA hS (show i + 2 < L by omega) hL dL_law_262 ?_
      refine lv_aload_n hx hb dL_law_263 rfl (lv_at hl 3 rfl) ?_
      refine lv_iload_n hx hb dL_law_264 rfl (lv_at hl 0 rfl) ?_
      refine lv_iconst (v := nI 3) hx hb dL_law_265 (by decide) ?_
      refine lv_iadd hx hb dL_law_266 ?_
      refine tp (y := nI (i + 3)) (nI_add _ _) ?_
      refine lw_ld hx hb hX hbl hbA hS (show i + 3 < L by omega) hL dL_law_267 ?_
      refine rdV S cv_RL_41 (c_X2_holds (li := xs (i + 1)) (x := xs (i + 2)) (y := xs (i + 3)) hV) hK hN hP2 (md_rv hK hP2) ⟨Nat.le_of_ble_eq_true rfl, Nat.le_of_ble_eq_true rfl⟩ ⟨Nat.le_of_ble_eq_true rfl, Nat.le_of_ble_eq_true rfl⟩ rfl hl.1 rfl (Nat.le_of_ble_eq_true rfl) dL_law_268 ?_
      refine lv_icmp_eq (tgt := 413) hx hb dL_law_271 (by decide) (fun _ => ?_) (fun hh => absurd (congrArg bI (ho_ho hR.1 _ _ _)) hh)
      exact hend _ _ _ _ _ _ _ _ _ _ _ _ _ _ ls h4 ⟨hP1, hP2, hS, hR⟩ hl
    · refine lv_tableIn (off := 244) (tgt := 276) hx hb dL_law_32 (by decide) (by decide) (by decide) (by decide) ?_
      refine lv_aload_n hx hb dL_law_276 rfl (lv_at hl 2 rfl) ?_
      refine wrVi S cv_RL_42 (c_X1_safe hV) hK hN hP1 hE1 hS (rp_rv hK hP1) ⟨Nat.le_of_ble_eq_true rfl, Nat.le_of_ble_eq_true rfl⟩ ⟨Nat.le_of_ble_eq_true rfl, Nat.le_of_ble_eq_true rfl⟩ rfl hl.1 rfl (Nat.le_of_ble_eq_true rfl) dL_law_277 (fun H locs hP1n hS hkk => ?_)
      have hP2 := P_keep hP2 hkk (fun q h1 h2 => hdis q (adr_rp h1) (adr_md h2))
      have hP1 := hP1n
      refine lv_aload_n hx hb dL_law_280 rfl (lv_at hl 1 rfl) ?_
      refine wrVi S cv_RL_46 (c_X2_safe hV) hK hN hP2 hE2 hS (md_rv hK hP2) ⟨Nat.le_of_ble_eq_true rfl, Nat.le_of_ble_eq_true rfl⟩ ⟨Nat.le_of_ble_eq_true rfl, Nat.le_of_ble_eq_true rfl⟩ rfl hl.1 rfl (Nat.le_of_ble_eq_true rfl) dL_law_281 (fun H locs hP2n hS hkk => ?_)
      have hP1 := P_keep hP1 hkk (fun q h1 h2 => hdis q (adr_rp h2) (adr_md h1))
      have hP2 := hP2n
      refine lv_icmp_eq (tgt := 413) hx hb dL_law_284 (by decide) (fun _ => ?_) (fun hh => absurd (congrArg bI (safe_safe hR.1 hR.DD)) hh)
      exact hend _ _ _ _ _ _ _ _ _ _ _ _ _ _ ls h4 ⟨hP1, hP2, hS, hR.known⟩ hl
    · refine lv_tableIn (off := 257) (tgt := 289) hx hb dL_law_32 (by decide) (by decide) (by decide) (by decide) ?_
      refine lv_aload_n hx hb dL_law_289 rfl (lv_at hl 2 rfl) ?_
      refine wrVi S cv_RL_47 (c_X1_steps hV) hK hN hP1 hE1 hS (rp_rv hK hP1) ⟨Nat.le_of_ble_eq_true rfl, Nat.le_of_ble_eq_true rfl⟩ ⟨Nat.le_of_ble_eq_true rfl, Nat.le_of_ble_eq_true rfl⟩ rfl hl.1 rfl (Nat.le_of_ble_eq_true rfl) dL_law_290 (fun H locs hP1n hS hkk => ?_)
      have hP2 := P_keep hP2 hkk (fun q h1 h2 => hdis q (adr_rp h1) (adr_md h2))
      have hP1 := hP1n
      refine lv_aload_n hx hb dL_law_293 rfl (lv_at hl 1 rfl) ?_
      refine wrVi S cv_RL_50 (c_X2_steps hV) hK hN hP2 hE2 hS (md_rv hK hP2) ⟨Nat.le_of_ble_eq_true rfl, Nat.le_of_ble_eq_true rfl⟩ ⟨Nat.le_of_ble_eq_true rfl, Nat.le_of_ble_eq_true rfl⟩ rfl hl.1 rfl (Nat.le_of_ble_eq_true rfl) dL_law_294 (fun H locs hP2n hS hkk => ?_)
      have hP1 := P_keep hP1 hkk (fun q h1 h2 => hdis q (adr_rp h2) (adr_md h1))
      have hP2 := hP2n
      refine lv_icmp_eq (tgt := 413) hx hb dL_law_297 (by decide) (fun _ => ?_) (fun hh => absurd (st_st hR.1 hR.DD) hh)
      exact hend _ _ _ _ _ _ _ _ _ _ _ _ _ _ ls h4 ⟨hP1, hP2, hS, hR.known⟩ hl
    · refine lv_tableIn (off := 270) (tgt := 302) hx hb dL_law_32 (by decide) (by decide) (by decide) (by decide) ?_
      rcases hq : stB N (xs (i + 1)) with _ | _
      · refine lv_aload_n hx hb dL_law_302 rfl (lv_at hl 2 rfl) ?_
        refine lv_aload_n hx hb dL_law_303 rfl (lv_at hl 3 rfl) ?_
        refine lv_iload_n hx hb dL_law_304 rfl (lv_at hl 0 rfl) ?_
        refine lv_iconst (v := nI 1) hx hb dL_law_305 (by decide) ?_
        refine lv_iadd hx hb dL_law_306 ?_
        refine tp (y := nI (i + 1)) (nI_add _ _) ?_
        refine lw_ld hx hb hX hbl hbA hS (show i + 1 < L by omega) hL dL_law_307 ?_
        refine rdV S cv_RL_51 (c_X1_depth_f (x := xs (i + 1)) hq hV) hK hN hP1 (rp_rv hK hP1) ⟨Nat.le_of_ble_eq_true rfl, Nat.le_of_ble_eq_true rfl⟩ ⟨Nat.le_of_ble_eq_true rfl, Nat.le_of_ble_eq_true rfl⟩ rfl hl.1 rfl (Nat.le_of_ble_eq_true rfl) dL_law_308 ?_
        refine lv_aload_n hx hb dL_law_311 rfl (lv_at hl 1 rfl) ?_
        refine lv_aload_n hx hb dL_law_312 rfl (lv_at hl 3 rfl) ?_
        refine lv_iload_n hx hb dL_law_313 rfl (lv_at hl 0 rfl) ?_
        refine lv_iconst (v := nI 1) hx hb dL_law_314 (by decide) ?_
        refine lv_iadd hx hb dL_law_315 ?_
        refine tp (y := nI (i + 1)) (nI_add _ _) ?_
        refine lw_ld hx hb hX hbl hbA hS (show i + 1 < L by omega) hL dL_law_316 ?_
        refine rdV S cv_RL_54 (c_X2_depth_f (x := xs (i + 1)) hq hV) hK hN hP2 (md_rv hK hP2) ⟨Nat.le_of_ble_eq_true rfl, Nat.le_of_ble_eq_true rfl⟩ ⟨Nat.le_of_ble_eq_true rfl, Nat.le_of_ble_eq_true rfl⟩ rfl hl.1 rfl (Nat.le_of_ble_eq_true rfl) dL_law_317 ?_
        refine lv_icmp_eq (tgt := 413) hx hb dL_law_320 (by decide) (fun _ => ?_) (fun hh => absurd rfl hh)
        exact hend _ _ _ _ _ _ _ _ _ _ _ _ _ _ ls h4 ⟨hP1, hP2, hS, hR⟩ hl
      · obtain ⟨t, ht, et⟩ := stB_e hV hq
        refine lv_aload_n hx hb dL_law_302 rfl (lv_at hl 2 rfl) ?_
        refine lv_aload_n hx hb dL_law_303 rfl (lv_at hl 3 rfl) ?_
        refine lv_iload_n hx hb dL_law_304 rfl (lv_at hl 0 rfl) ?_
        refine lv_iconst (v := nI 1) hx hb dL_law_305 (by decide) ?_
        refine lv_iadd hx hb dL_law_306 ?_
        refine tp (y := nI (i + 1)) (nI_add _ _) ?_
        refine lw_ld hx hb hX hbl hbA hS (show i + 1 < L by omega) hL dL_law_307 ?_
        refine tp (y := nI t) et ?_
        refine wrVi S cv_RL_51 (c_X1_depth_t (i := t) ht hV) hK hN hP1 hE1 hS (rp_rv hK hP1) ⟨Nat.le_of_ble_eq_true rfl, Nat.le_of_ble_eq_true rfl⟩ ⟨Nat.le_of_ble_eq_true rfl, Nat.le_of_ble_eq_true rfl⟩ rfl hl.1 rfl (Nat.le_of_ble_eq_true rfl) dL_law_308 (fun H locs hP1n hS hkk => ?_)
        have hP2 := P_keep hP2 hkk (fun q h1 h2 => hdis q (adr_rp h1) (adr_md h2))
        have hP1 := hP1n
        refine lv_aload_n hx hb dL_law_311 rfl (lv_at hl 1 rfl) ?_
        refine lv_aload_n hx hb dL_law_312 rfl (lv_at hl 3 rfl) ?_
        refine lv_iload_n hx hb dL_law_313 rfl (lv_at hl 0 rfl) ?_
        refine lv_iconst (v := nI 1) hx hb dL_law_314 (by decide) ?_
        refine lv_iadd hx hb dL_law_315 ?_
        refine tp (y := nI (i + 1)) (nI_add _ _) ?_
        refine lw_ld hx hb hX hbl hbA hS (show i + 1 < L by omega) hL dL_law_316 ?_
        refine tp (y := nI t) et ?_
        refine wrVi S cv_RL_54 (c_X2_depth_t (i := t) ht hV) hK hN hP2 hE2 hS (md_rv hK hP2) ⟨Nat.le_of_ble_eq_true rfl, Nat.le_of_ble_eq_true rfl⟩ ⟨Nat.le_of_ble_eq_true rfl, Nat.le_of_ble_eq_true rfl⟩ rfl hl.1 rfl (Nat.le_of_ble_eq_true rfl) dL_law_317 (fun H locs hP2n hS hkk => ?_)
        have hP1 := P_keep hP1 hkk (fun q h1 h2 => hdis q (adr_rp h2) (adr_md h1))
        have hP2 := hP2n
        refine lv_icmp_eq (tgt := 413) hx hb dL_law_320 (by decide) (fun _ => ?_) (fun hh => absurd (hR.DD.1 t ht) hh)
        exact hend _ _ _ _ _ _ _ _ _ _ _ _ _ _ ls h4 ⟨hP1, hP2, hS, hR.known⟩ hl
    · refine lv_tableIn (off := 293) (tgt := 325) hx hb dL_law_32 (by decide) (by decide) (by decide) (by decide) ?_
      refine lv_aload_n hx hb dL_law_325 rfl (lv_at hl 2 rfl) ?_
      refine wrVi S cv_RL_55 (c_X1_reached hV) hK hN hP1 hE1 hS (rp_rv hK hP1) ⟨Nat.le_of_ble_eq_true rfl, Nat.le_of_ble_eq_true rfl⟩ ⟨Nat.le_of_ble_eq_true rfl, Nat.le_of_ble_eq_true rfl⟩ rfl hl.1 rfl (Nat.le_of_ble_eq_true rfl) dL_law_326 (fun H locs hP1n hS hkk => ?_)
      have hP2 := P_keep hP2 hkk (fun q h1 h2 => hdis q (adr_rp h1) (adr_md h2))
      have hP1 := hP1n
      refine lv_aload_n hx hb dL_law_329 rfl (lv_at hl 1 rfl) ?_
      refine wrVi S cv_RL_58 (c_X2_reached hV) hK hN hP2 hE2 hS (md_rv hK hP2) ⟨Nat.le_of_ble_eq_true rfl, Nat.le_of_ble_eq_true rfl⟩ ⟨Nat.le_of_ble_eq_true rfl, Nat.le_of_ble_eq_true rfl⟩ rfl hl.1 rfl (Nat.le_of_ble_eq_true rfl) dL_law_330 (fun H locs hP2n hS hkk => ?_)
      have hP1 := P_keep hP1 hkk (fun q h1 h2 => hdis q (adr_rp h2) (adr_md h1))
      have hP2 := hP2n
      refine lv_icmp_eq (tgt := 413) hx hb dL_law_333 (by decide) (fun _ => ?_) (fun hh => absurd (congrArg nI (re_re hR.DD)) hh)
      exact hend _ _ _ _ _ _ _ _ _ _ _ _ _ _ ls h4 ⟨hP1, hP2, hS, hR.known⟩ hl
    · refine lv_tableIn (off := 306) (tgt := 338) hx hb dL_law_32 (by decide) (by decide) (by decide) (by decide) ?_
      refine lv_aload_n hx hb dL_law_338 rfl (lv_at hl 2 rfl) ?_
      refine wrVi S cv_RL_59 (c_X1_worst hV) hK hN hP1 hE1 hS (rp_rv hK hP1) ⟨Nat.le_of_ble_eq_true rfl, Nat.le_of_ble_eq_true rfl⟩ ⟨Nat.le_of_ble_eq_true rfl, Nat.le_of_ble_eq_true rfl⟩ rfl hl.1 rfl (Nat.le_of_ble_eq_true rfl) dL_law_339 (fun H locs hP1n hS hkk => ?_)
      have hP2 := P_keep hP2 hkk (fun q h1 h2 => hdis q (adr_rp h1) (adr_md h2))
      have hP1 := hP1n
      refine lv_aload_n hx hb dL_law_342 rfl (lv_at hl 1 rfl) ?_
      refine wrVi S cv_RL_62 (c_X2_worst hV) hK hN hP2 hE2 hS (md_rv hK hP2) ⟨Nat.le_of_ble_eq_true rfl, Nat.le_of_ble_eq_true rfl⟩ ⟨Nat.le_of_ble_eq_true rfl, Nat.le_of_ble_eq_true rfl⟩ rfl hl.1 rfl (Nat.le_of_ble_eq_true rfl) dL_law_343 (fun H locs hP2n hS hkk => ?_)
      have hP1 := P_keep hP1 hkk (fun q h1 h2 => hdis q (adr_rp h2) (adr_md h1))
      have hP2 := hP2n
      refine lv_icmp_eq (tgt := 413) hx hb dL_law_346 (by decide) (fun _ => ?_) (fun hh => absurd (congrArg (oI (-1)) (wo_wo hR.1 hR.DD)) hh)
      exact hend _ _ _ _ _ _ _ _ _ _ _ _ _ _ ls h4 ⟨hP1, hP2, hS, hR.known⟩ hl
    · refine lv_tableIn (off := 319) (tgt := 351) hx hb dL_law_32 (by decide) (by decide) (by decide) (by decide) ?_
      refine lv_aload_n hx hb dL_law_351 rfl (lv_at hl 2 rfl) ?_
      refine rdV S cv_RL_63 (c_X1_check hV) hK hN hP1 (rp_rv hK hP1) ⟨Nat.le_of_ble_eq_true rfl, Nat.le_of_ble_eq_true rfl⟩ ⟨Nat.le_of_ble_eq_true rfl, Nat.le_of_ble_eq_true rfl⟩ rfl hl.1 rfl (Nat.le_of_ble_eq_true rfl) dL_law_352 ?_
      refine lv_aload_n hx hb dL_law_355 rfl (lv_at hl 1 rfl) ?_
      refine rdV S cv_RL_66 (c_X2_check hV) hK hN hP2 (md_rv hK hP2) ⟨Nat.le_of_ble_eq_true rfl, Nat.le_of_ble_eq_true rfl⟩ ⟨Nat.le_of_ble_eq_true rfl, Nat.le_of_ble_eq_true rfl⟩ rfl hl.1 rfl (Nat.le_of_ble_eq_true rfl) dL_law_356 ?_
      refine lv_icmp_eq (tgt := 413) hx hb dL_law_359 (by decide) (fun _ => ?_) (fun hh => absurd (congrArg (oI 0) (ch_ch hR.1)) hh)
      exact hend _ _ _ _ _ _ _ _ _ _ _ _ _ _ ls h4 ⟨hP1, hP2, hS, hR⟩ hl
    · refine lv_tableIn (off := 332) (tgt := 364) hx hb dL_law_32 (by decide) (by decide) (by decide) (by decide) ?_
      refine lv_aload_n hx hb dL_law_364 rfl (lv_at hl 2 rfl) ?_
      refine rdV S cv_RL_67 (c_X1_flaw hV) hK hN hP1 (rp_rv hK hP1) ⟨Nat.le_of_ble_eq_true rfl, Nat.le_of_ble_eq_true rfl⟩ ⟨Nat.le_of_ble_eq_true rfl, Nat.le_of_ble_eq_true rfl⟩ rfl hl.1 rfl (Nat.le_of_ble_eq_true rfl) dL_law_365 ?_
      refine lv_aload_n hx hb dL_law_368 rfl (lv_at hl 1 rfl) ?_
      refine rdV S cv_RL_70 (c_X2_flaw hV) hK hN hP2 (md_rv hK hP2) ⟨Nat.le_of_ble_eq_true rfl, Nat.le_of_ble_eq_true rfl⟩ ⟨Nat.le_of_ble_eq_true rfl, Nat.le_of_ble_eq_true rfl⟩ rfl hl.1 rfl (Nat.le_of_ble_eq_true rfl) dL_law_369 ?_
      refine lv_icmp_eq (tgt := 413) hx hb dL_law_372 (by decide) (fun _ => ?_) (fun hh => absurd (fl_fl hR.1) hh)
      exact hend _ _ _ _ _ _ _ _ _ _ _ _ _ _ ls h4 ⟨hP1, hP2, hS, hR⟩ hl
    · refine lv_tableIn (off := 345) (tgt := 377) hx hb dL_law_32 (by decide) (by decide) (by decide) (by decide) ?_
      rcases hq : waB N pl pe cn P M (xs (i + 1)) with _ | _
      · refine lv_aload_n hx hb dL_law_377 rfl (lv_at hl 2 rfl) ?_
        refine lv_aload_n hx hb dL_law_378 rfl (lv_at hl 3 rfl) ?_
        refine lv_iload_n hx hb dL_law_379 rfl (lv_at hl 0 rfl) ?_
        refine lv_iconst (v := nI 1) hx hb dL_law_380 (by decide) ?_
        refine lv_iadd hx hb dL_law_381 ?_
        refine tp (y := nI (i + 1)) (nI_add _ _) ?_
        refine lw_ld hx hb hX hbl hbA hS (show i + 1 < L by omega) hL dL_law_382 ?_
        refine rdV S cv_RL_71 (c_X1_walk_f (x := xs (i + 1)) hq hR.2.1 hV) hK hN hP1 (rp_rv hK hP1) ⟨Nat.le_of_ble_eq_true rfl, Nat.le_of_ble_eq_true rfl⟩ ⟨Nat.le_of_ble_eq_true rfl, Nat.le_of_ble_eq_true rfl⟩ rfl hl.1 rfl (Nat.le_of_ble_eq_true rfl) dL_law_383 ?_
        refine lv_aload_n hx hb dL_law_386 rfl (lv_at hl 1 rfl) ?_
        refine lv_aload_n hx hb dL_law_387 rfl (lv_at hl 3 rfl) ?_
        refine lv_iload_n hx hb dL_law_388 rfl (lv_at hl 0 rfl) ?_
        refine lv_iconst (v := nI 1) hx hb dL_law_389 (by decide) ?_
        refine lv_iadd hx hb dL_law_390 ?_
        refine tp (y := nI (i + 1)) (nI_add _ _) ?_
        refine lw_ld hx hb hX hbl hbA hS (show i + 1 < L by omega) hL dL_law_391 ?_
        refine rdV S cv_RL_74 (c_X2_walk_f (x := xs (i + 1)) ((hR.wa _).trans hq) hR.2.1 hV) hK hN hP2 (md_rv hK hP2) ⟨Nat.le_of_ble_eq_true rfl, Nat.le_of_ble_eq_true rfl⟩ ⟨Nat.le_of_ble_eq_true rfl, Nat.le_of_ble_eq_true rfl⟩ rfl hl.1 rfl (Nat.le_of_ble_eq_true rfl) dL_law_392 ?_
        refine lv_icmp_eq (tgt := 413) hx hb dL_law_395 (by decide) (fun _ => ?_) (fun hh => absurd rfl hh)
        exact hend _ _ _ _ _ _ _ _ _ _ _ _ _ _ ls h4 ⟨hP1, hP2, hS, hR⟩ hl
      · skip
        refine lv_aload_n hx hb dL_law_377 rfl (lv_at hl 2 rfl) ?_
        refine lv_aload_n hx hb dL_law_378 rfl (lv_at hl 3 rfl) ?_
        refine lv_iload_n hx hb dL_law_379 rfl (lv_at hl 0 rfl) ?_
        refine lv_iconst (v := nI 1) hx hb dL_law_380 (by decide) ?_
        refine lv_iadd hx hb dL_law_381 ?_
        refine tp (y := nI (i + 1)) (nI_add _ _) ?_
        refine lw_ld hx hb hX hbl hbA hS (show i + 1 < L by omega) hL dL_law_382 ?_
        refine wrVi S cv_RL_71 (c_X1_walk_t (x := xs (i + 1)) hq hV) hK hN hP1 hE1 hS (rp_rv hK hP1) ⟨Nat.le_of_ble_eq_true rfl, Nat.le_of_ble_eq_true rfl⟩ ⟨Nat.le_of_ble_eq_true rfl, Nat.le_of_ble_eq_true rfl⟩ rfl hl.1 rfl (Nat.le_of_ble_eq_true rfl) dL_law_383 (fun H locs hP1n hS hkk => ?_)
        have hP2 := P_keep hP2 hkk (fun q h1 h2 => hdis q (adr_rp h1) (adr_md h2))
        have hP1 := hP1n
        refine lv_aload_n hx hb dL_law_386 rfl (lv_at hl 1 rfl) ?_
        refine lv_aload_n hx hb dL_law_387 rfl (lv_at hl 3 rfl) ?_
        refine lv_iload_n hx hb dL_law_388 rfl (lv_at hl 0 rfl) ?_
        refine lv_iconst (v := nI 1) hx hb dL_law_389 (by decide) ?_
        refine lv_iadd hx hb dL_law_390 ?_
        refine tp (y := nI (i + 1)) (nI_add _ _) ?_
        refine lw_ld hx hb hX hbl hbA hS (show i + 1 < L by omega) hL dL_law_391 ?_
        refine wrVi S cv_RL_74 (c_X2_walk_t (x := xs (i + 1)) ((hR.wa _).trans hq) hV) hK hN hP2 hE2 hS (md_rv hK hP2) ⟨Nat.le_of_ble_eq_true rfl, Nat.le_of_ble_eq_true rfl⟩ ⟨Nat.le_of_ble_eq_true rfl, Nat.le_of_ble_eq_true rfl⟩ rfl hl.1 rfl (Nat.le_of_ble_eq_true rfl) dL_law_392 (fun H locs hP2n hS hkk => ?_)
        have hP1 := P_keep hP1 hkk (fun q h1 h2 => hdis q (adr_rp h2) (adr_md h1))
        have hP2 := hP2n
        refine lv_icmp_eq (tgt := 413) hx hb dL_law_395 (by decide) (fun _ => ?_) (fun hh => absurd rfl hh)
        exact hend _ _ _ _ _ _ _ _ _ _ _ _ _ _ ls h4 ⟨hP1, hP2, hS, hR.walk hq⟩ hl
    · refine lv_tableIn (off := 368) (tgt := 400) hx hb dL_law_32 (by decide) (by decide) (by decide) (by decide) ?_
      refine lv_aload_n hx hb dL_law_400 rfl (lv_at hl 2 rfl) ?_
      refine rdV S cv_RL_75 (c_X1_arrives hV) hK hN hP1 (rp_rv hK hP1) ⟨Nat.le_of_ble_eq_true rfl, Nat.le_of_ble_eq_true rfl⟩ ⟨Nat.le_of_ble_eq_true rfl, Nat.le_of_ble_eq_true rfl⟩ rfl hl.1 rfl (Nat.le_of_ble_eq_true rfl) dL_law_401 ?_
      refine lv_aload_n hx hb dL_law_404 rfl (lv_at hl 1 rfl) ?_
      refine rdV S cv_RL_78 (c_X2_arrives hR.2.1 hV) hK hN hP2 (md_rv hK hP2) ⟨Nat.le_of_ble_eq_true rfl, Nat.le_of_ble_eq_true rfl⟩ ⟨Nat.le_of_ble_eq_true rfl, Nat.le_of_ble_eq_true rfl⟩ rfl hl.1 rfl (Nat.le_of_ble_eq_true rfl) dL_law_405 ?_
      refine lv_icmp_eq (tgt := 413) hx hb dL_law_408 (by decide) (fun _ => ?_) (fun hh => absurd (congrArg bI hR.ar) hh)
      exact hend _ _ _ _ _ _ _ _ _ _ _ _ _ _ ls h4 ⟨hP1, hP2, hS, hR⟩ hl
    · refine lv_tableOut (tgt := 413) hx hb dL_law_32 (by decide) (by decide) ?_
      exact hend _ _ _ _ _ _ _ _ _ _ _ _ _ _ ls h4 ⟨hP1, hP2, hS, hR⟩ hl
end
section
set_option maxHeartbeats 8000000 in
set_option maxRecDepth 100000 in
theorem whole_start {p : Program} {e : Env} {s : State} {m : MethodId} {below : List Frame} {meth : Method} {c : Code} (l : Launch) {b L : Nat} {xs : Nat → Int32} (hL : L ≤ 2048) (C0 : lw_At p s m meth c b L xs) : W p l e room_1 s m #[Value.ref b] below meth c s.heap [] 0 0 (lw_Z below #[Value.ref b] s) (entryFrame m ([Value.ref b] : List Value).toArray 4) := by
  obtain ⟨hx, hb, hr, hml, hown, hts, hX, hbl, hlocks, hgv⟩ := id C0
  have S : CallFix p m c code 4 s #[Value.ref b] wt RL := ⟨hx, hb, hml, hown, lw_w hts⟩
  have hN := lw_NS hts
  obtain ⟨D, cI, cL, hK⟩ := lw_K hts
  generalize hAe : (fun q : Nat => s.heap.size ≤ q) = A
  have hA : ∀ q : Nat, s.heap.size ≤ q → A q := fun q h => by rw [← hAe]; exact h
  have hS : va_S A s.heap s.heap [] := va_S.rf
  have hP : va_P D classes [] s.heap := fun k q h => by simp at h
  have hD : va_D A [] := ⟨fun i j p q h => by simp at h, fun k q h => by simp at h⟩
  have hl := lv_entry ([.ref b]) (n := 4) (Nat.le_of_ble_eq_true rfl)
  rw [lg_entry_eq]
  generalize (lg_sl ([.ref b]) ++ List.replicate (4 - (lg_sl ([.ref b])).length) Slot.unset).toArray = ls at hl ⊢
  have hl : lv_has ls 4 [(0, .ref b)] := hl
  refine va_new (D := D) (ci := 1) (fs := [.null, .null, .int 0, .int 0, .int 0, .int 0]) (C := RX1) (T := TX1) (N := 6) hx hb S.2.2.2.2 inX1 tyX1 tyX1_ok S.2.2.2.1 (S.2.2.2.2 _ k_4) (S.2.2.2.2 _ k_5) (S.2.2.2.2 _ k_1) hK hP hD hS hA rfl (fun j hj => by rcases (show j = 0 ∨ j = 1 ∨ j = 2 ∨ j = 3 ∨ j = 4 ∨ j = 5 by omega) with rfl | rfl | rfl | rfl | rfl | rfl <;> rfl) (Nat.le_of_ble_eq_true rfl) (Nat.le_of_ble_eq_true rfl) dL_law_0 (fun q1 H hP hD hS => ?_)
  have hP : va_P D classes [(q1, .inr (1, [.null, .null, .int 0, .int 0, .int 0, .int 0]))] H := hP
  have hD : va_D A [(q1, .inr (1, [.null, .null, .int 0, .int 0, .int 0, .int 0]))] := hD
  refine W.widen (k := 1) (n := 6) (Nat.le_of_ble_eq_true rfl) (Nat.le_of_ble_eq_true rfl) ?_
  refine lv_dup hx hb dL_law_3 rfl ?_
  have hFc := va_free (wc := [(q1, .inr (1, [.null, .null, .int 0, .int 0, .int 0, .int 0]))]) hD hS hA [0] rfl
  refine va_callv (va_runI (As := []) (b := q1) (rest := [.ref q1]) (g := F0 m 4 ls [.ref q1, .ref q1]) S (c_X1_init (l := l) (D := D) (cI := cI) (cL := cL) q1 H.size) (cwI 0 S.2.2.2.2 (wt_gd k_8) rfl rfl rfl (S.2.2.2.2 _ k_1) (S.2.2.2.2 _ k_6) (S.2.2.2.2 _ k_7) rfl (by decide +kernel) ⟨Nat.le_of_ble_eq_true rfl, Nat.le_of_ble_eq_true rfl⟩) ⟨PC_blind, PC_at hP hK hN hD⟩ rfl rfl hl.1 rfl (lv_room (Nat.le_of_ble_eq_true rfl)) dL_law_4 ⟨Nat.le_of_ble_eq_true rfl, Nat.le_of_ble_eq_true rfl⟩) hS (fun q _ h => hFc q h) hFc (fun a t H1 locs ht hvm hw hB hz1 hk1 hS => ?_)
  obtain ⟨ea, hP1, hD1⟩ := hB
  rw [ht] at hP1
  subst ea
  have hD1 : va_D A (RPw cI cL a (fun _ => 0) false 1 0 0 (fun _ => 0) (fun _ _ => 0) (fun _ _ => 0)) := hD1.weaken (fun k q _ h => hFc q.1 h)
  generalize H1 = H at hP1 hS ⊢
  refine W.widen (k := 15) (n := 278) (Nat.le_of_ble_eq_true rfl) (Nat.le_of_ble_eq_true rfl) ?_
  refine lv_astore_n (lv' := [(1, .ref (a 0)), (0, .ref b)]) hx hb dL_law_7 rfl hl (by decide) rfl (fun ls hl => ?_)
  refine va_new (D := D) (ci := 2) (fs := [.int 0, .null, .null, .null, .null, .int 0, .null]) (C := RX2) (T := TX2) (N := 7) hx hb S.2.2.2.2 inX2 tyX2 tyX2_ok S.2.2.2.1 (S.2.2.2.2 _ k_188) (S.2.2.2.2 _ k_189) (S.2.2.2.2 _ k_3) hK hP1 hD1 hS hA rfl (fun j hj => by rcases (show j = 0 ∨ j = 1 ∨ j = 2 ∨ j = 3 ∨ j = 4 ∨ j = 5 ∨ j = 6 by omega) with rfl | rfl | rfl | rfl | rfl | rfl | rfl <;> rfl) (Nat.le_of_ble_eq_true rfl) (Nat.le_of_ble_eq_true rfl) dL_law_8 (fun q2 H hP hD hS => ?_)
  refine W.widen (k := 16) (n := 285) (Nat.le_of_ble_eq_true rfl) (Nat.le_of_ble_eq_true rfl) ?_
  refine lv_dup hx hb dL_law_11 rfl ?_
  have hPc := hP.sub (ws' := [(q2, .inr (2, [.int 0, .null, .null, .null, .null, .int 0, .null]))]) [15] rfl
  have hDc := hD.sub (ws' := [(q2, .inr (2, [.int 0, .null, .null, .null, .null, .int 0, .null]))]) [15] (by decide) rfl
  have hFc := va_free (wc := [(q2, .inr (2, [.int 0, .null, .null, .null, .null, .int 0, .null]))]) hD hS hA [15] rfl
  refine va_callv (va_runI (As := []) (b := q2) (rest := [.ref q2]) (g := F0 m 12 ls [.ref q2, .ref q2]) S (c_X2_init (l := l) (D := D) (cI := cI) (cL := cL) q2 H.size) (cwI 0 S.2.2.2.2 (wt_gd k_192) rfl rfl rfl (S.2.2.2.2 _ k_3) (S.2.2.2.2 _ k_190) (S.2.2.2.2 _ k_191) rfl (by decide +kernel) ⟨Nat.le_of_ble_eq_true rfl, Nat.le_of_ble_eq_true rfl⟩) ⟨PC_blind, PC_at hPc hK hN hDc⟩ rfl rfl hl.1 rfl (lv_room (Nat.le_of_ble_eq_true rfl)) dL_law_12 ⟨Nat.le_of_ble_eq_true rfl, Nat.le_of_ble_eq_true rfl⟩) hS (fun q _ h => hFc q h) hFc (fun bb t H1 locs ht hvm hw hB hz1 hk1 hS => ?_)
  obtain ⟨eb, hP2, hD2⟩ := hB
  rw [ht] at hP2
  subst eb
  obtain ⟨hP, hD⟩ := va_join (wr := RPw cI cL a (fun _ => 0) false 1 0 0 (fun _ => 0) (fun _ _ => 0) (fun _ _ => 0)) (w1 := MDw cI bb 1 0 (fun _ => 0) (fun _ => 0) (fun _ => 0) (fun _ => 0) (fun _ => 0)) hP hD [15] [0, 1, 2, 3, 4, 5, 6, 7, 8, 9, 10, 11, 12, 13, 14] rfl rfl (by decide) (by decide) hk1 hFc hP2 hD2
  generalize H1 = H at hP hP2 hS ⊢
  refine W.widen (k := 21) (n := 609) (Nat.le_of_ble_eq_true rfl) (Nat.le_of_ble_eq_true rfl) ?_
  refine lv_astore_n (lv' := [(2, .ref (bb 0)), (1, .ref (a 0)), (0, .ref b)]) hx hb dL_law_15 rfl hl (by decide) rfl (fun ls hl => ?_)
  refine lv_iconst (v := nI 0) hx hb dL_law_16 (by decide) ?_
  refine lv_istore_n (lv' := [(3, .int (nI 0)), (2, .ref (bb 0)), (1, .ref (a 0)), (0, .ref b)]) hx hb dL_law_17 rfl hl (by decide) rfl (fun ls hl => ?_)
  have hP1 : va_P D classes (RPw cI cL a (fun _ => 0) false 1 0 0 (fun _ => 0) (fun _ _ => 0) (fun _ _ => 0)) H := hP.sub [0, 1, 2, 3, 4, 5, 6, 7, 8, 9, 10, 11, 12, 13, 14] rfl
  exact law_loop hL C0 hK hAe.symm (D_l hD) (D_r hD) (D_x hD) (L + 1) 0 _ _ _ _ _ _ _ _ _ _ _ _ _ _ ls (by omega) (Nat.zero_le _) ⟨hP1, hP2, hS, Rel.new⟩ hl
set_option maxHeartbeats 4000000 in
theorem lw_walk (l : Launch) (b : Addr) (xs : List Int32) : MetFree l x (headSpec (Jvm.Cond.code x code maxLocals ret :: tables_1) room_1) (lw_P b xs) (fun _ _ _ _ _ => True) lw_Q := by
  refine MetFree.of_bodyS (code := code) (maxLocals := maxLocals) (ret := ret) (by decide) ?_ ?_
  · intro args s m h hn
    obtain ⟨meth, c, h1, h2, h3, h4, h5, h6, -, -⟩ := Cond.code_spec hn (atoms_spec (ws := Jvm.Cond.code x code maxLocals ret :: tables_1) h _ List.mem_cons_self)
    exact ⟨meth, c, h1, h2, h3, h4, h5, h6⟩
  · intro p e s m args below meth c s₁ B hml0 hP _
    obtain ⟨rfl, hx, hbd, hgv⟩ := hP
    obtain ⟨scr, harrAt, hlist, hof, hsmall⟩ := hx
    obtain ⟨hcb, hkn, -, -⟩ := State.arrayAt?_spec harrAt
    have hown : s.vm.findClass R_law = some m.cls := findClass_of_methodNamed B.named
    have hts0 : ∀ c ∈ (Jvm.Cond.code x code maxLocals ret :: tables_1), c.before #[Value.ref b] s = true := atoms_spec (ws := Jvm.Cond.code x code maxLocals ret :: tables_1) B.pre
    have hts : ∀ w ∈ lw_tbl, w.before #[Value.ref b] s = true := k2_hts_sels lw_privs (fun w hw => hts0 w (List.mem_cons_of_mem _ hw)) lw_privs_ok
    have hml : c.maxLocals = 4 := B.maxLocals_eq (hts0 _ List.mem_cons_self)
    have X₀ : Stand p l e room_1 s m #[Value.ref b] below meth c s₁ [] 0 0 := Stand.of_body B
    have hh0 : s₁.heap = s.heap := by rw [B.state]; rfl
    have hsz : scr.slots.size = xs.length := by rw [← Array.length_toList, hlist, List.length_map]
    have hval : ∀ j : Nat, j < xs.length → scr.slots[j]? = some (.int (xs.getD j 0)) := fun j hj => by
      rw [← Array.getElem?_toList, hlist]
      simp [hj]
    have hbl : b < s.heap.size := (Array.getElem?_eq_some_iff.mp hcb).1
    have hX : va_X b xs.length (fun j => xs.getD j 0) s s.heap := ⟨scr, hcb, hof, hkn, hsz, hval⟩
    have K : W p l e room_1 s m #[Value.ref b] below meth c s₁.heap [] 0 0 (lw_Z below #[Value.ref b] s) (entryFrame m ([Value.ref b] : List Value).toArray 4) := by
      rw [hh0]
      exact whole_start l hbd ⟨B.exec, B.bytes, B.returns, hml, hown, hts, hX, hbl, B.notSynchronized, hgv⟩
    obtain ⟨t, a1, o, b1, b2, b3⟩ := K s₁ rfl X₀
    exact ⟨t, o, a1, b1, b2, b3⟩
theorem lw_pre_spec {args : Array Value} {s : State} (h : (Jvm.Cond.and given_1 narrow_1).before args s = true) (hr : rest_1_c.before args s = true) : ∃ (b : Addr) (xs : List Int32), lw_P b xs args s := by
  have hs := flat_of_before _ h
  have hq := flat_of_before _ hr
  have hc : (Cond.count 1).before args s = true := hs _ (by decide +kernel)
  have harr : (Cond.arrayOf (.arg 0) .int).before args s = true := hs _ (by decide +kernel)
  have hle : (Cond.le (.length (.arg 0)) (.int 2048)).before args s = true := hs _ (by decide +kernel)
  have hlen : (Cond.isInt (.length (.arg 0))).before args s = true := hq _ (by decide +kernel)
  have hall : (Cond.all (.arg 0) (.isInt (.elem (.arg 0) (.index 0)))).before args s = true := hq _ (by decide +kernel)
  obtain ⟨b, xs, hb, hx⟩ := State.ints_of_pre rfl harr hlen hall
  have hsm : xs.length < 2 ^ 31 := hx.choose_spec.2.2.2
  have hev : (Term.length (.arg 0)).eval args s none [] s = some (.int xs.length.toInt32) := hx.length_eval hb
  have hv := Cond.le_ints hev (show (Term.int 2048).eval args s none [] s = some (.int 2048) from rfl)
  have hd : xs.length.toInt32 ≤ 2048 := by
    simpa [Cond.before, Cond.holds, hv] using hle
  have hN : xs.length ≤ 2048 := (Int32.ofNat_le_ofNat hsm (by decide)).mp (show Int32.ofNat xs.length ≤ Int32.ofNat 2048 from hd)
  exact ⟨b, xs, Cond.one_arg hc (show args[0]? = some (.ref b) from hb), hx, hN, h⟩
theorem lw_comes (l : Launch) : Comes l x (Jvm.Cond.code x code maxLocals ret :: tables_1) room_1 (fun tb e args s => Calls_1 tb e args s ∧ rest_1 tb e args s ∧ Pre_1 tb e args s)
    (fun _ _ args s o t => lw_Q args s o t) := by
  intro p e ha hc hk s m args below hf hfit hheap happ hpre
  obtain ⟨b, xs, hP⟩ := lw_pre_spec hpre.2.2 hpre.2.1
  obtain ⟨k, o, h1, h2, h3, hQ⟩ := lw_walk l b xs p e ha hc hk s m args below hf ((Spec.applies_iff_loose hf).mp happ).1 hP trivial
  exact ⟨k, o, h1, h2, h3, hQ⟩
theorem lw_frame {s t : State} {o : Outcome} {args : Array Value} (h : Framed s o t [] 600000 7302250) :
    Framed s o t (fieldLocs frame_1_writes args s ++ arrayLocs frame_1_arrays args s ++ staticLocs frame_1_statics s) 600000 7302250 := h
theorem lw_limb (L : Cond) (hL : ∀ (args : Array Value) (s t : State), L.after args s (.returned (some (.int 1))) t = true) :
    ArmFor flags0 classFile x code maxLocals ret World_1 tables_1 room_1 Calls_1 rest_1 Pre_1
      (fun tb e a s o t => postC L tb e a s o t ∧ Framed s o t (fieldLocs frame_1_writes a s ++ arrayLocs frame_1_arrays a s ++ staticLocs frame_1_statics s) 600000 7302250) := by
  intro l _ _ _ p e ha hc hk s m args below hf hfit hheap happ hpre
  obtain ⟨k, o, h1, h2, h3, rfl, hF⟩ := lw_comes l p e ha hc hk s m args below hf hfit hheap happ hpre
  exact ⟨k, _, h1, h2, h3, hL args s _, lw_frame hF⟩
theorem i_vc : Claimed_1_1 ∧ Claimed_1_2 := ⟨lw_limb limb_1_1 (fun args s t => by simp [limb_1_1, Cond.after, Cond.holds, Cond.value]), lw_limb limb_1_2 (fun args s t => Cond.after_iff.mpr (by
  first | (rw [show limb_1_2 = Cond.eq .result (.int 1) from rfl, Cond.eq_ints (x := 1) (y := 1) rfl rfl]; simp; done) | (simp [limb_1_2, Cond.value, Term.eval]; done)))⟩
end
