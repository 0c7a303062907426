-- ===== PART A: goes FIRST, ahead of the names: the tables' words, and 'selects' of the private methods out of them =====
/-- a private method of a class that the tables say can be made, by its rows of tables_1 -/
def lw_okq (q : MethodName × Nat) : Prop := (q.1.cls ≠ "java/lang/invoke/MethodHandle" ∧ q.1.cls ≠ "java/lang/invoke/VarHandle") ∧ Cond.instantiable q.1.cls q.2 ∈ tables_1 ∧ Cond.privateMethod q.1 ∈ tables_1 ∧ Cond.instanceMethod q.1 ∈ tables_1
theorem lw_p0 : lw_okq (⟨"CommonForests", "isEdge", "(II)Z"⟩, 4) := ⟨⟨by decide +kernel, by decide +kernel⟩, List.mem_of_getElem? (i := 8) (by decide +kernel), List.mem_of_getElem? (i := 101) (by decide +kernel), List.mem_of_getElem? (i := 102) (by decide +kernel)⟩
theorem lw_p1 : lw_okq (⟨"CommonForests", "isSet", "(II)Z"⟩, 4) := ⟨⟨by decide +kernel, by decide +kernel⟩, List.mem_of_getElem? (i := 8) (by decide +kernel), List.mem_of_getElem? (i := 109) (by decide +kernel), List.mem_of_getElem? (i := 110) (by decide +kernel)⟩
theorem lw_p2 : lw_okq (⟨"CommonForests", "draftPacked", "(LCommonForests$Graph;II)V"⟩, 4) := ⟨⟨by decide +kernel, by decide +kernel⟩, List.mem_of_getElem? (i := 8) (by decide +kernel), List.mem_of_getElem? (i := 153) (by decide +kernel), List.mem_of_getElem? (i := 154) (by decide +kernel)⟩
theorem lw_p3 : lw_okq (⟨"CommonForests", "areAlike", "(II)Z"⟩, 4) := ⟨⟨by decide +kernel, by decide +kernel⟩, List.mem_of_getElem? (i := 8) (by decide +kernel), List.mem_of_getElem? (i := 197) (by decide +kernel), List.mem_of_getElem? (i := 198) (by decide +kernel)⟩
theorem lw_p4 : lw_okq (⟨"CommonForests", "largestInBoth", "(LCommonForests$Graph;LCommonForests$Graph;)I"⟩, 4) := ⟨⟨by decide +kernel, by decide +kernel⟩, List.mem_of_getElem? (i := 8) (by decide +kernel), List.mem_of_getElem? (i := 201) (by decide +kernel), List.mem_of_getElem? (i := 202) (by decide +kernel)⟩
theorem lw_p5 : lw_okq (⟨"CommonForests", "searched", "(LCommonForests$Graph;LCommonForests$Graph;IIII)I"⟩, 4) := ⟨⟨by decide +kernel, by decide +kernel⟩, List.mem_of_getElem? (i := 8) (by decide +kernel), List.mem_of_getElem? (i := 206) (by decide +kernel), List.mem_of_getElem? (i := 207) (by decide +kernel)⟩
theorem lw_p6 : lw_okq (⟨"CommonForests", "leastCover", "(LCommonForests$Graph;LCommonForests$Graph;)I"⟩, 4) := ⟨⟨by decide +kernel, by decide +kernel⟩, List.mem_of_getElem? (i := 8) (by decide +kernel), List.mem_of_getElem? (i := 218) (by decide +kernel), List.mem_of_getElem? (i := 219) (by decide +kernel)⟩
theorem lw_p7 : lw_okq (⟨"CommonForests", "grown", "(LCommonForests$Graph;LCommonForests$Graph;II)I"⟩, 4) := ⟨⟨by decide +kernel, by decide +kernel⟩, List.mem_of_getElem? (i := 8) (by decide +kernel), List.mem_of_getElem? (i := 222) (by decide +kernel), List.mem_of_getElem? (i := 223) (by decide +kernel)⟩
theorem lw_p8 : lw_okq (⟨"CommonForestsModel", "isEdge", "(II)Z"⟩, 10) := ⟨⟨by decide +kernel, by decide +kernel⟩, List.mem_of_getElem? (i := 227) (by decide +kernel), List.mem_of_getElem? (i := 281) (by decide +kernel), List.mem_of_getElem? (i := 282) (by decide +kernel)⟩
theorem lw_p9 : lw_okq (⟨"CommonForestsModel", "isSet", "(II)Z"⟩, 10) := ⟨⟨by decide +kernel, by decide +kernel⟩, List.mem_of_getElem? (i := 227) (by decide +kernel), List.mem_of_getElem? (i := 289) (by decide +kernel), List.mem_of_getElem? (i := 290) (by decide +kernel)⟩
theorem lw_p10 : lw_okq (⟨"CommonForestsModel", "whole", "(I)I"⟩, 10) := ⟨⟨by decide +kernel, by decide +kernel⟩, List.mem_of_getElem? (i := 227) (by decide +kernel), List.mem_of_getElem? (i := 293) (by decide +kernel), List.mem_of_getElem? (i := 294) (by decide +kernel)⟩
theorem lw_p11 : lw_okq (⟨"CommonForestsModel", "join", "(II)I"⟩, 10) := ⟨⟨by decide +kernel, by decide +kernel⟩, List.mem_of_getElem? (i := 227) (by decide +kernel), List.mem_of_getElem? (i := 297) (by decide +kernel), List.mem_of_getElem? (i := 298) (by decide +kernel)⟩
theorem lw_p12 : lw_okq (⟨"CommonForestsModel", "lay", "(II)V"⟩, 10) := ⟨⟨by decide +kernel, by decide +kernel⟩, List.mem_of_getElem? (i := 227) (by decide +kernel), List.mem_of_getElem? (i := 301) (by decide +kernel), List.mem_of_getElem? (i := 302) (by decide +kernel)⟩
theorem lw_p13 : lw_okq (⟨"CommonForestsModel", "keep", "(II)I"⟩, 10) := ⟨⟨by decide +kernel, by decide +kernel⟩, List.mem_of_getElem? (i := 227) (by decide +kernel), List.mem_of_getElem? (i := 305) (by decide +kernel), List.mem_of_getElem? (i := 306) (by decide +kernel)⟩
theorem lw_p14 : lw_okq (⟨"CommonForestsModel", "number", "(II)I"⟩, 10) := ⟨⟨by decide +kernel, by decide +kernel⟩, List.mem_of_getElem? (i := 227) (by decide +kernel), List.mem_of_getElem? (i := 313) (by decide +kernel), List.mem_of_getElem? (i := 314) (by decide +kernel)⟩
theorem lw_p15 : lw_okq (⟨"CommonForestsModel", "measure", "(I[B)V"⟩, 10) := ⟨⟨by decide +kernel, by decide +kernel⟩, List.mem_of_getElem? (i := 227) (by decide +kernel), List.mem_of_getElem? (i := 333) (by decide +kernel), List.mem_of_getElem? (i := 334) (by decide +kernel)⟩
def lw_privs_1 : List (MethodName × Nat) := [(⟨"CommonForests", "isEdge", "(II)Z"⟩, 4), (⟨"CommonForests", "isSet", "(II)Z"⟩, 4), (⟨"CommonForests", "draftPacked", "(LCommonForests$Graph;II)V"⟩, 4), (⟨"CommonForests", "areAlike", "(II)Z"⟩, 4), (⟨"CommonForests", "largestInBoth", "(LCommonForests$Graph;LCommonForests$Graph;)I"⟩, 4), (⟨"CommonForests", "searched", "(LCommonForests$Graph;LCommonForests$Graph;IIII)I"⟩, 4), (⟨"CommonForests", "leastCover", "(LCommonForests$Graph;LCommonForests$Graph;)I"⟩, 4), (⟨"CommonForests", "grown", "(LCommonForests$Graph;LCommonForests$Graph;II)I"⟩, 4), (⟨"CommonForestsModel", "isEdge", "(II)Z"⟩, 10), (⟨"CommonForestsModel", "isSet", "(II)Z"⟩, 10), (⟨"CommonForestsModel", "whole", "(I)I"⟩, 10), (⟨"CommonForestsModel", "join", "(II)I"⟩, 10), (⟨"CommonForestsModel", "lay", "(II)V"⟩, 10), (⟨"CommonForestsModel", "keep", "(II)I"⟩, 10), (⟨"CommonForestsModel", "number", "(II)I"⟩, 10), (⟨"CommonForestsModel", "measure", "(I[B)V"⟩, 10)]
theorem lw_r1 : ∀ q ∈ lw_privs_1, lw_okq q := List.forall_mem_cons.mpr ⟨lw_p0, List.forall_mem_cons.mpr ⟨lw_p1, List.forall_mem_cons.mpr ⟨lw_p2, List.forall_mem_cons.mpr ⟨lw_p3, List.forall_mem_cons.mpr ⟨lw_p4, List.forall_mem_cons.mpr ⟨lw_p5, List.forall_mem_cons.mpr ⟨lw_p6, List.forall_mem_cons.mpr ⟨lw_p7, List.forall_mem_cons.mpr ⟨lw_p8, List.forall_mem_cons.mpr ⟨lw_p9, List.forall_mem_cons.mpr ⟨lw_p10, List.forall_mem_cons.mpr ⟨lw_p11, List.forall_mem_cons.mpr ⟨lw_p12, List.forall_mem_cons.mpr ⟨lw_p13, List.forall_mem_cons.mpr ⟨lw_p14, List.forall_mem_cons.mpr ⟨lw_p15, fun _ h => absurd h List.not_mem_nil⟩⟩⟩⟩⟩⟩⟩⟩⟩⟩⟩⟩⟩⟩⟩⟩
theorem lw_p16 : lw_okq (⟨"CommonForestsModel", "areAlike", "(II)Z"⟩, 10) := ⟨⟨by decide +kernel, by decide +kernel⟩, List.mem_of_getElem? (i := 227) (by decide +kernel), List.mem_of_getElem? (i := 347) (by decide +kernel), List.mem_of_getElem? (i := 348) (by decide +kernel)⟩
theorem lw_p17 : lw_okq (⟨"CommonForestsModel", "commonOf", "(II)I"⟩, 10) := ⟨⟨by decide +kernel, by decide +kernel⟩, List.mem_of_getElem? (i := 227) (by decide +kernel), List.mem_of_getElem? (i := 351) (by decide +kernel), List.mem_of_getElem? (i := 352) (by decide +kernel)⟩
def lw_privs_2 : List (MethodName × Nat) := [(⟨"CommonForestsModel", "areAlike", "(II)Z"⟩, 10), (⟨"CommonForestsModel", "commonOf", "(II)I"⟩, 10)]
theorem lw_r2 : ∀ q ∈ lw_privs_2, lw_okq q := List.forall_mem_cons.mpr ⟨lw_p16, List.forall_mem_cons.mpr ⟨lw_p17, fun _ h => absurd h List.not_mem_nil⟩⟩
def lw_privs : List (MethodName × Nat) := lw_privs_1 ++ (lw_privs_2)
def lw_tbl : List Cond := k2_sels lw_privs ++ tables_1
theorem lw_privs_ok : ∀ q ∈ lw_privs, lw_okq q := by
  show ∀ q ∈ lw_privs_1 ++ (lw_privs_2), lw_okq q
  exact List.forall_mem_append.mpr ⟨lw_r1, lw_r2⟩

def lw_gd : List Cond := lw_tbl.filter goodWord
def RX0 : String := "CommonForests$Forest"
def TX0 : u_T := fun k => match k with
  | 0 => ("CommonForests$Forest", "rows", "[I", true)
  | 1 => ("CommonForests$Forest", "parts", "[I", true)
  | _ => ("CommonForests$Forest", "size", "I", false)
def tyX0 : Nat → FieldType := fun k => match k with
  | 0 => .array .int
  | 1 => .array .int
  | _ => .int
abbrev wsX00 : List Cond := u_ws RX0 TX0 3
theorem nmX0 : ∀ a, a < 3 → ∀ b, b < 3 → a ≠ b → (TX0 a).2.1 ≠ (TX0 b).2.1 := by decide +kernel
theorem tyX0_ok : ∀ k, k < 3 → parseFieldDescriptor (TX0 k).2.2.1 = some (tyX0 k) := by decide +kernel
theorem inX0 : ∀ w ∈ wsX00, w ∈ lw_gd := fun w h => List.mem_filter.mpr ⟨(show ∀ w ∈ wsX00, w ∈ lw_tbl by decide +kernel) w h, (show ∀ w ∈ wsX00, goodWord w = true by decide +kernel) w h⟩
def RX1 : String := "CommonForests$Graph"
def TX1 : u_T := fun k => match k with
  | 0 => ("CommonForests$Graph", "lines", "[I", true)
  | 1 => ("CommonForests$Graph", "weights", "[I", true)
  | 2 => ("CommonForests$Graph", "count", "I", false)
  | 3 => ("CommonForests$Graph", "vertices", "I", false)
  | _ => ("CommonForests$Graph", "open", "Z", false)
def tyX1 : Nat → FieldType := fun k => match k with
  | 0 => .array .int
  | 1 => .array .int
  | 2 => .int
  | 3 => .int
  | _ => .boolean
abbrev wsX10 : List Cond := u_ws RX1 TX1 5
theorem nmX1 : ∀ a, a < 5 → ∀ b, b < 5 → a ≠ b → (TX1 a).2.1 ≠ (TX1 b).2.1 := by decide +kernel
theorem tyX1_ok : ∀ k, k < 5 → parseFieldDescriptor (TX1 k).2.2.1 = some (tyX1 k) := by decide +kernel
theorem inX1 : ∀ w ∈ wsX10, w ∈ lw_gd := fun w h => List.mem_filter.mpr ⟨(show ∀ w ∈ wsX10, w ∈ lw_tbl by decide +kernel) w h, (show ∀ w ∈ wsX10, goodWord w = true by decide +kernel) w h⟩
def RX2 : String := "CommonForests"
def TX2 : u_T := fun k => match k with
  | 0 => ("CommonForests", "graphs", "[LCommonForests$Graph;", true)
  | 1 => ("CommonForests", "first", "LCommonForests$Forest;", true)
  | 2 => ("CommonForests", "second", "LCommonForests$Forest;", true)
  | _ => ("CommonForests", "draft", "[I", true)
def tyX2 : Nat → FieldType := fun k => match k with
  | 0 => .array (.object "CommonForests$Graph")
  | 1 => .object "CommonForests$Forest"
  | 2 => .object "CommonForests$Forest"
  | _ => .array .int
abbrev wsX20 : List Cond := u_ws RX2 TX2 4
theorem nmX2 : ∀ a, a < 4 → ∀ b, b < 4 → a ≠ b → (TX2 a).2.1 ≠ (TX2 b).2.1 := by decide +kernel
theorem tyX2_ok : ∀ k, k < 4 → parseFieldDescriptor (TX2 k).2.2.1 = some (tyX2 k) := by decide +kernel
theorem inX2 : ∀ w ∈ wsX20, w ∈ lw_gd := fun w h => List.mem_filter.mpr ⟨(show ∀ w ∈ wsX20, w ∈ lw_tbl by decide +kernel) w h, (show ∀ w ∈ wsX20, goodWord w = true by decide +kernel) w h⟩
def RX3 : String := "CommonForestsModel"
def TX3 : u_T := fun k => match k with
  | 0 => ("CommonForestsModel", "vertices", "[I", true)
  | 1 => ("CommonForestsModel", "counts", "[I", true)
  | 2 => ("CommonForestsModel", "open", "[Z", true)
  | 3 => ("CommonForestsModel", "ends", "[I", true)
  | 4 => ("CommonForestsModel", "weights", "[I", true)
  | 5 => ("CommonForestsModel", "made", "[I", true)
  | 6 => ("CommonForestsModel", "madeCount", "I", false)
  | 7 => ("CommonForestsModel", "names", "[I", true)
  | 8 => ("CommonForestsModel", "first", "[B", true)
  | _ => ("CommonForestsModel", "second", "[B", true)
def tyX3 : Nat → FieldType := fun k => match k with
  | 0 => .array .int
  | 1 => .array .int
  | 2 => .array .boolean
  | 3 => .array .int
  | 4 => .array .int
  | 5 => .array .int
  | 6 => .int
  | 7 => .array .int
  | 8 => .array .byte
  | _ => .array .byte
abbrev wsX30 : List Cond := u_ws RX3 TX3 10
theorem nmX3 : ∀ a, a < 10 → ∀ b, b < 10 → a ≠ b → (TX3 a).2.1 ≠ (TX3 b).2.1 := by decide +kernel
theorem tyX3_ok : ∀ k, k < 10 → parseFieldDescriptor (TX3 k).2.2.1 = some (tyX3 k) := by decide +kernel
theorem inX3 : ∀ w ∈ wsX30, w ∈ lw_gd := fun w h => List.mem_filter.mpr ⟨(show ∀ w ∈ wsX30, w ∈ lw_tbl by decide +kernel) w h, (show ∀ w ∈ wsX30, goodWord w = true by decide +kernel) w h⟩
def RL : String := "CommonForestsLaw"
def RJ6 : String := "java/lang/Integer"
abbrev vwCl : List vw_C := [(RX0, TX0, 3), (RX1, TX1, 5), (RX2, TX2, 4), (RX3, TX3, 10)]
abbrev cX2_init : ByteArray := prog_1_method_1_code
def yX2_init : MethodName := ⟨RX2, "<init>", "()V"⟩
abbrev cX2_begin : ByteArray := prog_1_method_2_code
def yX2_begin : MethodName := ⟨RX2, "begin", "(II)Z"⟩
abbrev cX2_isGraph : ByteArray := prog_1_method_13_code
def yX2_isGraph : MethodName := ⟨RX2, "isGraph", "(I)Z"⟩
abbrev cX2_add : ByteArray := prog_1_method_3_code
def yX2_add : MethodName := ⟨RX2, "add", "(III)I"⟩
abbrev cX2_weigh : ByteArray := prog_1_method_4_code
def yX2_weigh : MethodName := ⟨RX2, "weigh", "(III)Z"⟩
abbrev cX2_isEdge : ByteArray := prog_1_method_14_code
def yX2_isEdge : MethodName := ⟨RX2, "isEdge", "(II)Z"⟩
abbrev cX2_leave : ByteArray := prog_1_method_5_code
def yX2_leave : MethodName := ⟨RX2, "leave", "(IIIZ)I"⟩
abbrev cX2_isSet : ByteArray := prog_1_method_15_code
def yX2_isSet : MethodName := ⟨RX2, "isSet", "(II)Z"⟩
abbrev cX2_all : ByteArray := prog_1_method_17_code
def yX2_all : MethodName := ⟨RX2, "all", "(I)I"⟩
abbrev cX2_has : ByteArray := prog_1_method_18_code
def yX2_has : MethodName := ⟨RX2, "has", "(II)Z"⟩
abbrev cX2_beside : ByteArray := prog_1_method_6_code
def yX2_beside : MethodName := ⟨RX2, "beside", "(III)I"⟩
abbrev cX2_draftPacked : ByteArray := prog_1_method_19_code
def yX2_draftPacked : MethodName := ⟨RX2, "draftPacked", "(LCommonForests$Graph;II)V"⟩
abbrev cX2_packed : ByteArray := prog_1_method_20_code
def yX2_packed : MethodName := ⟨RX2, "packed", "(II)I"⟩
abbrev cX2_edges : ByteArray := prog_1_method_7_code
def yX2_edges : MethodName := ⟨RX2, "edges", "(I)I"⟩
abbrev cX2_weight : ByteArray := prog_1_method_8_code
def yX2_weight : MethodName := ⟨RX2, "weight", "(II)I"⟩
abbrev cX2_rank : ByteArray := prog_1_method_9_code
def yX2_rank : MethodName := ⟨RX2, "rank", "(II)I"⟩
abbrev cX2_best : ByteArray := prog_1_method_10_code
def yX2_best : MethodName := ⟨RX2, "best", "(I)I"⟩
abbrev cX2_common : ByteArray := prog_1_method_11_code
def yX2_common : MethodName := ⟨RX2, "common", "(II)I"⟩
abbrev cX2_areAlike : ByteArray := prog_1_method_16_code
def yX2_areAlike : MethodName := ⟨RX2, "areAlike", "(II)Z"⟩
abbrev cX2_largestInBoth : ByteArray := prog_1_method_21_code
def yX2_largestInBoth : MethodName := ⟨RX2, "largestInBoth", "(LCommonForests$Graph;LCommonForests$Graph;)I"⟩
abbrev cX2_searched : ByteArray := prog_1_method_22_code
def yX2_searched : MethodName := ⟨RX2, "searched", "(LCommonForests$Graph;LCommonForests$Graph;IIII)I"⟩
abbrev cX2_cover : ByteArray := prog_1_method_12_code
def yX2_cover : MethodName := ⟨RX2, "cover", "(II)I"⟩
abbrev cX2_leastCover : ByteArray := prog_1_method_23_code
def yX2_leastCover : MethodName := ⟨RX2, "leastCover", "(LCommonForests$Graph;LCommonForests$Graph;)I"⟩
abbrev cX2_grown : ByteArray := prog_1_method_24_code
def yX2_grown : MethodName := ⟨RX2, "grown", "(LCommonForests$Graph;LCommonForests$Graph;II)I"⟩
abbrev cX0_init : ByteArray := prog_2_method_1_code
def yX0_init : MethodName := ⟨RX0, "<init>", "()V"⟩
abbrev cX0_fill : ByteArray := prog_2_method_3_code
def yX0_fill : MethodName := ⟨RX0, "fill", "(LCommonForests$Graph;I)I"⟩
abbrev cX0_clear : ByteArray := prog_2_method_2_code
def yX0_clear : MethodName := ⟨RX0, "clear", "()V"⟩
abbrev cX0_takes : ByteArray := prog_2_method_4_code
def yX0_takes : MethodName := ⟨RX0, "takes", "(II)Z"⟩
abbrev cX0_rest : ByteArray := prog_2_method_6_code
def yX0_rest : MethodName := ⟨RX0, "rest", "(I)I"⟩
abbrev cX0_way : ByteArray := prog_2_method_7_code
def yX0_way : MethodName := ⟨RX0, "way", "(I)I"⟩
abbrev cX0_drop : ByteArray := prog_2_method_5_code
def yX0_drop : MethodName := ⟨RX0, "drop", "()V"⟩
abbrev cX1_init : ByteArray := prog_3_method_1_code
def yX1_init : MethodName := ⟨RX1, "<init>", "()V"⟩
abbrev cX1_restart : ByteArray := prog_3_method_2_code
def yX1_restart : MethodName := ⟨RX1, "restart", "(I)V"⟩
abbrev cX1_canMeet : ByteArray := prog_3_method_3_code
def yX1_canMeet : MethodName := ⟨RX1, "canMeet", "(I)Z"⟩
abbrev cX1_append : ByteArray := prog_3_method_4_code
def yX1_append : MethodName := ⟨RX1, "append", "(I)I"⟩
abbrev cX1_become : ByteArray := prog_3_method_5_code
def yX1_become : MethodName := ⟨RX1, "become", "([II)V"⟩
abbrev cX1_met : ByteArray := prog_3_method_6_code
def yX1_met : MethodName := ⟨RX1, "met", "()I"⟩
abbrev cX1_heaviest : ByteArray := prog_3_method_7_code
def yX1_heaviest : MethodName := ⟨RX1, "heaviest", "(I)I"⟩
abbrev cJ6_bitCount : ByteArray := prog_6_method_49_code
def yJ6_bitCount : MethodName := ⟨RJ6, "bitCount", "(I)I"⟩
abbrev cX3_init : ByteArray := prog_5_method_1_code
def yX3_init : MethodName := ⟨RX3, "<init>", "()V"⟩
abbrev cX3_begin : ByteArray := prog_5_method_9_code
def yX3_begin : MethodName := ⟨RX3, "begin", "(II)Z"⟩
abbrev cX3_isGraph : ByteArray := prog_5_method_3_code
def yX3_isGraph : MethodName := ⟨RX3, "isGraph", "(I)Z"⟩
abbrev cX3_add : ByteArray := prog_5_method_10_code
def yX3_add : MethodName := ⟨RX3, "add", "(III)I"⟩
abbrev cX3_weigh : ByteArray := prog_5_method_11_code
def yX3_weigh : MethodName := ⟨RX3, "weigh", "(III)Z"⟩
abbrev cX3_isEdge : ByteArray := prog_5_method_4_code
def yX3_isEdge : MethodName := ⟨RX3, "isEdge", "(II)Z"⟩
abbrev cX3_leave : ByteArray := prog_5_method_14_code
def yX3_leave : MethodName := ⟨RX3, "leave", "(IIIZ)I"⟩
abbrev cX3_isSet : ByteArray := prog_5_method_6_code
def yX3_isSet : MethodName := ⟨RX3, "isSet", "(II)Z"⟩
abbrev cX3_whole : ByteArray := prog_5_method_5_code
def yX3_whole : MethodName := ⟨RX3, "whole", "(I)I"⟩
abbrev cX3_join : ByteArray := prog_5_method_17_code
def yX3_join : MethodName := ⟨RX3, "join", "(II)I"⟩
abbrev cX3_lay : ByteArray := prog_5_method_12_code
def yX3_lay : MethodName := ⟨RX3, "lay", "(II)V"⟩
abbrev cX3_keep : ByteArray := prog_5_method_13_code
def yX3_keep : MethodName := ⟨RX3, "keep", "(II)I"⟩
abbrev cX3_beside : ByteArray := prog_5_method_15_code
def yX3_beside : MethodName := ⟨RX3, "beside", "(III)I"⟩
abbrev cX3_number : ByteArray := prog_5_method_16_code
def yX3_number : MethodName := ⟨RX3, "number", "(II)I"⟩
abbrev cX3_edges : ByteArray := prog_5_method_19_code
def yX3_edges : MethodName := ⟨RX3, "edges", "(I)I"⟩
abbrev cX3_weight : ByteArray := prog_5_method_20_code
def yX3_weight : MethodName := ⟨RX3, "weight", "(II)I"⟩
abbrev cX3_rank : ByteArray := prog_5_method_21_code
def yX3_rank : MethodName := ⟨RX3, "rank", "(II)I"⟩
abbrev cX3_best : ByteArray := prog_5_method_22_code
def yX3_best : MethodName := ⟨RX3, "best", "(I)I"⟩
abbrev cX3_measure : ByteArray := prog_5_method_18_code
def yX3_measure : MethodName := ⟨RX3, "measure", "(I[B)V"⟩
abbrev cX3_size : ByteArray := prog_5_method_7_code
def yX3_size : MethodName := ⟨RX3, "size", "(I)I"⟩
abbrev cX3_comesFirst : ByteArray := prog_5_method_8_code
def yX3_comesFirst : MethodName := ⟨RX3, "comesFirst", "(II)Z"⟩
abbrev cX3_common : ByteArray := prog_5_method_25_code
def yX3_common : MethodName := ⟨RX3, "common", "(II)I"⟩
abbrev cX3_areAlike : ByteArray := prog_5_method_24_code
def yX3_areAlike : MethodName := ⟨RX3, "areAlike", "(II)Z"⟩
abbrev cX3_commonOf : ByteArray := prog_5_method_23_code
def yX3_commonOf : MethodName := ⟨RX3, "commonOf", "(II)I"⟩
abbrev cX3_cover : ByteArray := prog_5_method_26_code
def yX3_cover : MethodName := ⟨RX3, "cover", "(II)I"⟩
