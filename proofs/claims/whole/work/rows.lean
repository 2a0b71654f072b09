section
-- ===== PART A: goes FIRST, ahead of the names: the tables' words, and 'selects' of the private methods out of them =====
/-- a private method of a class that the tables say can be made, by its rows of tables_1 -/
def lw_okq (q : MethodName × Nat) : Prop := (q.1.cls ≠ "java/lang/invoke/MethodHandle" ∧ q.1.cls ≠ "java/lang/invoke/VarHandle") ∧ Cond.instantiable q.1.cls q.2 ∈ tables_1 ∧ Cond.privateMethod q.1 ∈ tables_1 ∧ Cond.instanceMethod q.1 ∈ tables_1
theorem lw_p0 : lw_okq (⟨"FormSeries", "refuse", "(I)I"⟩, 9) := ⟨⟨by decide +kernel, by decide +kernel⟩, List.mem_of_getElem? (i := 10) (by decide +kernel), List.mem_of_getElem? (i := 150) (by decide +kernel), List.mem_of_getElem? (i := 151) (by decide +kernel)⟩
theorem lw_p1 : lw_okq (⟨"FormSeries", "hasRoom", "(I)Z"⟩, 9) := ⟨⟨by decide +kernel, by decide +kernel⟩, List.mem_of_getElem? (i := 10) (by decide +kernel), List.mem_of_getElem? (i := 157) (by decide +kernel), List.mem_of_getElem? (i := 158) (by decide +kernel)⟩
theorem lw_p2 : lw_okq (⟨"FormSeries", "comeAsTold", "(III)I"⟩, 9) := ⟨⟨by decide +kernel, by decide +kernel⟩, List.mem_of_getElem? (i := 10) (by decide +kernel), List.mem_of_getElem? (i := 172) (by decide +kernel), List.mem_of_getElem? (i := 173) (by decide +kernel)⟩
theorem lw_p3 : lw_okq (⟨"FormSeries", "isForm", "(I)Z"⟩, 9) := ⟨⟨by decide +kernel, by decide +kernel⟩, List.mem_of_getElem? (i := 10) (by decide +kernel), List.mem_of_getElem? (i := 185) (by decide +kernel), List.mem_of_getElem? (i := 186) (by decide +kernel)⟩
theorem lw_p4 : lw_okq (⟨"FormSeries", "comeOfOthers", "(I)I"⟩, 9) := ⟨⟨by decide +kernel, by decide +kernel⟩, List.mem_of_getElem? (i := 10) (by decide +kernel), List.mem_of_getElem? (i := 190) (by decide +kernel), List.mem_of_getElem? (i := 191) (by decide +kernel)⟩
theorem lw_p5 : lw_okq (⟨"FormSeries$Bases", "makeRows", "(I)V"⟩, 8) := ⟨⟨by decide +kernel, by decide +kernel⟩, List.mem_of_getElem? (i := 20) (by decide +kernel), List.mem_of_getElem? (i := 233) (by decide +kernel), List.mem_of_getElem? (i := 234) (by decide +kernel)⟩
theorem lw_p6 : lw_okq (⟨"FormSeries", "takeOneSquareMore", "(I)V"⟩, 9) := ⟨⟨by decide +kernel, by decide +kernel⟩, List.mem_of_getElem? (i := 10) (by decide +kernel), List.mem_of_getElem? (i := 321) (by decide +kernel), List.mem_of_getElem? (i := 322) (by decide +kernel)⟩
theorem lw_p7 : lw_okq (⟨"FormSeriesModel", "no", "(I)I"⟩, 20) := ⟨⟨by decide +kernel, by decide +kernel⟩, List.mem_of_getElem? (i := 357) (by decide +kernel), List.mem_of_getElem? (i := 447) (by decide +kernel), List.mem_of_getElem? (i := 448) (by decide +kernel)⟩
theorem lw_p8 : lw_okq (⟨"FormSeriesModel", "comes", "(III)I"⟩, 20) := ⟨⟨by decide +kernel, by decide +kernel⟩, List.mem_of_getElem? (i := 357) (by decide +kernel), List.mem_of_getElem? (i := 451) (by decide +kernel), List.mem_of_getElem? (i := 452) (by decide +kernel)⟩
theorem lw_p9 : lw_okq (⟨"FormSeriesModel", "multiplies", "([J[J)V"⟩, 20) := ⟨⟨by decide +kernel, by decide +kernel⟩, List.mem_of_getElem? (i := 357) (by decide +kernel), List.mem_of_getElem? (i := 463) (by decide +kernel), List.mem_of_getElem? (i := 464) (by decide +kernel)⟩
theorem lw_p10 : lw_okq (⟨"FormSeriesModel", "isForm", "(I)Z"⟩, 20) := ⟨⟨by decide +kernel, by decide +kernel⟩, List.mem_of_getElem? (i := 357) (by decide +kernel), List.mem_of_getElem? (i := 471) (by decide +kernel), List.mem_of_getElem? (i := 472) (by decide +kernel)⟩
theorem lw_p11 : lw_okq (⟨"FormSeriesModel", "made", "(I)I"⟩, 20) := ⟨⟨by decide +kernel, by decide +kernel⟩, List.mem_of_getElem? (i := 357) (by decide +kernel), List.mem_of_getElem? (i := 478) (by decide +kernel), List.mem_of_getElem? (i := 479) (by decide +kernel)⟩
theorem lw_p12 : lw_okq (⟨"FormSeriesModel", "takes", "([JI)V"⟩, 20) := ⟨⟨by decide +kernel, by decide +kernel⟩, List.mem_of_getElem? (i := 357) (by decide +kernel), List.mem_of_getElem? (i := 486) (by decide +kernel), List.mem_of_getElem? (i := 487) (by decide +kernel)⟩
theorem lw_p13 : lw_okq (⟨"FormSeriesModel", "finds", "([JI)V"⟩, 20) := ⟨⟨by decide +kernel, by decide +kernel⟩, List.mem_of_getElem? (i := 357) (by decide +kernel), List.mem_of_getElem? (i := 507) (by decide +kernel), List.mem_of_getElem? (i := 508) (by decide +kernel)⟩
theorem lw_p14 : lw_okq (⟨"FormSeriesModel", "fillBasis", "(II)V"⟩, 20) := ⟨⟨by decide +kernel, by decide +kernel⟩, List.mem_of_getElem? (i := 357) (by decide +kernel), List.mem_of_getElem? (i := 517) (by decide +kernel), List.mem_of_getElem? (i := 518) (by decide +kernel)⟩
theorem lw_p15 : lw_okq (⟨"FormSeriesModel", "builds", "(II)V"⟩, 20) := ⟨⟨by decide +kernel, by decide +kernel⟩, List.mem_of_getElem? (i := 357) (by decide +kernel), List.mem_of_getElem? (i := 521) (by decide +kernel), List.mem_of_getElem? (i := 522) (by decide +kernel)⟩
def lw_privs_1 : List (MethodName × Nat) := [(⟨"FormSeries", "refuse", "(I)I"⟩, 9), (⟨"FormSeries", "hasRoom", "(I)Z"⟩, 9), (⟨"FormSeries", "comeAsTold", "(III)I"⟩, 9), (⟨"FormSeries", "isForm", "(I)Z"⟩, 9), (⟨"FormSeries", "comeOfOthers", "(I)I"⟩, 9), (⟨"FormSeries$Bases", "makeRows", "(I)V"⟩, 8), (⟨"FormSeries", "takeOneSquareMore", "(I)V"⟩, 9), (⟨"FormSeriesModel", "no", "(I)I"⟩, 20), (⟨"FormSeriesModel", "comes", "(III)I"⟩, 20), (⟨"FormSeriesModel", "multiplies", "([J[J)V"⟩, 20), (⟨"FormSeriesModel", "isForm", "(I)Z"⟩, 20), (⟨"FormSeriesModel", "made", "(I)I"⟩, 20), (⟨"FormSeriesModel", "takes", "([JI)V"⟩, 20), (⟨"FormSeriesModel", "finds", "([JI)V"⟩, 20), (⟨"FormSeriesModel", "fillBasis", "(II)V"⟩, 20), (⟨"FormSeriesModel", "builds", "(II)V"⟩, 20)]
theorem lw_r1 : ∀ q ∈ lw_privs_1, lw_okq q := List.forall_mem_cons.mpr ⟨lw_p0, List.forall_mem_cons.mpr ⟨lw_p1, List.forall_mem_cons.mpr ⟨lw_p2, List.forall_mem_cons.mpr ⟨lw_p3, List.forall_mem_cons.mpr ⟨lw_p4, List.forall_mem_cons.mpr ⟨lw_p5, List.forall_mem_cons.mpr ⟨lw_p6, List.forall_mem_cons.mpr ⟨lw_p7, List.forall_mem_cons.mpr ⟨lw_p8, List.forall_mem_cons.mpr ⟨lw_p9, List.forall_mem_cons.mpr ⟨lw_p10, List.forall_mem_cons.mpr ⟨lw_p11, List.forall_mem_cons.mpr ⟨lw_p12, List.forall_mem_cons.mpr ⟨lw_p13, List.forall_mem_cons.mpr ⟨lw_p14, List.forall_mem_cons.mpr ⟨lw_p15, fun _ h => absurd h List.not_mem_nil⟩⟩⟩⟩⟩⟩⟩⟩⟩⟩⟩⟩⟩⟩⟩⟩
theorem lw_p16 : lw_okq (⟨"FormSeriesModel", "doesTo", "(II)V"⟩, 20) := ⟨⟨by decide +kernel, by decide +kernel⟩, List.mem_of_getElem? (i := 357) (by decide +kernel), List.mem_of_getElem? (i := 532) (by decide +kernel), List.mem_of_getElem? (i := 533) (by decide +kernel)⟩
theorem lw_p17 : lw_okq (⟨"FormSeriesModel", "leastOf", "(I)I"⟩, 20) := ⟨⟨by decide +kernel, by decide +kernel⟩, List.mem_of_getElem? (i := 357) (by decide +kernel), List.mem_of_getElem? (i := 552) (by decide +kernel), List.mem_of_getElem? (i := 553) (by decide +kernel)⟩
theorem lw_p18 : lw_okq (⟨"FormSeriesModel", "firstApart", "(II)I"⟩, 20) := ⟨⟨by decide +kernel, by decide +kernel⟩, List.mem_of_getElem? (i := 357) (by decide +kernel), List.mem_of_getElem? (i := 569) (by decide +kernel), List.mem_of_getElem? (i := 570) (by decide +kernel)⟩
def lw_privs_2 : List (MethodName × Nat) := [(⟨"FormSeriesModel", "doesTo", "(II)V"⟩, 20), (⟨"FormSeriesModel", "leastOf", "(I)I"⟩, 20), (⟨"FormSeriesModel", "firstApart", "(II)I"⟩, 20)]
theorem lw_r2 : ∀ q ∈ lw_privs_2, lw_okq q := List.forall_mem_cons.mpr ⟨lw_p16, List.forall_mem_cons.mpr ⟨lw_p17, List.forall_mem_cons.mpr ⟨lw_p18, fun _ h => absurd h List.not_mem_nil⟩⟩⟩
def lw_privs : List (MethodName × Nat) := lw_privs_1 ++ (lw_privs_2)
def lw_tbl : List Cond := k2_sels lw_privs ++ tables_1
theorem lw_privs_ok : ∀ q ∈ lw_privs, lw_okq q := by
  show ∀ q ∈ lw_privs_1 ++ (lw_privs_2), lw_okq q
  exact List.forall_mem_append.mpr ⟨lw_r1, lw_r2⟩
end
section
def RX0 : String := "FormSeries$Bases"
def TX0 : u_T := fun k => match k with
  | 0 => ("FormSeries$Bases", "e2", "[J", true)
  | 1 => ("FormSeries$Bases", "d", "[J", true)
  | 2 => ("FormSeries$Bases", "e4", "[J", true)
  | 3 => ("FormSeries$Bases", "e6", "[J", true)
  | 4 => ("FormSeries$Bases", "sizes", "[I", true)
  | 5 => ("FormSeries$Bases", "firsts", "[I", true)
  | 6 => ("FormSeries$Bases", "rows", "[[J", true)
  | _ => ("FormSeries$Bases", "nextWeight", "I", false)
def tyX0 : Nat → FieldType := fun k => match k with
  | 0 => .array .long
  | 1 => .array .long
  | 2 => .array .long
  | 3 => .array .long
  | 4 => .array .int
  | 5 => .array .int
  | 6 => .array (.array .long)
  | _ => .int
theorem nmX0 : ∀ a, a < 8 → ∀ b, b < 8 → a ≠ b → (TX0 a).2.1 ≠ (TX0 b).2.1 := by decide +kernel
theorem tyX0_ok : ∀ k, k < 8 → parseFieldDescriptor (TX0 k).2.2.1 = some (tyX0 k) := by decide +kernel
abbrev cX0_init : ByteArray := prog_2_method_1_code
def yX0_init : MethodName := ⟨RX0, "<init>", "()V"⟩
abbrev cX0_countSize : ByteArray := prog_2_method_2_code
def yX0_countSize : MethodName := ⟨RX0, "countSize", "(I)I"⟩
abbrev cX0_sizeOf : ByteArray := prog_2_method_3_code
def yX0_sizeOf : MethodName := ⟨RX0, "sizeOf", "(I)I"⟩
abbrev cX0_rowOf : ByteArray := prog_2_method_4_code
def yX0_rowOf : MethodName := ⟨RX0, "rowOf", "(II)[J"⟩
abbrev cX0_makeRows : ByteArray := prog_2_method_5_code
def yX0_makeRows : MethodName := ⟨RX0, "makeRows", "(I)V"⟩
abbrev cX0_findParts : ByteArray := prog_2_method_6_code
def yX0_findParts : MethodName := ⟨RX0, "findParts", "(I[J[J)V"⟩
abbrev cX0_join : ByteArray := prog_2_method_7_code
def yX0_join : MethodName := ⟨RX0, "join", "(I[J[J)V"⟩
abbrev cX0_putImage : ByteArray := prog_2_method_8_code
def yX0_putImage : MethodName := ⟨RX0, "putImage", "(I[JI[J)V"⟩
def RX1 : String := "FormSeries$Form"
def TX1 : u_T := fun k => match k with
  | 0 => ("FormSeries$Form", "numbers", "[J", true)
  | 1 => ("FormSeries$Form", "weight", "I", false)
  | 2 => ("FormSeries$Form", "kind", "I", false)
  | _ => ("FormSeries$Form", "told", "I", false)
def tyX1 : Nat → FieldType := fun k => match k with
  | 0 => .array .long
  | 1 => .int
  | 2 => .int
  | _ => .int
theorem nmX1 : ∀ a, a < 4 → ∀ b, b < 4 → a ≠ b → (TX1 a).2.1 ≠ (TX1 b).2.1 := by decide +kernel
theorem tyX1_ok : ∀ k, k < 4 → parseFieldDescriptor (TX1 k).2.2.1 = some (tyX1 k) := by decide +kernel
abbrev cX1_init : ByteArray := prog_3_method_1_code
def yX1_init : MethodName := ⟨RX1, "<init>", "()V"⟩
abbrev cX1_putBracket : ByteArray := prog_3_method_2_code
def yX1_putBracket : MethodName := ⟨RX1, "putBracket", "(LFormSeries$Form;LFormSeries$Form;[J)V"⟩
def RX2 : String := "FormSeries$Rests"
def TX2 : u_T := fun k => match k with
  | _ => ("", "", "", false)
def tyX2 : Nat → FieldType := fun k => match k with
  | _ => .int
theorem nmX2 : ∀ a, a < 0 → ∀ b, b < 0 → a ≠ b → (TX2 a).2.1 ≠ (TX2 b).2.1 := by decide +kernel
theorem tyX2_ok : ∀ k, k < 0 → parseFieldDescriptor (TX2 k).2.2.1 = some (tyX2 k) := by decide +kernel
abbrev cX2_rest : ByteArray := prog_4_method_2_code
def yX2_rest : MethodName := ⟨RX2, "rest", "(J)J"⟩
abbrev cX2_raised : ByteArray := prog_4_method_3_code
def yX2_raised : MethodName := ⟨RX2, "raised", "(JI)J"⟩
abbrev cX2_quotient : ByteArray := prog_4_method_4_code
def yX2_quotient : MethodName := ⟨RX2, "quotient", "(JJ)J"⟩
def RX3 : String := "FormSeries$Series"
def TX3 : u_T := fun k => match k with
  | _ => ("", "", "", false)
def tyX3 : Nat → FieldType := fun k => match k with
  | _ => .int
theorem nmX3 : ∀ a, a < 0 → ∀ b, b < 0 → a ≠ b → (TX3 a).2.1 ≠ (TX3 b).2.1 := by decide +kernel
theorem tyX3_ok : ∀ k, k < 0 → parseFieldDescriptor (TX3 k).2.2.1 = some (tyX3 k) := by decide +kernel
abbrev cX3_multiply : ByteArray := prog_5_method_2_code
def yX3_multiply : MethodName := ⟨RX3, "multiply", "([J[J[J)V"⟩
abbrev cX3_raise : ByteArray := prog_5_method_3_code
def yX3_raise : MethodName := ⟨RX3, "raise", "([JI[J)V"⟩
abbrev cX3_putOne : ByteArray := prog_5_method_4_code
def yX3_putOne : MethodName := ⟨RX3, "putOne", "([J)V"⟩
abbrev cX3_putSums : ByteArray := prog_5_method_5_code
def yX3_putSums : MethodName := ⟨RX3, "putSums", "(JI[J)V"⟩
abbrev cX3_putD : ByteArray := prog_5_method_6_code
def yX3_putD : MethodName := ⟨RX3, "putD", "([J)V"⟩
abbrev cX3_leastPlace : ByteArray := prog_5_method_7_code
def yX3_leastPlace : MethodName := ⟨RX3, "leastPlace", "([J)I"⟩
abbrev cX3_firstUnlike : ByteArray := prog_5_method_8_code
def yX3_firstUnlike : MethodName := ⟨RX3, "firstUnlike", "([J[J)I"⟩
abbrev cX3_ratio : ByteArray := prog_5_method_9_code
def yX3_ratio : MethodName := ⟨RX3, "ratio", "([J[JI)I"⟩
def RX4 : String := "FormSeries"
def TX4 : u_T := fun k => match k with
  | 0 => ("FormSeries", "forms", "[LFormSeries$Form;", true)
  | 1 => ("FormSeries", "held", "I", false)
  | 2 => ("FormSeries", "bases", "LFormSeries$Bases;", true)
  | 3 => ("FormSeries", "parts", "[J", true)
  | 4 => ("FormSeries", "image", "[J", true)
  | 5 => ("FormSeries", "ways", "[I", true)
  | 6 => ("FormSeries", "theRow", "[J", true)
  | 7 => ("FormSeries", "rowLength", "I", false)
  | _ => ("FormSeries", "refusals", "[I", true)
def tyX4 : Nat → FieldType := fun k => match k with
  | 0 => .array (.object "FormSeries$Form")
  | 1 => .int
  | 2 => .object "FormSeries$Bases"
  | 3 => .array .long
  | 4 => .array .long
  | 5 => .array .int
  | 6 => .array .long
  | 7 => .int
  | _ => .array .int
theorem nmX4 : ∀ a, a < 9 → ∀ b, b < 9 → a ≠ b → (TX4 a).2.1 ≠ (TX4 b).2.1 := by decide +kernel
theorem tyX4_ok : ∀ k, k < 9 → parseFieldDescriptor (TX4 k).2.2.1 = some (tyX4 k) := by decide +kernel
abbrev cX4_init : ByteArray := prog_1_method_1_code
def yX4_init : MethodName := ⟨RX4, "<init>", "()V"⟩
abbrev cX4_sums : ByteArray := prog_1_method_2_code
def yX4_sums : MethodName := ⟨RX4, "sums", "(I)I"⟩
abbrev cX4_product : ByteArray := prog_1_method_3_code
def yX4_product : MethodName := ⟨RX4, "product", "(I)I"⟩
abbrev cX4_add : ByteArray := prog_1_method_4_code
def yX4_add : MethodName := ⟨RX4, "add", "(IIII)I"⟩
abbrev cX4_times : ByteArray := prog_1_method_5_code
def yX4_times : MethodName := ⟨RX4, "times", "(II)I"⟩
abbrev cX4_power : ByteArray := prog_1_method_6_code
def yX4_power : MethodName := ⟨RX4, "power", "(II)I"⟩
abbrev cX4_slope : ByteArray := prog_1_method_7_code
def yX4_slope : MethodName := ⟨RX4, "slope", "(I)I"⟩
abbrev cX4_bracket : ByteArray := prog_1_method_8_code
def yX4_bracket : MethodName := ⟨RX4, "bracket", "(II)I"⟩
abbrev cX4_over : ByteArray := prog_1_method_9_code
def yX4_over : MethodName := ⟨RX4, "over", "(I)I"⟩
abbrev cX4_prime : ByteArray := prog_1_method_10_code
def yX4_prime : MethodName := ⟨RX4, "prime", "(II)I"⟩
abbrev cX4_basis : ByteArray := prog_1_method_11_code
def yX4_basis : MethodName := ⟨RX4, "basis", "(II)I"⟩
abbrev cX4_drop : ByteArray := prog_1_method_12_code
def yX4_drop : MethodName := ⟨RX4, "drop", "()I"⟩
abbrev cX4_look : ByteArray := prog_1_method_13_code
def yX4_look : MethodName := ⟨RX4, "look", "(II)I"⟩
abbrev cX4_at : ByteArray := prog_1_method_14_code
def yX4_at : MethodName := ⟨RX4, "at", "(II)I"⟩
abbrev cX4_part : ByteArray := prog_1_method_15_code
def yX4_part : MethodName := ⟨RX4, "part", "(II)I"⟩
abbrev cX4_same : ByteArray := prog_1_method_16_code
def yX4_same : MethodName := ⟨RX4, "same", "(II)I"⟩
abbrev cX4_apart : ByteArray := prog_1_method_17_code
def yX4_apart : MethodName := ⟨RX4, "apart", "(II)I"⟩
abbrev cX4_size : ByteArray := prog_1_method_18_code
def yX4_size : MethodName := ⟨RX4, "size", "(I)I"⟩
abbrev cX4_own : ByteArray := prog_1_method_19_code
def yX4_own : MethodName := ⟨RX4, "own", "(II)I"⟩
abbrev cX4_trace : ByteArray := prog_1_method_20_code
def yX4_trace : MethodName := ⟨RX4, "trace", "(IIZ)I"⟩
abbrev cX4_squares : ByteArray := prog_1_method_21_code
def yX4_squares : MethodName := ⟨RX4, "squares", "(II)I"⟩
abbrev cX4_count : ByteArray := prog_1_method_22_code
def yX4_count : MethodName := ⟨RX4, "count", "()I"⟩
abbrev cX4_lay : ByteArray := prog_1_method_23_code
def yX4_lay : MethodName := ⟨RX4, "lay", "(II)I"⟩
abbrev cX4_tell : ByteArray := prog_1_method_24_code
def yX4_tell : MethodName := ⟨RX4, "tell", "(II)I"⟩
abbrev cX4_give : ByteArray := prog_1_method_25_code
def yX4_give : MethodName := ⟨RX4, "give", "(I)I"⟩
abbrev cX4_tear : ByteArray := prog_1_method_26_code
def yX4_tear : MethodName := ⟨RX4, "tear", "()I"⟩
abbrev cX4_row : ByteArray := prog_1_method_27_code
def yX4_row : MethodName := ⟨RX4, "row", "(I)I"⟩
abbrev cX4_copy : ByteArray := prog_1_method_28_code
def yX4_copy : MethodName := ⟨RX4, "copy", "(III)I"⟩
abbrev cX4_status : ByteArray := prog_1_method_29_code
def yX4_status : MethodName := ⟨RX4, "status", "(I)I"⟩
abbrev cX4_refuse : ByteArray := prog_1_method_30_code
def yX4_refuse : MethodName := ⟨RX4, "refuse", "(I)I"⟩
abbrev cX4_isRefusal : ByteArray := prog_1_method_31_code
def yX4_isRefusal : MethodName := ⟨RX4, "isRefusal", "(I)Z"⟩
abbrev cX4_isForm : ByteArray := prog_1_method_32_code
def yX4_isForm : MethodName := ⟨RX4, "isForm", "(I)Z"⟩
abbrev cX4_isWeight : ByteArray := prog_1_method_33_code
def yX4_isWeight : MethodName := ⟨RX4, "isWeight", "(I)Z"⟩
abbrev cX4_isPrime : ByteArray := prog_1_method_34_code
def yX4_isPrime : MethodName := ⟨RX4, "isPrime", "(I)Z"⟩
abbrev cX4_hasRoom : ByteArray := prog_1_method_35_code
def yX4_hasRoom : MethodName := ⟨RX4, "hasRoom", "(I)Z"⟩
abbrev cX4_sumsIndex : ByteArray := prog_1_method_36_code
def yX4_sumsIndex : MethodName := ⟨RX4, "sumsIndex", "(I)I"⟩
abbrev cX4_comeAsTold : ByteArray := prog_1_method_37_code
def yX4_comeAsTold : MethodName := ⟨RX4, "comeAsTold", "(III)I"⟩
abbrev cX4_comeOfOthers : ByteArray := prog_1_method_38_code
def yX4_comeOfOthers : MethodName := ⟨RX4, "comeOfOthers", "(I)I"⟩
abbrev cX4_takeOneSquareMore : ByteArray := prog_1_method_39_code
def yX4_takeOneSquareMore : MethodName := ⟨RX4, "takeOneSquareMore", "(I)V"⟩
def RX5 : String := "FormSeriesModel"
def TX5 : u_T := fun k => match k with
  | 0 => ("FormSeriesModel", "form", "[J", true)
  | 1 => ("FormSeriesModel", "kind", "[I", true)
  | 2 => ("FormSeriesModel", "weight", "[I", true)
  | 3 => ("FormSeriesModel", "told", "[I", true)
  | 4 => ("FormSeriesModel", "many", "I", false)
  | 5 => ("FormSeriesModel", "refused", "[I", true)
  | 6 => ("FormSeriesModel", "two", "[J", true)
  | 7 => ("FormSeriesModel", "four", "[J", true)
  | 8 => ("FormSeriesModel", "six", "[J", true)
  | 9 => ("FormSeriesModel", "product", "[J", true)
  | 10 => ("FormSeriesModel", "now", "[J", true)
  | 11 => ("FormSeriesModel", "then", "[J", true)
  | 12 => ("FormSeriesModel", "base", "[J", true)
  | 13 => ("FormSeriesModel", "parts", "[J", true)
  | 14 => ("FormSeriesModel", "left", "[J", true)
  | 15 => ("FormSeriesModel", "ways", "[J", true)
  | 16 => ("FormSeriesModel", "more", "[J", true)
  | 17 => ("FormSeriesModel", "row", "[I", true)
  | 18 => ("FormSeriesModel", "moved", "[I", true)
  | _ => ("FormSeriesModel", "rowSize", "I", false)
def tyX5 : Nat → FieldType := fun k => match k with
  | 0 => .array .long
  | 1 => .array .int
  | 2 => .array .int
  | 3 => .array .int
  | 4 => .int
  | 5 => .array .int
  | 6 => .array .long
  | 7 => .array .long
  | 8 => .array .long
  | 9 => .array .long
  | 10 => .array .long
  | 11 => .array .long
  | 12 => .array .long
  | 13 => .array .long
  | 14 => .array .long
  | 15 => .array .long
  | 16 => .array .long
  | 17 => .array .int
  | 18 => .array .int
  | _ => .int
theorem nmX5 : ∀ a, a < 20 → ∀ b, b < 20 → a ≠ b → (TX5 a).2.1 ≠ (TX5 b).2.1 := by decide +kernel
theorem tyX5_ok : ∀ k, k < 20 → parseFieldDescriptor (TX5 k).2.2.1 = some (tyX5 k) := by decide +kernel
abbrev cX5_init : ByteArray := prog_7_method_1_code
def yX5_init : MethodName := ⟨RX5, "<init>", "()V"⟩
abbrev cX5_raised : ByteArray := prog_7_method_2_code
def yX5_raised : MethodName := ⟨RX5, "raised", "(JI)J"⟩
abbrev cX5_inverse : ByteArray := prog_7_method_3_code
def yX5_inverse : MethodName := ⟨RX5, "inverse", "(J)J"⟩
abbrev cX5_fillSums : ByteArray := prog_7_method_4_code
def yX5_fillSums : MethodName := ⟨RX5, "fillSums", "([JIJ)V"⟩
abbrev cX5_isIn : ByteArray := prog_7_method_5_code
def yX5_isIn : MethodName := ⟨RX5, "isIn", "(JJJ)Z"⟩
abbrev cX5_no : ByteArray := prog_7_method_6_code
def yX5_no : MethodName := ⟨RX5, "no", "(I)I"⟩
abbrev cX5_isForm : ByteArray := prog_7_method_7_code
def yX5_isForm : MethodName := ⟨RX5, "isForm", "(I)Z"⟩
abbrev cX5_takes : ByteArray := prog_7_method_8_code
def yX5_takes : MethodName := ⟨RX5, "takes", "([JI)V"⟩
abbrev cX5_multiplies : ByteArray := prog_7_method_9_code
def yX5_multiplies : MethodName := ⟨RX5, "multiplies", "([J[J)V"⟩
abbrev cX5_isRest : ByteArray := prog_7_method_10_code
def yX5_isRest : MethodName := ⟨RX5, "isRest", "(I)Z"⟩
abbrev cX5_sizeOf : ByteArray := prog_7_method_11_code
def yX5_sizeOf : MethodName := ⟨RX5, "sizeOf", "(I)I"⟩
abbrev cX5_isWeight : ByteArray := prog_7_method_12_code
def yX5_isWeight : MethodName := ⟨RX5, "isWeight", "(I)Z"⟩
abbrev cX5_fillBasis : ByteArray := prog_7_method_13_code
def yX5_fillBasis : MethodName := ⟨RX5, "fillBasis", "(II)V"⟩
abbrev cX5_finds : ByteArray := prog_7_method_14_code
def yX5_finds : MethodName := ⟨RX5, "finds", "([JI)V"⟩
abbrev cX5_builds : ByteArray := prog_7_method_15_code
def yX5_builds : MethodName := ⟨RX5, "builds", "(II)V"⟩
abbrev cX5_comes : ByteArray := prog_7_method_16_code
def yX5_comes : MethodName := ⟨RX5, "comes", "(III)I"⟩
abbrev cX5_made : ByteArray := prog_7_method_17_code
def yX5_made : MethodName := ⟨RX5, "made", "(I)I"⟩
abbrev cX5_sums : ByteArray := prog_7_method_18_code
def yX5_sums : MethodName := ⟨RX5, "sums", "(I)I"⟩
abbrev cX5_product : ByteArray := prog_7_method_19_code
def yX5_product : MethodName := ⟨RX5, "product", "(I)I"⟩
abbrev cX5_rest : ByteArray := prog_7_method_20_code
def yX5_rest : MethodName := ⟨RX5, "rest", "(I)J"⟩
abbrev cX5_add : ByteArray := prog_7_method_21_code
def yX5_add : MethodName := ⟨RX5, "add", "(IIII)I"⟩
abbrev cX5_times : ByteArray := prog_7_method_22_code
def yX5_times : MethodName := ⟨RX5, "times", "(II)I"⟩
abbrev cX5_power : ByteArray := prog_7_method_23_code
def yX5_power : MethodName := ⟨RX5, "power", "(II)I"⟩
abbrev cX5_slope : ByteArray := prog_7_method_24_code
def yX5_slope : MethodName := ⟨RX5, "slope", "(I)I"⟩
abbrev cX5_bracket : ByteArray := prog_7_method_25_code
def yX5_bracket : MethodName := ⟨RX5, "bracket", "(II)I"⟩
abbrev cX5_over : ByteArray := prog_7_method_26_code
def yX5_over : MethodName := ⟨RX5, "over", "(I)I"⟩
abbrev cX5_isPrime : ByteArray := prog_7_method_27_code
def yX5_isPrime : MethodName := ⟨RX5, "isPrime", "(I)Z"⟩
abbrev cX5_doesTo : ByteArray := prog_7_method_28_code
def yX5_doesTo : MethodName := ⟨RX5, "doesTo", "(II)V"⟩
abbrev cX5_prime : ByteArray := prog_7_method_29_code
def yX5_prime : MethodName := ⟨RX5, "prime", "(II)I"⟩
abbrev cX5_basis : ByteArray := prog_7_method_30_code
def yX5_basis : MethodName := ⟨RX5, "basis", "(II)I"⟩
abbrev cX5_drop : ByteArray := prog_7_method_31_code
def yX5_drop : MethodName := ⟨RX5, "drop", "()I"⟩
abbrev cX5_leastOf : ByteArray := prog_7_method_32_code
def yX5_leastOf : MethodName := ⟨RX5, "leastOf", "(I)I"⟩
abbrev cX5_look : ByteArray := prog_7_method_33_code
def yX5_look : MethodName := ⟨RX5, "look", "(II)I"⟩
abbrev cX5_at : ByteArray := prog_7_method_34_code
def yX5_at : MethodName := ⟨RX5, "at", "(II)I"⟩
abbrev cX5_part : ByteArray := prog_7_method_35_code
def yX5_part : MethodName := ⟨RX5, "part", "(II)I"⟩
abbrev cX5_firstApart : ByteArray := prog_7_method_36_code
def yX5_firstApart : MethodName := ⟨RX5, "firstApart", "(II)I"⟩
abbrev cX5_same : ByteArray := prog_7_method_37_code
def yX5_same : MethodName := ⟨RX5, "same", "(II)I"⟩
abbrev cX5_apart : ByteArray := prog_7_method_38_code
def yX5_apart : MethodName := ⟨RX5, "apart", "(II)I"⟩
abbrev cX5_size : ByteArray := prog_7_method_39_code
def yX5_size : MethodName := ⟨RX5, "size", "(I)I"⟩
abbrev cX5_own : ByteArray := prog_7_method_40_code
def yX5_own : MethodName := ⟨RX5, "own", "(II)I"⟩
abbrev cX5_trace : ByteArray := prog_7_method_41_code
def yX5_trace : MethodName := ⟨RX5, "trace", "(IIZ)I"⟩
abbrev cX5_squares : ByteArray := prog_7_method_42_code
def yX5_squares : MethodName := ⟨RX5, "squares", "(II)I"⟩
abbrev cX5_count : ByteArray := prog_7_method_43_code
def yX5_count : MethodName := ⟨RX5, "count", "()I"⟩
abbrev cX5_lay : ByteArray := prog_7_method_44_code
def yX5_lay : MethodName := ⟨RX5, "lay", "(II)I"⟩
abbrev cX5_tell : ByteArray := prog_7_method_45_code
def yX5_tell : MethodName := ⟨RX5, "tell", "(II)I"⟩
abbrev cX5_give : ByteArray := prog_7_method_46_code
def yX5_give : MethodName := ⟨RX5, "give", "(I)I"⟩
abbrev cX5_tear : ByteArray := prog_7_method_47_code
def yX5_tear : MethodName := ⟨RX5, "tear", "()I"⟩
abbrev cX5_row : ByteArray := prog_7_method_48_code
def yX5_row : MethodName := ⟨RX5, "row", "(I)I"⟩
abbrev cX5_copy : ByteArray := prog_7_method_49_code
def yX5_copy : MethodName := ⟨RX5, "copy", "(III)I"⟩
abbrev cX5_status : ByteArray := prog_7_method_50_code
def yX5_status : MethodName := ⟨RX5, "status", "(I)I"⟩
def RJ9 : String := "java/lang/Math"
abbrev cJ9_floorMod_f86c9 : ByteArray := prog_8_method_52_code
def yJ9_floorMod_f86c9 : MethodName := ⟨RJ9, "floorMod", "(JJ)J"⟩
abbrev cJ9_max_7cf53 : ByteArray := prog_8_method_65_code
def yJ9_max_7cf53 : MethodName := ⟨RJ9, "max", "(II)I"⟩
def RJ10 : String := "java/lang/System"
def RL : String := "FormSeriesLaw"
abbrev cL_law : ByteArray := code
def yL_law : MethodName := ⟨RL, "law", "([I)Z"⟩
end
section
def lw_gd : List Cond := lw_tbl.filter goodWord
theorem hw_0 : Cond.initialized RL ∈ lw_gd := List.mem_filter.mpr ⟨List.mem_append_right _ (List.mem_of_getElem? (i := 0) (by decide +kernel)), by decide +kernel⟩
theorem hw_1 : Cond.initialized RX4 ∈ lw_gd := List.mem_filter.mpr ⟨List.mem_append_right _ (List.mem_of_getElem? (i := 1) (by decide +kernel)), by decide +kernel⟩
theorem hw_2 : Cond.initialized RX0 ∈ lw_gd := List.mem_filter.mpr ⟨List.mem_append_right _ (List.mem_of_getElem? (i := 2) (by decide +kernel)), by decide +kernel⟩
theorem hw_3 : Cond.initialized RX2 ∈ lw_gd := List.mem_filter.mpr ⟨List.mem_append_right _ (List.mem_of_getElem? (i := 3) (by decide +kernel)), by decide +kernel⟩
theorem hw_4 : Cond.initialized RJ9 ∈ lw_gd := List.mem_filter.mpr ⟨List.mem_append_right _ (List.mem_of_getElem? (i := 4) (by decide +kernel)), by decide +kernel⟩
theorem hw_5 : Cond.initialized RX3 ∈ lw_gd := List.mem_filter.mpr ⟨List.mem_append_right _ (List.mem_of_getElem? (i := 5) (by decide +kernel)), by decide +kernel⟩
theorem hw_6 : Cond.initialized RJ10 ∈ lw_gd := List.mem_filter.mpr ⟨List.mem_append_right _ (List.mem_of_getElem? (i := 6) (by decide +kernel)), by decide +kernel⟩
theorem hw_7 : Cond.initialized RX1 ∈ lw_gd := List.mem_filter.mpr ⟨List.mem_append_right _ (List.mem_of_getElem? (i := 7) (by decide +kernel)), by decide +kernel⟩
theorem hw_8 : Cond.initialized RX5 ∈ lw_gd := List.mem_filter.mpr ⟨List.mem_append_right _ (List.mem_of_getElem? (i := 8) (by decide +kernel)), by decide +kernel⟩
theorem hw_9 : Cond.classLink RL 7 RX4 ∈ lw_gd := List.mem_filter.mpr ⟨List.mem_append_right _ (List.mem_of_getElem? (i := 9) (by decide +kernel)), by decide +kernel⟩
theorem hw_10 : Cond.instantiable RX4 9 ∈ lw_gd := List.mem_filter.mpr ⟨List.mem_append_right _ (List.mem_of_getElem? (i := 10) (by decide +kernel)), by decide +kernel⟩
theorem hw_11 : Cond.methodLink RL 9 yX4_init ∈ lw_gd := List.mem_filter.mpr ⟨List.mem_append_right _ (List.mem_of_getElem? (i := 11) (by decide +kernel)), by decide +kernel⟩
theorem hw_12 : Cond.instanceMethod yX4_init ∈ lw_gd := List.mem_filter.mpr ⟨List.mem_append_right _ (List.mem_of_getElem? (i := 12) (by decide +kernel)), by decide +kernel⟩
theorem hw_13 : Cond.code yX4_init cX4_init 2 none ∈ lw_gd := List.mem_filter.mpr ⟨List.mem_append_right _ (List.mem_of_getElem? (i := 13) (by decide +kernel)), by decide +kernel⟩
theorem hw_14 : Cond.methodLink RX4 1 objectInit ∈ lw_gd := List.mem_filter.mpr ⟨List.mem_append_right _ (List.mem_of_getElem? (i := 14) (by decide +kernel)), by decide +kernel⟩
theorem hw_15 : Cond.instanceMethod objectInit ∈ lw_gd := List.mem_filter.mpr ⟨List.mem_append_right _ (List.mem_of_getElem? (i := 15) (by decide +kernel)), by decide +kernel⟩
theorem hw_16 : Cond.code objectInit object_method_1_code 1 none ∈ lw_gd := List.mem_filter.mpr ⟨List.mem_append_right _ (List.mem_of_getElem? (i := 16) (by decide +kernel)), by decide +kernel⟩
theorem hw_17 : Cond.classLink RX4 9 RX1 ∈ lw_gd := List.mem_filter.mpr ⟨List.mem_append_right _ (List.mem_of_getElem? (i := 17) (by decide +kernel)), by decide +kernel⟩
theorem hx_18 : Cond.arrayOver (.object "FormSeries$Form") ∈ lw_tbl := List.mem_append_right _ (List.mem_of_getElem? (i := 18) (by decide +kernel))
theorem hw_19 : Cond.classLink RX4 15 RX0 ∈ lw_gd := List.mem_filter.mpr ⟨List.mem_append_right _ (List.mem_of_getElem? (i := 19) (by decide +kernel)), by decide +kernel⟩
theorem hw_20 : Cond.instantiable RX0 8 ∈ lw_gd := List.mem_filter.mpr ⟨List.mem_append_right _ (List.mem_of_getElem? (i := 20) (by decide +kernel)), by decide +kernel⟩
theorem hw_21 : Cond.methodLink RX4 17 yX0_init ∈ lw_gd := List.mem_filter.mpr ⟨List.mem_append_right _ (List.mem_of_getElem? (i := 21) (by decide +kernel)), by decide +kernel⟩
theorem hw_22 : Cond.instanceMethod yX0_init ∈ lw_gd := List.mem_filter.mpr ⟨List.mem_append_right _ (List.mem_of_getElem? (i := 22) (by decide +kernel)), by decide +kernel⟩
theorem hw_23 : Cond.code yX0_init cX0_init 3 none ∈ lw_gd := List.mem_filter.mpr ⟨List.mem_append_right _ (List.mem_of_getElem? (i := 23) (by decide +kernel)), by decide +kernel⟩
theorem hw_24 : Cond.methodLink RX0 3 objectInit ∈ lw_gd := List.mem_filter.mpr ⟨List.mem_append_right _ (List.mem_of_getElem? (i := 24) (by decide +kernel)), by decide +kernel⟩
theorem hw_25 : Cond.constantLong RX0 31 (-24) ∈ lw_gd := List.mem_filter.mpr ⟨List.mem_append_right _ (List.mem_of_getElem? (i := 25) (by decide +kernel)), by decide +kernel⟩
theorem hw_26 : Cond.methodLink RX0 33 yX2_rest ∈ lw_gd := List.mem_filter.mpr ⟨List.mem_append_right _ (List.mem_of_getElem? (i := 26) (by decide +kernel)), by decide +kernel⟩
theorem hw_27 : Cond.static yX2_rest ∈ lw_gd := List.mem_filter.mpr ⟨List.mem_append_right _ (List.mem_of_getElem? (i := 27) (by decide +kernel)), by decide +kernel⟩
theorem hw_28 : Cond.code yX2_rest cX2_rest 2 (some .long) ∈ lw_gd := List.mem_filter.mpr ⟨List.mem_append_right _ (List.mem_of_getElem? (i := 28) (by decide +kernel)), by decide +kernel⟩
theorem hw_29 : Cond.constantLong RX2 9 1000003 ∈ lw_gd := List.mem_filter.mpr ⟨List.mem_append_right _ (List.mem_of_getElem? (i := 29) (by decide +kernel)), by decide +kernel⟩
theorem hw_30 : Cond.methodLink RX2 11 yJ9_floorMod_f86c9 ∈ lw_gd := List.mem_filter.mpr ⟨List.mem_append_right _ (List.mem_of_getElem? (i := 30) (by decide +kernel)), by decide +kernel⟩
theorem hw_31 : Cond.static yJ9_floorMod_f86c9 ∈ lw_gd := List.mem_filter.mpr ⟨List.mem_append_right _ (List.mem_of_getElem? (i := 31) (by decide +kernel)), by decide +kernel⟩
theorem hw_32 : Cond.code yJ9_floorMod_f86c9 cJ9_floorMod_f86c9 6 (some .long) ∈ lw_gd := List.mem_filter.mpr ⟨List.mem_append_right _ (List.mem_of_getElem? (i := 32) (by decide +kernel)), by decide +kernel⟩
theorem hw_33 : Cond.methodLink RX0 39 yX3_putSums ∈ lw_gd := List.mem_filter.mpr ⟨List.mem_append_right _ (List.mem_of_getElem? (i := 33) (by decide +kernel)), by decide +kernel⟩
theorem hw_34 : Cond.static yX3_putSums ∈ lw_gd := List.mem_filter.mpr ⟨List.mem_append_right _ (List.mem_of_getElem? (i := 34) (by decide +kernel)), by decide +kernel⟩
theorem hw_35 : Cond.code yX3_putSums cX3_putSums 8 none ∈ lw_gd := List.mem_filter.mpr ⟨List.mem_append_right _ (List.mem_of_getElem? (i := 35) (by decide +kernel)), by decide +kernel⟩
theorem hw_36 : Cond.methodLink RX3 11 yX3_putOne ∈ lw_gd := List.mem_filter.mpr ⟨List.mem_append_right _ (List.mem_of_getElem? (i := 36) (by decide +kernel)), by decide +kernel⟩
theorem hw_37 : Cond.static yX3_putOne ∈ lw_gd := List.mem_filter.mpr ⟨List.mem_append_right _ (List.mem_of_getElem? (i := 37) (by decide +kernel)), by decide +kernel⟩
theorem hw_38 : Cond.code yX3_putOne cX3_putOne 2 none ∈ lw_gd := List.mem_filter.mpr ⟨List.mem_append_right _ (List.mem_of_getElem? (i := 38) (by decide +kernel)), by decide +kernel⟩
theorem hw_39 : Cond.methodLink RX3 21 yX2_raised ∈ lw_gd := List.mem_filter.mpr ⟨List.mem_append_right _ (List.mem_of_getElem? (i := 39) (by decide +kernel)), by decide +kernel⟩
theorem hw_40 : Cond.static yX2_raised ∈ lw_gd := List.mem_filter.mpr ⟨List.mem_append_right _ (List.mem_of_getElem? (i := 40) (by decide +kernel)), by decide +kernel⟩
theorem hw_41 : Cond.code yX2_raised cX2_raised 6 (some .long) ∈ lw_gd := List.mem_filter.mpr ⟨List.mem_append_right _ (List.mem_of_getElem? (i := 41) (by decide +kernel)), by decide +kernel⟩
theorem hw_42 : Cond.constantLong RX3 9 1000003 ∈ lw_gd := List.mem_filter.mpr ⟨List.mem_append_right _ (List.mem_of_getElem? (i := 42) (by decide +kernel)), by decide +kernel⟩
theorem hw_43 : Cond.constantLong RX0 45 240 ∈ lw_gd := List.mem_filter.mpr ⟨List.mem_append_right _ (List.mem_of_getElem? (i := 43) (by decide +kernel)), by decide +kernel⟩
theorem hw_44 : Cond.constantLong RX0 47 (-504) ∈ lw_gd := List.mem_filter.mpr ⟨List.mem_append_right _ (List.mem_of_getElem? (i := 44) (by decide +kernel)), by decide +kernel⟩
theorem hw_45 : Cond.methodLink RX0 49 yX3_putD ∈ lw_gd := List.mem_filter.mpr ⟨List.mem_append_right _ (List.mem_of_getElem? (i := 45) (by decide +kernel)), by decide +kernel⟩
theorem hw_46 : Cond.static yX3_putD ∈ lw_gd := List.mem_filter.mpr ⟨List.mem_append_right _ (List.mem_of_getElem? (i := 46) (by decide +kernel)), by decide +kernel⟩
theorem hw_47 : Cond.code yX3_putD cX3_putD 4 none ∈ lw_gd := List.mem_filter.mpr ⟨List.mem_append_right _ (List.mem_of_getElem? (i := 47) (by decide +kernel)), by decide +kernel⟩
theorem hw_48 : Cond.methodLink RX3 27 yX2_rest ∈ lw_gd := List.mem_filter.mpr ⟨List.mem_append_right _ (List.mem_of_getElem? (i := 48) (by decide +kernel)), by decide +kernel⟩
theorem hw_49 : Cond.methodLink RX3 31 yX3_raise ∈ lw_gd := List.mem_filter.mpr ⟨List.mem_append_right _ (List.mem_of_getElem? (i := 49) (by decide +kernel)), by decide +kernel⟩
theorem hw_50 : Cond.static yX3_raise ∈ lw_gd := List.mem_filter.mpr ⟨List.mem_append_right _ (List.mem_of_getElem? (i := 50) (by decide +kernel)), by decide +kernel⟩
theorem hw_51 : Cond.code yX3_raise cX3_raise 4 none ∈ lw_gd := List.mem_filter.mpr ⟨List.mem_append_right _ (List.mem_of_getElem? (i := 51) (by decide +kernel)), by decide +kernel⟩
theorem hw_52 : Cond.methodLink RX3 17 yX3_multiply ∈ lw_gd := List.mem_filter.mpr ⟨List.mem_append_right _ (List.mem_of_getElem? (i := 52) (by decide +kernel)), by decide +kernel⟩
theorem hw_53 : Cond.static yX3_multiply ∈ lw_gd := List.mem_filter.mpr ⟨List.mem_append_right _ (List.mem_of_getElem? (i := 53) (by decide +kernel)), by decide +kernel⟩
theorem hw_54 : Cond.code yX3_multiply cX3_multiply 7 none ∈ lw_gd := List.mem_filter.mpr ⟨List.mem_append_right _ (List.mem_of_getElem? (i := 54) (by decide +kernel)), by decide +kernel⟩
theorem hw_55 : Cond.methodLink RX3 35 arraycopyName ∈ lw_gd := List.mem_filter.mpr ⟨List.mem_append_right _ (List.mem_of_getElem? (i := 55) (by decide +kernel)), by decide +kernel⟩
theorem hw_56 : Cond.static arraycopyName ∈ lw_gd := List.mem_filter.mpr ⟨List.mem_append_right _ (List.mem_of_getElem? (i := 56) (by decide +kernel)), by decide +kernel⟩
theorem hw_57 : Cond.native arraycopyName ∈ lw_gd := List.mem_filter.mpr ⟨List.mem_append_right _ (List.mem_of_getElem? (i := 57) (by decide +kernel)), by decide +kernel⟩
theorem hw_58 : Cond.methodLink RX0 53 yX0_countSize ∈ lw_gd := List.mem_filter.mpr ⟨List.mem_append_right _ (List.mem_of_getElem? (i := 58) (by decide +kernel)), by decide +kernel⟩
theorem hw_59 : Cond.static yX0_countSize ∈ lw_gd := List.mem_filter.mpr ⟨List.mem_append_right _ (List.mem_of_getElem? (i := 59) (by decide +kernel)), by decide +kernel⟩
theorem hw_60 : Cond.code yX0_countSize cX0_countSize 3 (some .int) ∈ lw_gd := List.mem_filter.mpr ⟨List.mem_append_right _ (List.mem_of_getElem? (i := 60) (by decide +kernel)), by decide +kernel⟩
theorem hw_61 : Cond.classLink RX0 57 "[[J" ∈ lw_gd := List.mem_filter.mpr ⟨List.mem_append_right _ (List.mem_of_getElem? (i := 61) (by decide +kernel)), by decide +kernel⟩
theorem hx_62 : Cond.arrayOver (.array .long) ∈ lw_tbl := List.mem_append_right _ (List.mem_of_getElem? (i := 62) (by decide +kernel))
theorem hw_63 : Cond.fieldLink RX0 9 "FormSeries$Bases" "e2" "[J" ∈ lw_gd := List.mem_filter.mpr ⟨List.mem_append_right _ (List.mem_of_getElem? (i := 63) (by decide +kernel)), by decide +kernel⟩
theorem hw_64 : Cond.fieldLink RX4 109 "FormSeries$Bases" "e2" "[J" ∈ lw_gd := List.mem_filter.mpr ⟨List.mem_append_right _ (List.mem_of_getElem? (i := 64) (by decide +kernel)), by decide +kernel⟩
theorem hw_65 : Cond.fieldLink RX0 15 "FormSeries$Bases" "d" "[J" ∈ lw_gd := List.mem_filter.mpr ⟨List.mem_append_right _ (List.mem_of_getElem? (i := 65) (by decide +kernel)), by decide +kernel⟩
theorem hw_66 : Cond.fieldLink RX4 83 "FormSeries$Bases" "d" "[J" ∈ lw_gd := List.mem_filter.mpr ⟨List.mem_append_right _ (List.mem_of_getElem? (i := 66) (by decide +kernel)), by decide +kernel⟩
theorem hw_67 : Cond.fieldLink RX0 18 "FormSeries$Bases" "e4" "[J" ∈ lw_gd := List.mem_filter.mpr ⟨List.mem_append_right _ (List.mem_of_getElem? (i := 67) (by decide +kernel)), by decide +kernel⟩
theorem hw_68 : Cond.fieldLink RX0 21 "FormSeries$Bases" "e6" "[J" ∈ lw_gd := List.mem_filter.mpr ⟨List.mem_append_right _ (List.mem_of_getElem? (i := 68) (by decide +kernel)), by decide +kernel⟩
theorem hw_69 : Cond.fieldLink RX0 24 "FormSeries$Bases" "sizes" "[I" ∈ lw_gd := List.mem_filter.mpr ⟨List.mem_append_right _ (List.mem_of_getElem? (i := 69) (by decide +kernel)), by decide +kernel⟩
theorem hw_70 : Cond.fieldLink RX0 28 "FormSeries$Bases" "firsts" "[I" ∈ lw_gd := List.mem_filter.mpr ⟨List.mem_append_right _ (List.mem_of_getElem? (i := 70) (by decide +kernel)), by decide +kernel⟩
theorem hw_71 : Cond.fieldLink RX0 59 "FormSeries$Bases" "rows" "[[J" ∈ lw_gd := List.mem_filter.mpr ⟨List.mem_append_right _ (List.mem_of_getElem? (i := 71) (by decide +kernel)), by decide +kernel⟩
theorem hw_72 : Cond.fieldLink RX0 62 "FormSeries$Bases" "nextWeight" "I" ∈ lw_gd := List.mem_filter.mpr ⟨List.mem_append_right _ (List.mem_of_getElem? (i := 72) (by decide +kernel)), by decide +kernel⟩
theorem hw_73 : Cond.laysFinal RX0 "FormSeries$Bases" "e2" "[J" ∈ lw_gd := List.mem_filter.mpr ⟨List.mem_append_right _ (List.mem_of_getElem? (i := 73) (by decide +kernel)), by decide +kernel⟩
theorem hw_74 : Cond.soleField RX0 "e2" ∈ lw_gd := List.mem_filter.mpr ⟨List.mem_append_right _ (List.mem_of_getElem? (i := 74) (by decide +kernel)), by decide +kernel⟩
theorem hw_75 : Cond.laysFinal RX0 "FormSeries$Bases" "d" "[J" ∈ lw_gd := List.mem_filter.mpr ⟨List.mem_append_right _ (List.mem_of_getElem? (i := 75) (by decide +kernel)), by decide +kernel⟩
theorem hw_76 : Cond.soleField RX0 "d" ∈ lw_gd := List.mem_filter.mpr ⟨List.mem_append_right _ (List.mem_of_getElem? (i := 76) (by decide +kernel)), by decide +kernel⟩
theorem hw_77 : Cond.laysFinal RX0 "FormSeries$Bases" "e4" "[J" ∈ lw_gd := List.mem_filter.mpr ⟨List.mem_append_right _ (List.mem_of_getElem? (i := 77) (by decide +kernel)), by decide +kernel⟩
theorem hw_78 : Cond.soleField RX0 "e4" ∈ lw_gd := List.mem_filter.mpr ⟨List.mem_append_right _ (List.mem_of_getElem? (i := 78) (by decide +kernel)), by decide +kernel⟩
theorem hw_79 : Cond.laysFinal RX0 "FormSeries$Bases" "e6" "[J" ∈ lw_gd := List.mem_filter.mpr ⟨List.mem_append_right _ (List.mem_of_getElem? (i := 79) (by decide +kernel)), by decide +kernel⟩
theorem hw_80 : Cond.soleField RX0 "e6" ∈ lw_gd := List.mem_filter.mpr ⟨List.mem_append_right _ (List.mem_of_getElem? (i := 80) (by decide +kernel)), by decide +kernel⟩
theorem hw_81 : Cond.laysFinal RX0 "FormSeries$Bases" "sizes" "[I" ∈ lw_gd := List.mem_filter.mpr ⟨List.mem_append_right _ (List.mem_of_getElem? (i := 81) (by decide +kernel)), by decide +kernel⟩
theorem hw_82 : Cond.soleField RX0 "sizes" ∈ lw_gd := List.mem_filter.mpr ⟨List.mem_append_right _ (List.mem_of_getElem? (i := 82) (by decide +kernel)), by decide +kernel⟩
theorem hw_83 : Cond.laysFinal RX0 "FormSeries$Bases" "firsts" "[I" ∈ lw_gd := List.mem_filter.mpr ⟨List.mem_append_right _ (List.mem_of_getElem? (i := 83) (by decide +kernel)), by decide +kernel⟩
theorem hw_84 : Cond.soleField RX0 "firsts" ∈ lw_gd := List.mem_filter.mpr ⟨List.mem_append_right _ (List.mem_of_getElem? (i := 84) (by decide +kernel)), by decide +kernel⟩
theorem hw_85 : Cond.laysFinal RX0 "FormSeries$Bases" "rows" "[[J" ∈ lw_gd := List.mem_filter.mpr ⟨List.mem_append_right _ (List.mem_of_getElem? (i := 85) (by decide +kernel)), by decide +kernel⟩
theorem hw_86 : Cond.soleField RX0 "rows" ∈ lw_gd := List.mem_filter.mpr ⟨List.mem_append_right _ (List.mem_of_getElem? (i := 86) (by decide +kernel)), by decide +kernel⟩
theorem hw_87 : Cond.lays RX0 "FormSeries$Bases" "nextWeight" "I" ∈ lw_gd := List.mem_filter.mpr ⟨List.mem_append_right _ (List.mem_of_getElem? (i := 87) (by decide +kernel)), by decide +kernel⟩
theorem hw_88 : Cond.soleField RX0 "nextWeight" ∈ lw_gd := List.mem_filter.mpr ⟨List.mem_append_right _ (List.mem_of_getElem? (i := 88) (by decide +kernel)), by decide +kernel⟩
theorem hw_89 : Cond.superclass RX0 "java/lang/Object" ∈ lw_gd := List.mem_filter.mpr ⟨List.mem_append_right _ (List.mem_of_getElem? (i := 89) (by decide +kernel)), by decide +kernel⟩
theorem hw_90 : Cond.arrayClass .long ∈ lw_gd := List.mem_filter.mpr ⟨List.mem_append_right _ (List.mem_of_getElem? (i := 90) (by decide +kernel)), by decide +kernel⟩
theorem hw_91 : Cond.arrayClass .int ∈ lw_gd := List.mem_filter.mpr ⟨List.mem_append_right _ (List.mem_of_getElem? (i := 91) (by decide +kernel)), by decide +kernel⟩
theorem hw_92 : Cond.instantiable RX1 4 ∈ lw_gd := List.mem_filter.mpr ⟨List.mem_append_right _ (List.mem_of_getElem? (i := 92) (by decide +kernel)), by decide +kernel⟩
theorem hx_93 : Cond.methodLinkNest RX4 43 yX1_init "FormSeries" ∈ lw_tbl := List.mem_append_right _ (List.mem_of_getElem? (i := 93) (by decide +kernel))
theorem hw_94 : Cond.instanceMethod yX1_init ∈ lw_gd := List.mem_filter.mpr ⟨List.mem_append_right _ (List.mem_of_getElem? (i := 94) (by decide +kernel)), by decide +kernel⟩
theorem hw_95 : Cond.code yX1_init cX1_init 1 none ∈ lw_gd := List.mem_filter.mpr ⟨List.mem_append_right _ (List.mem_of_getElem? (i := 95) (by decide +kernel)), by decide +kernel⟩
theorem hw_96 : Cond.methodLink RX1 3 objectInit ∈ lw_gd := List.mem_filter.mpr ⟨List.mem_append_right _ (List.mem_of_getElem? (i := 96) (by decide +kernel)), by decide +kernel⟩
theorem hw_97 : Cond.fieldLink RX1 9 "FormSeries$Form" "numbers" "[J" ∈ lw_gd := List.mem_filter.mpr ⟨List.mem_append_right _ (List.mem_of_getElem? (i := 97) (by decide +kernel)), by decide +kernel⟩
theorem hw_98 : Cond.fieldLink RX4 70 "FormSeries$Form" "numbers" "[J" ∈ lw_gd := List.mem_filter.mpr ⟨List.mem_append_right _ (List.mem_of_getElem? (i := 98) (by decide +kernel)), by decide +kernel⟩
theorem hw_99 : Cond.fieldLink RX1 17 "FormSeries$Form" "weight" "I" ∈ lw_gd := List.mem_filter.mpr ⟨List.mem_append_right _ (List.mem_of_getElem? (i := 99) (by decide +kernel)), by decide +kernel⟩
theorem hw_100 : Cond.fieldLink RX4 93 "FormSeries$Form" "weight" "I" ∈ lw_gd := List.mem_filter.mpr ⟨List.mem_append_right _ (List.mem_of_getElem? (i := 100) (by decide +kernel)), by decide +kernel⟩
theorem hw_101 : Cond.fieldLink RX4 146 "FormSeries$Form" "kind" "I" ∈ lw_gd := List.mem_filter.mpr ⟨List.mem_append_right _ (List.mem_of_getElem? (i := 101) (by decide +kernel)), by decide +kernel⟩
theorem hw_102 : Cond.fieldLink RX4 153 "FormSeries$Form" "told" "I" ∈ lw_gd := List.mem_filter.mpr ⟨List.mem_append_right _ (List.mem_of_getElem? (i := 102) (by decide +kernel)), by decide +kernel⟩
theorem hw_103 : Cond.laysFinal RX1 "FormSeries$Form" "numbers" "[J" ∈ lw_gd := List.mem_filter.mpr ⟨List.mem_append_right _ (List.mem_of_getElem? (i := 103) (by decide +kernel)), by decide +kernel⟩
theorem hw_104 : Cond.soleField RX1 "numbers" ∈ lw_gd := List.mem_filter.mpr ⟨List.mem_append_right _ (List.mem_of_getElem? (i := 104) (by decide +kernel)), by decide +kernel⟩
theorem hw_105 : Cond.lays RX1 "FormSeries$Form" "weight" "I" ∈ lw_gd := List.mem_filter.mpr ⟨List.mem_append_right _ (List.mem_of_getElem? (i := 105) (by decide +kernel)), by decide +kernel⟩
theorem hw_106 : Cond.soleField RX1 "weight" ∈ lw_gd := List.mem_filter.mpr ⟨List.mem_append_right _ (List.mem_of_getElem? (i := 106) (by decide +kernel)), by decide +kernel⟩
theorem hw_107 : Cond.lays RX1 "FormSeries$Form" "kind" "I" ∈ lw_gd := List.mem_filter.mpr ⟨List.mem_append_right _ (List.mem_of_getElem? (i := 107) (by decide +kernel)), by decide +kernel⟩
theorem hw_108 : Cond.soleField RX1 "kind" ∈ lw_gd := List.mem_filter.mpr ⟨List.mem_append_right _ (List.mem_of_getElem? (i := 108) (by decide +kernel)), by decide +kernel⟩
theorem hw_109 : Cond.lays RX1 "FormSeries$Form" "told" "I" ∈ lw_gd := List.mem_filter.mpr ⟨List.mem_append_right _ (List.mem_of_getElem? (i := 109) (by decide +kernel)), by decide +kernel⟩
theorem hw_110 : Cond.soleField RX1 "told" ∈ lw_gd := List.mem_filter.mpr ⟨List.mem_append_right _ (List.mem_of_getElem? (i := 110) (by decide +kernel)), by decide +kernel⟩
theorem hw_111 : Cond.superclass RX1 "java/lang/Object" ∈ lw_gd := List.mem_filter.mpr ⟨List.mem_append_right _ (List.mem_of_getElem? (i := 111) (by decide +kernel)), by decide +kernel⟩
theorem hw_112 : Cond.fieldLink RX4 11 "FormSeries" "forms" "[LFormSeries$Form;" ∈ lw_gd := List.mem_filter.mpr ⟨List.mem_append_right _ (List.mem_of_getElem? (i := 112) (by decide +kernel)), by decide +kernel⟩
theorem hw_113 : Cond.fieldLink RX4 67 "FormSeries" "held" "I" ∈ lw_gd := List.mem_filter.mpr ⟨List.mem_append_right _ (List.mem_of_getElem? (i := 113) (by decide +kernel)), by decide +kernel⟩
theorem hw_114 : Cond.fieldLink RX4 18 "FormSeries" "bases" "LFormSeries$Bases;" ∈ lw_gd := List.mem_filter.mpr ⟨List.mem_append_right _ (List.mem_of_getElem? (i := 114) (by decide +kernel)), by decide +kernel⟩
theorem hw_115 : Cond.fieldLink RX4 22 "FormSeries" "parts" "[J" ∈ lw_gd := List.mem_filter.mpr ⟨List.mem_append_right _ (List.mem_of_getElem? (i := 115) (by decide +kernel)), by decide +kernel⟩
theorem hw_116 : Cond.fieldLink RX4 26 "FormSeries" "image" "[J" ∈ lw_gd := List.mem_filter.mpr ⟨List.mem_append_right _ (List.mem_of_getElem? (i := 116) (by decide +kernel)), by decide +kernel⟩
theorem hw_117 : Cond.fieldLink RX4 29 "FormSeries" "ways" "[I" ∈ lw_gd := List.mem_filter.mpr ⟨List.mem_append_right _ (List.mem_of_getElem? (i := 117) (by decide +kernel)), by decide +kernel⟩
theorem hw_118 : Cond.fieldLink RX4 33 "FormSeries" "theRow" "[J" ∈ lw_gd := List.mem_filter.mpr ⟨List.mem_append_right _ (List.mem_of_getElem? (i := 118) (by decide +kernel)), by decide +kernel⟩
theorem hw_119 : Cond.fieldLink RX4 36 "FormSeries" "rowLength" "I" ∈ lw_gd := List.mem_filter.mpr ⟨List.mem_append_right _ (List.mem_of_getElem? (i := 119) (by decide +kernel)), by decide +kernel⟩
theorem hw_120 : Cond.fieldLink RX4 40 "FormSeries" "refusals" "[I" ∈ lw_gd := List.mem_filter.mpr ⟨List.mem_append_right _ (List.mem_of_getElem? (i := 120) (by decide +kernel)), by decide +kernel⟩
theorem hw_121 : Cond.laysFinal RX4 "FormSeries" "forms" "[LFormSeries$Form;" ∈ lw_gd := List.mem_filter.mpr ⟨List.mem_append_right _ (List.mem_of_getElem? (i := 121) (by decide +kernel)), by decide +kernel⟩
theorem hw_122 : Cond.soleField RX4 "forms" ∈ lw_gd := List.mem_filter.mpr ⟨List.mem_append_right _ (List.mem_of_getElem? (i := 122) (by decide +kernel)), by decide +kernel⟩
theorem hw_123 : Cond.lays RX4 "FormSeries" "held" "I" ∈ lw_gd := List.mem_filter.mpr ⟨List.mem_append_right _ (List.mem_of_getElem? (i := 123) (by decide +kernel)), by decide +kernel⟩
theorem hw_124 : Cond.soleField RX4 "held" ∈ lw_gd := List.mem_filter.mpr ⟨List.mem_append_right _ (List.mem_of_getElem? (i := 124) (by decide +kernel)), by decide +kernel⟩
theorem hw_125 : Cond.laysFinal RX4 "FormSeries" "bases" "LFormSeries$Bases;" ∈ lw_gd := List.mem_filter.mpr ⟨List.mem_append_right _ (List.mem_of_getElem? (i := 125) (by decide +kernel)), by decide +kernel⟩
theorem hw_126 : Cond.soleField RX4 "bases" ∈ lw_gd := List.mem_filter.mpr ⟨List.mem_append_right _ (List.mem_of_getElem? (i := 126) (by decide +kernel)), by decide +kernel⟩
theorem hw_127 : Cond.laysFinal RX4 "FormSeries" "parts" "[J" ∈ lw_gd := List.mem_filter.mpr ⟨List.mem_append_right _ (List.mem_of_getElem? (i := 127) (by decide +kernel)), by decide +kernel⟩
theorem hw_128 : Cond.soleField RX4 "parts" ∈ lw_gd := List.mem_filter.mpr ⟨List.mem_append_right _ (List.mem_of_getElem? (i := 128) (by decide +kernel)), by decide +kernel⟩
theorem hw_129 : Cond.laysFinal RX4 "FormSeries" "image" "[J" ∈ lw_gd := List.mem_filter.mpr ⟨List.mem_append_right _ (List.mem_of_getElem? (i := 129) (by decide +kernel)), by decide +kernel⟩
theorem hw_130 : Cond.soleField RX4 "image" ∈ lw_gd := List.mem_filter.mpr ⟨List.mem_append_right _ (List.mem_of_getElem? (i := 130) (by decide +kernel)), by decide +kernel⟩
theorem hw_131 : Cond.laysFinal RX4 "FormSeries" "ways" "[I" ∈ lw_gd := List.mem_filter.mpr ⟨List.mem_append_right _ (List.mem_of_getElem? (i := 131) (by decide +kernel)), by decide +kernel⟩
theorem hw_132 : Cond.soleField RX4 "ways" ∈ lw_gd := List.mem_filter.mpr ⟨List.mem_append_right _ (List.mem_of_getElem? (i := 132) (by decide +kernel)), by decide +kernel⟩
theorem hw_133 : Cond.laysFinal RX4 "FormSeries" "theRow" "[J" ∈ lw_gd := List.mem_filter.mpr ⟨List.mem_append_right _ (List.mem_of_getElem? (i := 133) (by decide +kernel)), by decide +kernel⟩
theorem hw_134 : Cond.soleField RX4 "theRow" ∈ lw_gd := List.mem_filter.mpr ⟨List.mem_append_right _ (List.mem_of_getElem? (i := 134) (by decide +kernel)), by decide +kernel⟩
theorem hw_135 : Cond.lays RX4 "FormSeries" "rowLength" "I" ∈ lw_gd := List.mem_filter.mpr ⟨List.mem_append_right _ (List.mem_of_getElem? (i := 135) (by decide +kernel)), by decide +kernel⟩
theorem hw_136 : Cond.soleField RX4 "rowLength" ∈ lw_gd := List.mem_filter.mpr ⟨List.mem_append_right _ (List.mem_of_getElem? (i := 136) (by decide +kernel)), by decide +kernel⟩
theorem hw_137 : Cond.laysFinal RX4 "FormSeries" "refusals" "[I" ∈ lw_gd := List.mem_filter.mpr ⟨List.mem_append_right _ (List.mem_of_getElem? (i := 137) (by decide +kernel)), by decide +kernel⟩
theorem hw_138 : Cond.soleField RX4 "refusals" ∈ lw_gd := List.mem_filter.mpr ⟨List.mem_append_right _ (List.mem_of_getElem? (i := 138) (by decide +kernel)), by decide +kernel⟩
theorem hw_139 : Cond.superclass RX4 "java/lang/Object" ∈ lw_gd := List.mem_filter.mpr ⟨List.mem_append_right _ (List.mem_of_getElem? (i := 139) (by decide +kernel)), by decide +kernel⟩
theorem hw_140 : Cond.methodLink RL 13 yX4_sums ∈ lw_gd := List.mem_filter.mpr ⟨List.mem_append_right _ (List.mem_of_getElem? (i := 140) (by decide +kernel)), by decide +kernel⟩
theorem hw_141 : Cond.instanceMethod yX4_sums ∈ lw_gd := List.mem_filter.mpr ⟨List.mem_append_right _ (List.mem_of_getElem? (i := 141) (by decide +kernel)), by decide +kernel⟩
theorem hw_142 : Cond.selects RX4 yX4_sums yX4_sums ∈ lw_gd := List.mem_filter.mpr ⟨List.mem_append_right _ (List.mem_of_getElem? (i := 142) (by decide +kernel)), by decide +kernel⟩
theorem hw_143 : Cond.code yX4_sums cX4_sums 5 (some .int) ∈ lw_gd := List.mem_filter.mpr ⟨List.mem_append_right _ (List.mem_of_getElem? (i := 143) (by decide +kernel)), by decide +kernel⟩
theorem hw_144 : Cond.methodLink RX4 44 yX4_sumsIndex ∈ lw_gd := List.mem_filter.mpr ⟨List.mem_append_right _ (List.mem_of_getElem? (i := 144) (by decide +kernel)), by decide +kernel⟩
theorem hw_145 : Cond.static yX4_sumsIndex ∈ lw_gd := List.mem_filter.mpr ⟨List.mem_append_right _ (List.mem_of_getElem? (i := 145) (by decide +kernel)), by decide +kernel⟩
theorem hw_146 : Cond.code yX4_sumsIndex cX4_sumsIndex 2 (some .int) ∈ lw_gd := List.mem_filter.mpr ⟨List.mem_append_right _ (List.mem_of_getElem? (i := 146) (by decide +kernel)), by decide +kernel⟩
theorem hw_147 : Cond.fieldLink RX4 171 "FormSeries" "SUMS_WEIGHTS" "[I" ∈ lw_gd := List.mem_filter.mpr ⟨List.mem_append_right _ (List.mem_of_getElem? (i := 147) (by decide +kernel)), by decide +kernel⟩
theorem hx_148 : Cond.laysStatic RX4 "SUMS_WEIGHTS" "[I" ∈ lw_tbl := List.mem_append_right _ (List.mem_of_getElem? (i := 148) (by decide +kernel))
theorem hw_149 : Cond.methodLink RX4 48 yX4_refuse ∈ lw_gd := List.mem_filter.mpr ⟨List.mem_append_right _ (List.mem_of_getElem? (i := 149) (by decide +kernel)), by decide +kernel⟩
theorem hx_150 : Cond.privateMethod yX4_refuse ∈ lw_tbl := List.mem_append_right _ (List.mem_of_getElem? (i := 150) (by decide +kernel))
theorem hw_151 : Cond.instanceMethod yX4_refuse ∈ lw_gd := List.mem_filter.mpr ⟨List.mem_append_right _ (List.mem_of_getElem? (i := 151) (by decide +kernel)), by decide +kernel⟩
theorem hw_152 : Cond.code yX4_refuse cX4_refuse 2 (some .int) ∈ lw_gd := List.mem_filter.mpr ⟨List.mem_append_right _ (List.mem_of_getElem? (i := 152) (by decide +kernel)), by decide +kernel⟩
theorem hw_153 : Cond.methodLink RX4 168 yX4_isRefusal ∈ lw_gd := List.mem_filter.mpr ⟨List.mem_append_right _ (List.mem_of_getElem? (i := 153) (by decide +kernel)), by decide +kernel⟩
theorem hw_154 : Cond.static yX4_isRefusal ∈ lw_gd := List.mem_filter.mpr ⟨List.mem_append_right _ (List.mem_of_getElem? (i := 154) (by decide +kernel)), by decide +kernel⟩
theorem hw_155 : Cond.code yX4_isRefusal cX4_isRefusal 1 (some .boolean) ∈ lw_gd := List.mem_filter.mpr ⟨List.mem_append_right _ (List.mem_of_getElem? (i := 155) (by decide +kernel)), by decide +kernel⟩
theorem hw_156 : Cond.methodLink RX4 51 yX4_hasRoom ∈ lw_gd := List.mem_filter.mpr ⟨List.mem_append_right _ (List.mem_of_getElem? (i := 156) (by decide +kernel)), by decide +kernel⟩
theorem hx_157 : Cond.privateMethod yX4_hasRoom ∈ lw_tbl := List.mem_append_right _ (List.mem_of_getElem? (i := 157) (by decide +kernel))
theorem hw_158 : Cond.instanceMethod yX4_hasRoom ∈ lw_gd := List.mem_filter.mpr ⟨List.mem_append_right _ (List.mem_of_getElem? (i := 158) (by decide +kernel)), by decide +kernel⟩
theorem hw_159 : Cond.code yX4_hasRoom cX4_hasRoom 2 (some .boolean) ∈ lw_gd := List.mem_filter.mpr ⟨List.mem_append_right _ (List.mem_of_getElem? (i := 159) (by decide +kernel)), by decide +kernel⟩
theorem hw_160 : Cond.fieldLink RX4 55 "FormSeries" "SUMS_FACTORS" "[I" ∈ lw_gd := List.mem_filter.mpr ⟨List.mem_append_right _ (List.mem_of_getElem? (i := 160) (by decide +kernel)), by decide +kernel⟩
theorem hx_161 : Cond.laysStatic RX4 "SUMS_FACTORS" "[I" ∈ lw_tbl := List.mem_append_right _ (List.mem_of_getElem? (i := 161) (by decide +kernel))
theorem hw_162 : Cond.fieldLink RX4 58 "FormSeries" "SUMS_DIVISORS" "[I" ∈ lw_gd := List.mem_filter.mpr ⟨List.mem_append_right _ (List.mem_of_getElem? (i := 162) (by decide +kernel)), by decide +kernel⟩
theorem hx_163 : Cond.laysStatic RX4 "SUMS_DIVISORS" "[I" ∈ lw_tbl := List.mem_append_right _ (List.mem_of_getElem? (i := 163) (by decide +kernel))
theorem hw_164 : Cond.methodLink RX4 61 yX2_quotient ∈ lw_gd := List.mem_filter.mpr ⟨List.mem_append_right _ (List.mem_of_getElem? (i := 164) (by decide +kernel)), by decide +kernel⟩
theorem hw_165 : Cond.static yX2_quotient ∈ lw_gd := List.mem_filter.mpr ⟨List.mem_append_right _ (List.mem_of_getElem? (i := 165) (by decide +kernel)), by decide +kernel⟩
theorem hw_166 : Cond.code yX2_quotient cX2_quotient 4 (some .long) ∈ lw_gd := List.mem_filter.mpr ⟨List.mem_append_right _ (List.mem_of_getElem? (i := 166) (by decide +kernel)), by decide +kernel⟩
theorem hw_167 : Cond.methodLink RX2 17 yX2_rest ∈ lw_gd := List.mem_filter.mpr ⟨List.mem_append_right _ (List.mem_of_getElem? (i := 167) (by decide +kernel)), by decide +kernel⟩
theorem hw_168 : Cond.constant RX2 23 1000001 ∈ lw_gd := List.mem_filter.mpr ⟨List.mem_append_right _ (List.mem_of_getElem? (i := 168) (by decide +kernel)), by decide +kernel⟩
theorem hw_169 : Cond.methodLink RX2 24 yX2_raised ∈ lw_gd := List.mem_filter.mpr ⟨List.mem_append_right _ (List.mem_of_getElem? (i := 169) (by decide +kernel)), by decide +kernel⟩
theorem hw_170 : Cond.methodLink RX4 73 yX3_putSums ∈ lw_gd := List.mem_filter.mpr ⟨List.mem_append_right _ (List.mem_of_getElem? (i := 170) (by decide +kernel)), by decide +kernel⟩
theorem hw_171 : Cond.methodLink RX4 79 yX4_comeAsTold ∈ lw_gd := List.mem_filter.mpr ⟨List.mem_append_right _ (List.mem_of_getElem? (i := 171) (by decide +kernel)), by decide +kernel⟩
theorem hx_172 : Cond.privateMethod yX4_comeAsTold ∈ lw_tbl := List.mem_append_right _ (List.mem_of_getElem? (i := 172) (by decide +kernel))
theorem hw_173 : Cond.instanceMethod yX4_comeAsTold ∈ lw_gd := List.mem_filter.mpr ⟨List.mem_append_right _ (List.mem_of_getElem? (i := 173) (by decide +kernel)), by decide +kernel⟩
theorem hw_174 : Cond.code yX4_comeAsTold cX4_comeAsTold 5 (some .int) ∈ lw_gd := List.mem_filter.mpr ⟨List.mem_append_right _ (List.mem_of_getElem? (i := 174) (by decide +kernel)), by decide +kernel⟩
theorem hw_175 : Cond.methodLink RL 18 yX4_product ∈ lw_gd := List.mem_filter.mpr ⟨List.mem_append_right _ (List.mem_of_getElem? (i := 175) (by decide +kernel)), by decide +kernel⟩
theorem hw_176 : Cond.instanceMethod yX4_product ∈ lw_gd := List.mem_filter.mpr ⟨List.mem_append_right _ (List.mem_of_getElem? (i := 176) (by decide +kernel)), by decide +kernel⟩
theorem hw_177 : Cond.selects RX4 yX4_product yX4_product ∈ lw_gd := List.mem_filter.mpr ⟨List.mem_append_right _ (List.mem_of_getElem? (i := 177) (by decide +kernel)), by decide +kernel⟩
theorem hw_178 : Cond.code yX4_product cX4_product 3 (some .int) ∈ lw_gd := List.mem_filter.mpr ⟨List.mem_append_right _ (List.mem_of_getElem? (i := 178) (by decide +kernel)), by decide +kernel⟩
theorem hw_179 : Cond.methodLink RX4 86 yX3_raise ∈ lw_gd := List.mem_filter.mpr ⟨List.mem_append_right _ (List.mem_of_getElem? (i := 179) (by decide +kernel)), by decide +kernel⟩
theorem hw_180 : Cond.methodLink RL 22 yX4_add ∈ lw_gd := List.mem_filter.mpr ⟨List.mem_append_right _ (List.mem_of_getElem? (i := 180) (by decide +kernel)), by decide +kernel⟩
theorem hw_181 : Cond.instanceMethod yX4_add ∈ lw_gd := List.mem_filter.mpr ⟨List.mem_append_right _ (List.mem_of_getElem? (i := 181) (by decide +kernel)), by decide +kernel⟩
theorem hw_182 : Cond.selects RX4 yX4_add yX4_add ∈ lw_gd := List.mem_filter.mpr ⟨List.mem_append_right _ (List.mem_of_getElem? (i := 182) (by decide +kernel)), by decide +kernel⟩
theorem hw_183 : Cond.code yX4_add cX4_add 10 (some .int) ∈ lw_gd := List.mem_filter.mpr ⟨List.mem_append_right _ (List.mem_of_getElem? (i := 183) (by decide +kernel)), by decide +kernel⟩
theorem hw_184 : Cond.methodLink RX4 90 yX4_isForm ∈ lw_gd := List.mem_filter.mpr ⟨List.mem_append_right _ (List.mem_of_getElem? (i := 184) (by decide +kernel)), by decide +kernel⟩
theorem hx_185 : Cond.privateMethod yX4_isForm ∈ lw_tbl := List.mem_append_right _ (List.mem_of_getElem? (i := 185) (by decide +kernel))
theorem hw_186 : Cond.instanceMethod yX4_isForm ∈ lw_gd := List.mem_filter.mpr ⟨List.mem_append_right _ (List.mem_of_getElem? (i := 186) (by decide +kernel)), by decide +kernel⟩
theorem hw_187 : Cond.code yX4_isForm cX4_isForm 2 (some .boolean) ∈ lw_gd := List.mem_filter.mpr ⟨List.mem_append_right _ (List.mem_of_getElem? (i := 187) (by decide +kernel)), by decide +kernel⟩
theorem hw_188 : Cond.methodLink RX4 96 yX2_rest ∈ lw_gd := List.mem_filter.mpr ⟨List.mem_append_right _ (List.mem_of_getElem? (i := 188) (by decide +kernel)), by decide +kernel⟩
theorem hw_189 : Cond.methodLink RX4 100 yX4_comeOfOthers ∈ lw_gd := List.mem_filter.mpr ⟨List.mem_append_right _ (List.mem_of_getElem? (i := 189) (by decide +kernel)), by decide +kernel⟩
theorem hx_190 : Cond.privateMethod yX4_comeOfOthers ∈ lw_tbl := List.mem_append_right _ (List.mem_of_getElem? (i := 190) (by decide +kernel))
theorem hw_191 : Cond.instanceMethod yX4_comeOfOthers ∈ lw_gd := List.mem_filter.mpr ⟨List.mem_append_right _ (List.mem_of_getElem? (i := 191) (by decide +kernel)), by decide +kernel⟩
theorem hw_192 : Cond.code yX4_comeOfOthers cX4_comeOfOthers 3 (some .int) ∈ lw_gd := List.mem_filter.mpr ⟨List.mem_append_right _ (List.mem_of_getElem? (i := 192) (by decide +kernel)), by decide +kernel⟩
theorem hw_193 : Cond.methodLink RL 27 yX4_times ∈ lw_gd := List.mem_filter.mpr ⟨List.mem_append_right _ (List.mem_of_getElem? (i := 193) (by decide +kernel)), by decide +kernel⟩
theorem hw_194 : Cond.instanceMethod yX4_times ∈ lw_gd := List.mem_filter.mpr ⟨List.mem_append_right _ (List.mem_of_getElem? (i := 194) (by decide +kernel)), by decide +kernel⟩
theorem hw_195 : Cond.selects RX4 yX4_times yX4_times ∈ lw_gd := List.mem_filter.mpr ⟨List.mem_append_right _ (List.mem_of_getElem? (i := 195) (by decide +kernel)), by decide +kernel⟩
theorem hw_196 : Cond.code yX4_times cX4_times 4 (some .int) ∈ lw_gd := List.mem_filter.mpr ⟨List.mem_append_right _ (List.mem_of_getElem? (i := 196) (by decide +kernel)), by decide +kernel⟩
theorem hw_197 : Cond.methodLink RX4 103 yX3_multiply ∈ lw_gd := List.mem_filter.mpr ⟨List.mem_append_right _ (List.mem_of_getElem? (i := 197) (by decide +kernel)), by decide +kernel⟩
theorem hw_198 : Cond.methodLink RL 32 yX4_power ∈ lw_gd := List.mem_filter.mpr ⟨List.mem_append_right _ (List.mem_of_getElem? (i := 198) (by decide +kernel)), by decide +kernel⟩
theorem hw_199 : Cond.instanceMethod yX4_power ∈ lw_gd := List.mem_filter.mpr ⟨List.mem_append_right _ (List.mem_of_getElem? (i := 199) (by decide +kernel)), by decide +kernel⟩
theorem hw_200 : Cond.selects RX4 yX4_power yX4_power ∈ lw_gd := List.mem_filter.mpr ⟨List.mem_append_right _ (List.mem_of_getElem? (i := 200) (by decide +kernel)), by decide +kernel⟩
theorem hw_201 : Cond.code yX4_power cX4_power 4 (some .int) ∈ lw_gd := List.mem_filter.mpr ⟨List.mem_append_right _ (List.mem_of_getElem? (i := 201) (by decide +kernel)), by decide +kernel⟩
theorem hw_202 : Cond.methodLink RL 36 yX4_slope ∈ lw_gd := List.mem_filter.mpr ⟨List.mem_append_right _ (List.mem_of_getElem? (i := 202) (by decide +kernel)), by decide +kernel⟩
theorem hw_203 : Cond.instanceMethod yX4_slope ∈ lw_gd := List.mem_filter.mpr ⟨List.mem_append_right _ (List.mem_of_getElem? (i := 203) (by decide +kernel)), by decide +kernel⟩
theorem hw_204 : Cond.selects RX4 yX4_slope yX4_slope ∈ lw_gd := List.mem_filter.mpr ⟨List.mem_append_right _ (List.mem_of_getElem? (i := 204) (by decide +kernel)), by decide +kernel⟩
theorem hw_205 : Cond.code yX4_slope cX4_slope 8 (some .int) ∈ lw_gd := List.mem_filter.mpr ⟨List.mem_append_right _ (List.mem_of_getElem? (i := 205) (by decide +kernel)), by decide +kernel⟩
theorem hw_206 : Cond.constantLong RX4 107 12 ∈ lw_gd := List.mem_filter.mpr ⟨List.mem_append_right _ (List.mem_of_getElem? (i := 206) (by decide +kernel)), by decide +kernel⟩
theorem hw_207 : Cond.methodLink RL 40 yX4_bracket ∈ lw_gd := List.mem_filter.mpr ⟨List.mem_append_right _ (List.mem_of_getElem? (i := 207) (by decide +kernel)), by decide +kernel⟩
theorem hw_208 : Cond.instanceMethod yX4_bracket ∈ lw_gd := List.mem_filter.mpr ⟨List.mem_append_right _ (List.mem_of_getElem? (i := 208) (by decide +kernel)), by decide +kernel⟩
theorem hw_209 : Cond.selects RX4 yX4_bracket yX4_bracket ∈ lw_gd := List.mem_filter.mpr ⟨List.mem_append_right _ (List.mem_of_getElem? (i := 209) (by decide +kernel)), by decide +kernel⟩
theorem hw_210 : Cond.code yX4_bracket cX4_bracket 4 (some .int) ∈ lw_gd := List.mem_filter.mpr ⟨List.mem_append_right _ (List.mem_of_getElem? (i := 210) (by decide +kernel)), by decide +kernel⟩
theorem hw_211 : Cond.methodLink RX4 112 yX1_putBracket ∈ lw_gd := List.mem_filter.mpr ⟨List.mem_append_right _ (List.mem_of_getElem? (i := 211) (by decide +kernel)), by decide +kernel⟩
theorem hw_212 : Cond.static yX1_putBracket ∈ lw_gd := List.mem_filter.mpr ⟨List.mem_append_right _ (List.mem_of_getElem? (i := 212) (by decide +kernel)), by decide +kernel⟩
theorem hw_213 : Cond.code yX1_putBracket cX1_putBracket 8 none ∈ lw_gd := List.mem_filter.mpr ⟨List.mem_append_right _ (List.mem_of_getElem? (i := 213) (by decide +kernel)), by decide +kernel⟩
theorem hw_214 : Cond.constantLong RX1 15 1000003 ∈ lw_gd := List.mem_filter.mpr ⟨List.mem_append_right _ (List.mem_of_getElem? (i := 214) (by decide +kernel)), by decide +kernel⟩
theorem hw_215 : Cond.methodLink RX1 21 yX2_rest ∈ lw_gd := List.mem_filter.mpr ⟨List.mem_append_right _ (List.mem_of_getElem? (i := 215) (by decide +kernel)), by decide +kernel⟩
theorem hw_216 : Cond.methodLink RL 44 yX4_over ∈ lw_gd := List.mem_filter.mpr ⟨List.mem_append_right _ (List.mem_of_getElem? (i := 216) (by decide +kernel)), by decide +kernel⟩
theorem hw_217 : Cond.instanceMethod yX4_over ∈ lw_gd := List.mem_filter.mpr ⟨List.mem_append_right _ (List.mem_of_getElem? (i := 217) (by decide +kernel)), by decide +kernel⟩
theorem hw_218 : Cond.selects RX4 yX4_over yX4_over ∈ lw_gd := List.mem_filter.mpr ⟨List.mem_append_right _ (List.mem_of_getElem? (i := 218) (by decide +kernel)), by decide +kernel⟩
theorem hw_219 : Cond.code yX4_over cX4_over 4 (some .int) ∈ lw_gd := List.mem_filter.mpr ⟨List.mem_append_right _ (List.mem_of_getElem? (i := 219) (by decide +kernel)), by decide +kernel⟩
theorem hw_220 : Cond.methodLink RX4 116 yX0_findParts ∈ lw_gd := List.mem_filter.mpr ⟨List.mem_append_right _ (List.mem_of_getElem? (i := 220) (by decide +kernel)), by decide +kernel⟩
theorem hw_221 : Cond.instanceMethod yX0_findParts ∈ lw_gd := List.mem_filter.mpr ⟨List.mem_append_right _ (List.mem_of_getElem? (i := 221) (by decide +kernel)), by decide +kernel⟩
theorem hw_222 : Cond.selects RX0 yX0_findParts yX0_findParts ∈ lw_gd := List.mem_filter.mpr ⟨List.mem_append_right _ (List.mem_of_getElem? (i := 222) (by decide +kernel)), by decide +kernel⟩
theorem hw_223 : Cond.code yX0_findParts cX0_findParts 8 none ∈ lw_gd := List.mem_filter.mpr ⟨List.mem_append_right _ (List.mem_of_getElem? (i := 223) (by decide +kernel)), by decide +kernel⟩
theorem hw_224 : Cond.methodLink RX0 76 yX0_sizeOf ∈ lw_gd := List.mem_filter.mpr ⟨List.mem_append_right _ (List.mem_of_getElem? (i := 224) (by decide +kernel)), by decide +kernel⟩
theorem hw_225 : Cond.instanceMethod yX0_sizeOf ∈ lw_gd := List.mem_filter.mpr ⟨List.mem_append_right _ (List.mem_of_getElem? (i := 225) (by decide +kernel)), by decide +kernel⟩
theorem hw_226 : Cond.selects RX0 yX0_sizeOf yX0_sizeOf ∈ lw_gd := List.mem_filter.mpr ⟨List.mem_append_right _ (List.mem_of_getElem? (i := 226) (by decide +kernel)), by decide +kernel⟩
theorem hw_227 : Cond.code yX0_sizeOf cX0_sizeOf 2 (some .int) ∈ lw_gd := List.mem_filter.mpr ⟨List.mem_append_right _ (List.mem_of_getElem? (i := 227) (by decide +kernel)), by decide +kernel⟩
theorem hw_228 : Cond.methodLink RX0 92 yX0_rowOf ∈ lw_gd := List.mem_filter.mpr ⟨List.mem_append_right _ (List.mem_of_getElem? (i := 228) (by decide +kernel)), by decide +kernel⟩
theorem hw_229 : Cond.instanceMethod yX0_rowOf ∈ lw_gd := List.mem_filter.mpr ⟨List.mem_append_right _ (List.mem_of_getElem? (i := 229) (by decide +kernel)), by decide +kernel⟩
theorem hw_230 : Cond.selects RX0 yX0_rowOf yX0_rowOf ∈ lw_gd := List.mem_filter.mpr ⟨List.mem_append_right _ (List.mem_of_getElem? (i := 230) (by decide +kernel)), by decide +kernel⟩
theorem hw_231 : Cond.code yX0_rowOf cX0_rowOf 4 (some (.array .long)) ∈ lw_gd := List.mem_filter.mpr ⟨List.mem_append_right _ (List.mem_of_getElem? (i := 231) (by decide +kernel)), by decide +kernel⟩
theorem hw_232 : Cond.methodLink RX0 66 yX0_makeRows ∈ lw_gd := List.mem_filter.mpr ⟨List.mem_append_right _ (List.mem_of_getElem? (i := 232) (by decide +kernel)), by decide +kernel⟩
theorem hx_233 : Cond.privateMethod yX0_makeRows ∈ lw_tbl := List.mem_append_right _ (List.mem_of_getElem? (i := 233) (by decide +kernel))
theorem hw_234 : Cond.instanceMethod yX0_makeRows ∈ lw_gd := List.mem_filter.mpr ⟨List.mem_append_right _ (List.mem_of_getElem? (i := 234) (by decide +kernel)), by decide +kernel⟩
theorem hw_235 : Cond.code yX0_makeRows cX0_makeRows 4 none ∈ lw_gd := List.mem_filter.mpr ⟨List.mem_append_right _ (List.mem_of_getElem? (i := 235) (by decide +kernel)), by decide +kernel⟩
theorem hw_236 : Cond.methodLink RX0 79 yX3_multiply ∈ lw_gd := List.mem_filter.mpr ⟨List.mem_append_right _ (List.mem_of_getElem? (i := 236) (by decide +kernel)), by decide +kernel⟩
theorem hw_237 : Cond.methodLink RX0 83 yX3_putOne ∈ lw_gd := List.mem_filter.mpr ⟨List.mem_append_right _ (List.mem_of_getElem? (i := 237) (by decide +kernel)), by decide +kernel⟩
theorem hw_238 : Cond.methodLink RX0 86 arraycopyName ∈ lw_gd := List.mem_filter.mpr ⟨List.mem_append_right _ (List.mem_of_getElem? (i := 238) (by decide +kernel)), by decide +kernel⟩
theorem hw_239 : Cond.methodLink RX0 70 yJ9_max_7cf53 ∈ lw_gd := List.mem_filter.mpr ⟨List.mem_append_right _ (List.mem_of_getElem? (i := 239) (by decide +kernel)), by decide +kernel⟩
theorem hw_240 : Cond.static yJ9_max_7cf53 ∈ lw_gd := List.mem_filter.mpr ⟨List.mem_append_right _ (List.mem_of_getElem? (i := 240) (by decide +kernel)), by decide +kernel⟩
theorem hw_241 : Cond.code yJ9_max_7cf53 cJ9_max_7cf53 2 (some .int) ∈ lw_gd := List.mem_filter.mpr ⟨List.mem_append_right _ (List.mem_of_getElem? (i := 241) (by decide +kernel)), by decide +kernel⟩
theorem hw_242 : Cond.methodLink RX4 120 yX0_sizeOf ∈ lw_gd := List.mem_filter.mpr ⟨List.mem_append_right _ (List.mem_of_getElem? (i := 242) (by decide +kernel)), by decide +kernel⟩
theorem hw_243 : Cond.methodLink RX4 123 yX0_join ∈ lw_gd := List.mem_filter.mpr ⟨List.mem_append_right _ (List.mem_of_getElem? (i := 243) (by decide +kernel)), by decide +kernel⟩
theorem hw_244 : Cond.instanceMethod yX0_join ∈ lw_gd := List.mem_filter.mpr ⟨List.mem_append_right _ (List.mem_of_getElem? (i := 244) (by decide +kernel)), by decide +kernel⟩
theorem hw_245 : Cond.selects RX0 yX0_join yX0_join ∈ lw_gd := List.mem_filter.mpr ⟨List.mem_append_right _ (List.mem_of_getElem? (i := 245) (by decide +kernel)), by decide +kernel⟩
theorem hw_246 : Cond.code yX0_join cX0_join 8 none ∈ lw_gd := List.mem_filter.mpr ⟨List.mem_append_right _ (List.mem_of_getElem? (i := 246) (by decide +kernel)), by decide +kernel⟩
theorem hw_247 : Cond.constantLong RX0 96 1000003 ∈ lw_gd := List.mem_filter.mpr ⟨List.mem_append_right _ (List.mem_of_getElem? (i := 247) (by decide +kernel)), by decide +kernel⟩
theorem hw_248 : Cond.methodLink RL 48 yX4_prime ∈ lw_gd := List.mem_filter.mpr ⟨List.mem_append_right _ (List.mem_of_getElem? (i := 248) (by decide +kernel)), by decide +kernel⟩
theorem hw_249 : Cond.instanceMethod yX4_prime ∈ lw_gd := List.mem_filter.mpr ⟨List.mem_append_right _ (List.mem_of_getElem? (i := 249) (by decide +kernel)), by decide +kernel⟩
theorem hw_250 : Cond.selects RX4 yX4_prime yX4_prime ∈ lw_gd := List.mem_filter.mpr ⟨List.mem_append_right _ (List.mem_of_getElem? (i := 250) (by decide +kernel)), by decide +kernel⟩
theorem hw_251 : Cond.code yX4_prime cX4_prime 4 (some .int) ∈ lw_gd := List.mem_filter.mpr ⟨List.mem_append_right _ (List.mem_of_getElem? (i := 251) (by decide +kernel)), by decide +kernel⟩
theorem hw_252 : Cond.methodLink RX4 126 yX4_isPrime ∈ lw_gd := List.mem_filter.mpr ⟨List.mem_append_right _ (List.mem_of_getElem? (i := 252) (by decide +kernel)), by decide +kernel⟩
theorem hw_253 : Cond.static yX4_isPrime ∈ lw_gd := List.mem_filter.mpr ⟨List.mem_append_right _ (List.mem_of_getElem? (i := 253) (by decide +kernel)), by decide +kernel⟩
theorem hw_254 : Cond.code yX4_isPrime cX4_isPrime 1 (some .boolean) ∈ lw_gd := List.mem_filter.mpr ⟨List.mem_append_right _ (List.mem_of_getElem? (i := 254) (by decide +kernel)), by decide +kernel⟩
theorem hw_255 : Cond.methodLink RX4 129 yX0_putImage ∈ lw_gd := List.mem_filter.mpr ⟨List.mem_append_right _ (List.mem_of_getElem? (i := 255) (by decide +kernel)), by decide +kernel⟩
theorem hw_256 : Cond.instanceMethod yX0_putImage ∈ lw_gd := List.mem_filter.mpr ⟨List.mem_append_right _ (List.mem_of_getElem? (i := 256) (by decide +kernel)), by decide +kernel⟩
theorem hw_257 : Cond.selects RX0 yX0_putImage yX0_putImage ∈ lw_gd := List.mem_filter.mpr ⟨List.mem_append_right _ (List.mem_of_getElem? (i := 257) (by decide +kernel)), by decide +kernel⟩
theorem hw_258 : Cond.code yX0_putImage cX0_putImage 10 none ∈ lw_gd := List.mem_filter.mpr ⟨List.mem_append_right _ (List.mem_of_getElem? (i := 258) (by decide +kernel)), by decide +kernel⟩
theorem hw_259 : Cond.methodLink RX0 98 yX2_raised ∈ lw_gd := List.mem_filter.mpr ⟨List.mem_append_right _ (List.mem_of_getElem? (i := 259) (by decide +kernel)), by decide +kernel⟩
theorem hw_260 : Cond.methodLink RL 52 yX4_basis ∈ lw_gd := List.mem_filter.mpr ⟨List.mem_append_right _ (List.mem_of_getElem? (i := 260) (by decide +kernel)), by decide +kernel⟩
theorem hw_261 : Cond.instanceMethod yX4_basis ∈ lw_gd := List.mem_filter.mpr ⟨List.mem_append_right _ (List.mem_of_getElem? (i := 261) (by decide +kernel)), by decide +kernel⟩
theorem hw_262 : Cond.selects RX4 yX4_basis yX4_basis ∈ lw_gd := List.mem_filter.mpr ⟨List.mem_append_right _ (List.mem_of_getElem? (i := 262) (by decide +kernel)), by decide +kernel⟩
theorem hw_263 : Cond.code yX4_basis cX4_basis 3 (some .int) ∈ lw_gd := List.mem_filter.mpr ⟨List.mem_append_right _ (List.mem_of_getElem? (i := 263) (by decide +kernel)), by decide +kernel⟩
theorem hw_264 : Cond.methodLink RX4 133 yX4_isWeight ∈ lw_gd := List.mem_filter.mpr ⟨List.mem_append_right _ (List.mem_of_getElem? (i := 264) (by decide +kernel)), by decide +kernel⟩
theorem hw_265 : Cond.static yX4_isWeight ∈ lw_gd := List.mem_filter.mpr ⟨List.mem_append_right _ (List.mem_of_getElem? (i := 265) (by decide +kernel)), by decide +kernel⟩
theorem hw_266 : Cond.code yX4_isWeight cX4_isWeight 1 (some .boolean) ∈ lw_gd := List.mem_filter.mpr ⟨List.mem_append_right _ (List.mem_of_getElem? (i := 266) (by decide +kernel)), by decide +kernel⟩
theorem hw_267 : Cond.methodLink RX4 136 yX0_rowOf ∈ lw_gd := List.mem_filter.mpr ⟨List.mem_append_right _ (List.mem_of_getElem? (i := 267) (by decide +kernel)), by decide +kernel⟩
theorem hw_268 : Cond.methodLink RX4 140 arraycopyName ∈ lw_gd := List.mem_filter.mpr ⟨List.mem_append_right _ (List.mem_of_getElem? (i := 268) (by decide +kernel)), by decide +kernel⟩
theorem hw_269 : Cond.methodLink RL 56 yX4_drop ∈ lw_gd := List.mem_filter.mpr ⟨List.mem_append_right _ (List.mem_of_getElem? (i := 269) (by decide +kernel)), by decide +kernel⟩
theorem hw_270 : Cond.instanceMethod yX4_drop ∈ lw_gd := List.mem_filter.mpr ⟨List.mem_append_right _ (List.mem_of_getElem? (i := 270) (by decide +kernel)), by decide +kernel⟩
theorem hw_271 : Cond.selects RX4 yX4_drop yX4_drop ∈ lw_gd := List.mem_filter.mpr ⟨List.mem_append_right _ (List.mem_of_getElem? (i := 271) (by decide +kernel)), by decide +kernel⟩
theorem hw_272 : Cond.code yX4_drop cX4_drop 1 (some .int) ∈ lw_gd := List.mem_filter.mpr ⟨List.mem_append_right _ (List.mem_of_getElem? (i := 272) (by decide +kernel)), by decide +kernel⟩
theorem hw_273 : Cond.methodLink RL 61 yX4_look ∈ lw_gd := List.mem_filter.mpr ⟨List.mem_append_right _ (List.mem_of_getElem? (i := 273) (by decide +kernel)), by decide +kernel⟩
theorem hw_274 : Cond.instanceMethod yX4_look ∈ lw_gd := List.mem_filter.mpr ⟨List.mem_append_right _ (List.mem_of_getElem? (i := 274) (by decide +kernel)), by decide +kernel⟩
theorem hw_275 : Cond.selects RX4 yX4_look yX4_look ∈ lw_gd := List.mem_filter.mpr ⟨List.mem_append_right _ (List.mem_of_getElem? (i := 275) (by decide +kernel)), by decide +kernel⟩
theorem hw_276 : Cond.code yX4_look cX4_look 4 (some .int) ∈ lw_gd := List.mem_filter.mpr ⟨List.mem_append_right _ (List.mem_of_getElem? (i := 276) (by decide +kernel)), by decide +kernel⟩
theorem hw_277 : Cond.methodLink RX4 149 yX3_leastPlace ∈ lw_gd := List.mem_filter.mpr ⟨List.mem_append_right _ (List.mem_of_getElem? (i := 277) (by decide +kernel)), by decide +kernel⟩
theorem hw_278 : Cond.static yX3_leastPlace ∈ lw_gd := List.mem_filter.mpr ⟨List.mem_append_right _ (List.mem_of_getElem? (i := 278) (by decide +kernel)), by decide +kernel⟩
theorem hw_279 : Cond.code yX3_leastPlace cX3_leastPlace 2 (some .int) ∈ lw_gd := List.mem_filter.mpr ⟨List.mem_append_right _ (List.mem_of_getElem? (i := 279) (by decide +kernel)), by decide +kernel⟩
theorem hw_280 : Cond.methodLink RL 65 yX4_at ∈ lw_gd := List.mem_filter.mpr ⟨List.mem_append_right _ (List.mem_of_getElem? (i := 280) (by decide +kernel)), by decide +kernel⟩
theorem hw_281 : Cond.instanceMethod yX4_at ∈ lw_gd := List.mem_filter.mpr ⟨List.mem_append_right _ (List.mem_of_getElem? (i := 281) (by decide +kernel)), by decide +kernel⟩
theorem hw_282 : Cond.selects RX4 yX4_at yX4_at ∈ lw_gd := List.mem_filter.mpr ⟨List.mem_append_right _ (List.mem_of_getElem? (i := 282) (by decide +kernel)), by decide +kernel⟩
theorem hw_283 : Cond.code yX4_at cX4_at 3 (some .int) ∈ lw_gd := List.mem_filter.mpr ⟨List.mem_append_right _ (List.mem_of_getElem? (i := 283) (by decide +kernel)), by decide +kernel⟩
theorem hw_284 : Cond.methodLink RL 69 yX4_part ∈ lw_gd := List.mem_filter.mpr ⟨List.mem_append_right _ (List.mem_of_getElem? (i := 284) (by decide +kernel)), by decide +kernel⟩
theorem hw_285 : Cond.instanceMethod yX4_part ∈ lw_gd := List.mem_filter.mpr ⟨List.mem_append_right _ (List.mem_of_getElem? (i := 285) (by decide +kernel)), by decide +kernel⟩
theorem hw_286 : Cond.selects RX4 yX4_part yX4_part ∈ lw_gd := List.mem_filter.mpr ⟨List.mem_append_right _ (List.mem_of_getElem? (i := 286) (by decide +kernel)), by decide +kernel⟩
theorem hw_287 : Cond.code yX4_part cX4_part 3 (some .int) ∈ lw_gd := List.mem_filter.mpr ⟨List.mem_append_right _ (List.mem_of_getElem? (i := 287) (by decide +kernel)), by decide +kernel⟩
theorem hw_288 : Cond.methodLink RL 73 yX4_same ∈ lw_gd := List.mem_filter.mpr ⟨List.mem_append_right _ (List.mem_of_getElem? (i := 288) (by decide +kernel)), by decide +kernel⟩
theorem hw_289 : Cond.instanceMethod yX4_same ∈ lw_gd := List.mem_filter.mpr ⟨List.mem_append_right _ (List.mem_of_getElem? (i := 289) (by decide +kernel)), by decide +kernel⟩
theorem hw_290 : Cond.selects RX4 yX4_same yX4_same ∈ lw_gd := List.mem_filter.mpr ⟨List.mem_append_right _ (List.mem_of_getElem? (i := 290) (by decide +kernel)), by decide +kernel⟩
theorem hw_291 : Cond.code yX4_same cX4_same 5 (some .int) ∈ lw_gd := List.mem_filter.mpr ⟨List.mem_append_right _ (List.mem_of_getElem? (i := 291) (by decide +kernel)), by decide +kernel⟩
theorem hw_292 : Cond.methodLink RX4 156 yX3_firstUnlike ∈ lw_gd := List.mem_filter.mpr ⟨List.mem_append_right _ (List.mem_of_getElem? (i := 292) (by decide +kernel)), by decide +kernel⟩
theorem hw_293 : Cond.static yX3_firstUnlike ∈ lw_gd := List.mem_filter.mpr ⟨List.mem_append_right _ (List.mem_of_getElem? (i := 293) (by decide +kernel)), by decide +kernel⟩
theorem hw_294 : Cond.code yX3_firstUnlike cX3_firstUnlike 3 (some .int) ∈ lw_gd := List.mem_filter.mpr ⟨List.mem_append_right _ (List.mem_of_getElem? (i := 294) (by decide +kernel)), by decide +kernel⟩
theorem hw_295 : Cond.methodLink RL 77 yX4_apart ∈ lw_gd := List.mem_filter.mpr ⟨List.mem_append_right _ (List.mem_of_getElem? (i := 295) (by decide +kernel)), by decide +kernel⟩
theorem hw_296 : Cond.instanceMethod yX4_apart ∈ lw_gd := List.mem_filter.mpr ⟨List.mem_append_right _ (List.mem_of_getElem? (i := 296) (by decide +kernel)), by decide +kernel⟩
theorem hw_297 : Cond.selects RX4 yX4_apart yX4_apart ∈ lw_gd := List.mem_filter.mpr ⟨List.mem_append_right _ (List.mem_of_getElem? (i := 297) (by decide +kernel)), by decide +kernel⟩
theorem hw_298 : Cond.code yX4_apart cX4_apart 3 (some .int) ∈ lw_gd := List.mem_filter.mpr ⟨List.mem_append_right _ (List.mem_of_getElem? (i := 298) (by decide +kernel)), by decide +kernel⟩
theorem hw_299 : Cond.methodLink RL 81 yX4_size ∈ lw_gd := List.mem_filter.mpr ⟨List.mem_append_right _ (List.mem_of_getElem? (i := 299) (by decide +kernel)), by decide +kernel⟩
theorem hw_300 : Cond.instanceMethod yX4_size ∈ lw_gd := List.mem_filter.mpr ⟨List.mem_append_right _ (List.mem_of_getElem? (i := 300) (by decide +kernel)), by decide +kernel⟩
theorem hw_301 : Cond.selects RX4 yX4_size yX4_size ∈ lw_gd := List.mem_filter.mpr ⟨List.mem_append_right _ (List.mem_of_getElem? (i := 301) (by decide +kernel)), by decide +kernel⟩
theorem hw_302 : Cond.code yX4_size cX4_size 2 (some .int) ∈ lw_gd := List.mem_filter.mpr ⟨List.mem_append_right _ (List.mem_of_getElem? (i := 302) (by decide +kernel)), by decide +kernel⟩
theorem hw_303 : Cond.methodLink RL 85 yX4_own ∈ lw_gd := List.mem_filter.mpr ⟨List.mem_append_right _ (List.mem_of_getElem? (i := 303) (by decide +kernel)), by decide +kernel⟩
theorem hw_304 : Cond.instanceMethod yX4_own ∈ lw_gd := List.mem_filter.mpr ⟨List.mem_append_right _ (List.mem_of_getElem? (i := 304) (by decide +kernel)), by decide +kernel⟩
theorem hw_305 : Cond.selects RX4 yX4_own yX4_own ∈ lw_gd := List.mem_filter.mpr ⟨List.mem_append_right _ (List.mem_of_getElem? (i := 305) (by decide +kernel)), by decide +kernel⟩
theorem hw_306 : Cond.code yX4_own cX4_own 4 (some .int) ∈ lw_gd := List.mem_filter.mpr ⟨List.mem_append_right _ (List.mem_of_getElem? (i := 306) (by decide +kernel)), by decide +kernel⟩
theorem hw_307 : Cond.methodLink RX4 160 yX3_ratio ∈ lw_gd := List.mem_filter.mpr ⟨List.mem_append_right _ (List.mem_of_getElem? (i := 307) (by decide +kernel)), by decide +kernel⟩
theorem hw_308 : Cond.static yX3_ratio ∈ lw_gd := List.mem_filter.mpr ⟨List.mem_append_right _ (List.mem_of_getElem? (i := 308) (by decide +kernel)), by decide +kernel⟩
theorem hw_309 : Cond.code yX3_ratio cX3_ratio 7 (some .int) ∈ lw_gd := List.mem_filter.mpr ⟨List.mem_append_right _ (List.mem_of_getElem? (i := 309) (by decide +kernel)), by decide +kernel⟩
theorem hw_310 : Cond.methodLink RX3 41 yX3_leastPlace ∈ lw_gd := List.mem_filter.mpr ⟨List.mem_append_right _ (List.mem_of_getElem? (i := 310) (by decide +kernel)), by decide +kernel⟩
theorem hw_311 : Cond.methodLink RX3 45 yX2_quotient ∈ lw_gd := List.mem_filter.mpr ⟨List.mem_append_right _ (List.mem_of_getElem? (i := 311) (by decide +kernel)), by decide +kernel⟩
theorem hw_312 : Cond.methodLink RL 89 yX4_trace ∈ lw_gd := List.mem_filter.mpr ⟨List.mem_append_right _ (List.mem_of_getElem? (i := 312) (by decide +kernel)), by decide +kernel⟩
theorem hw_313 : Cond.instanceMethod yX4_trace ∈ lw_gd := List.mem_filter.mpr ⟨List.mem_append_right _ (List.mem_of_getElem? (i := 313) (by decide +kernel)), by decide +kernel⟩
theorem hw_314 : Cond.selects RX4 yX4_trace yX4_trace ∈ lw_gd := List.mem_filter.mpr ⟨List.mem_append_right _ (List.mem_of_getElem? (i := 314) (by decide +kernel)), by decide +kernel⟩
theorem hw_315 : Cond.code yX4_trace cX4_trace 7 (some .int) ∈ lw_gd := List.mem_filter.mpr ⟨List.mem_append_right _ (List.mem_of_getElem? (i := 315) (by decide +kernel)), by decide +kernel⟩
theorem hw_316 : Cond.methodLink RL 94 yX4_squares ∈ lw_gd := List.mem_filter.mpr ⟨List.mem_append_right _ (List.mem_of_getElem? (i := 316) (by decide +kernel)), by decide +kernel⟩
theorem hw_317 : Cond.instanceMethod yX4_squares ∈ lw_gd := List.mem_filter.mpr ⟨List.mem_append_right _ (List.mem_of_getElem? (i := 317) (by decide +kernel)), by decide +kernel⟩
theorem hw_318 : Cond.selects RX4 yX4_squares yX4_squares ∈ lw_gd := List.mem_filter.mpr ⟨List.mem_append_right _ (List.mem_of_getElem? (i := 318) (by decide +kernel)), by decide +kernel⟩
theorem hw_319 : Cond.code yX4_squares cX4_squares 4 (some .int) ∈ lw_gd := List.mem_filter.mpr ⟨List.mem_append_right _ (List.mem_of_getElem? (i := 319) (by decide +kernel)), by decide +kernel⟩
theorem hw_320 : Cond.methodLink RX4 164 yX4_takeOneSquareMore ∈ lw_gd := List.mem_filter.mpr ⟨List.mem_append_right _ (List.mem_of_getElem? (i := 320) (by decide +kernel)), by decide +kernel⟩
theorem hx_321 : Cond.privateMethod yX4_takeOneSquareMore ∈ lw_tbl := List.mem_append_right _ (List.mem_of_getElem? (i := 321) (by decide +kernel))
theorem hw_322 : Cond.instanceMethod yX4_takeOneSquareMore ∈ lw_gd := List.mem_filter.mpr ⟨List.mem_append_right _ (List.mem_of_getElem? (i := 322) (by decide +kernel)), by decide +kernel⟩
theorem hw_323 : Cond.code yX4_takeOneSquareMore cX4_takeOneSquareMore 5 none ∈ lw_gd := List.mem_filter.mpr ⟨List.mem_append_right _ (List.mem_of_getElem? (i := 323) (by decide +kernel)), by decide +kernel⟩
theorem hw_324 : Cond.methodLink RL 98 yX4_count ∈ lw_gd := List.mem_filter.mpr ⟨List.mem_append_right _ (List.mem_of_getElem? (i := 324) (by decide +kernel)), by decide +kernel⟩
theorem hw_325 : Cond.instanceMethod yX4_count ∈ lw_gd := List.mem_filter.mpr ⟨List.mem_append_right _ (List.mem_of_getElem? (i := 325) (by decide +kernel)), by decide +kernel⟩
theorem hw_326 : Cond.selects RX4 yX4_count yX4_count ∈ lw_gd := List.mem_filter.mpr ⟨List.mem_append_right _ (List.mem_of_getElem? (i := 326) (by decide +kernel)), by decide +kernel⟩
theorem hw_327 : Cond.code yX4_count cX4_count 1 (some .int) ∈ lw_gd := List.mem_filter.mpr ⟨List.mem_append_right _ (List.mem_of_getElem? (i := 327) (by decide +kernel)), by decide +kernel⟩
theorem hw_328 : Cond.methodLink RL 102 yX4_lay ∈ lw_gd := List.mem_filter.mpr ⟨List.mem_append_right _ (List.mem_of_getElem? (i := 328) (by decide +kernel)), by decide +kernel⟩
theorem hw_329 : Cond.instanceMethod yX4_lay ∈ lw_gd := List.mem_filter.mpr ⟨List.mem_append_right _ (List.mem_of_getElem? (i := 329) (by decide +kernel)), by decide +kernel⟩
theorem hw_330 : Cond.selects RX4 yX4_lay yX4_lay ∈ lw_gd := List.mem_filter.mpr ⟨List.mem_append_right _ (List.mem_of_getElem? (i := 330) (by decide +kernel)), by decide +kernel⟩
theorem hw_331 : Cond.code yX4_lay cX4_lay 3 (some .int) ∈ lw_gd := List.mem_filter.mpr ⟨List.mem_append_right _ (List.mem_of_getElem? (i := 331) (by decide +kernel)), by decide +kernel⟩
theorem hw_332 : Cond.methodLink RL 106 yX4_tell ∈ lw_gd := List.mem_filter.mpr ⟨List.mem_append_right _ (List.mem_of_getElem? (i := 332) (by decide +kernel)), by decide +kernel⟩
theorem hw_333 : Cond.instanceMethod yX4_tell ∈ lw_gd := List.mem_filter.mpr ⟨List.mem_append_right _ (List.mem_of_getElem? (i := 333) (by decide +kernel)), by decide +kernel⟩
theorem hw_334 : Cond.selects RX4 yX4_tell yX4_tell ∈ lw_gd := List.mem_filter.mpr ⟨List.mem_append_right _ (List.mem_of_getElem? (i := 334) (by decide +kernel)), by decide +kernel⟩
theorem hw_335 : Cond.code yX4_tell cX4_tell 5 (some .int) ∈ lw_gd := List.mem_filter.mpr ⟨List.mem_append_right _ (List.mem_of_getElem? (i := 335) (by decide +kernel)), by decide +kernel⟩
theorem hw_336 : Cond.methodLink RL 110 yX4_give ∈ lw_gd := List.mem_filter.mpr ⟨List.mem_append_right _ (List.mem_of_getElem? (i := 336) (by decide +kernel)), by decide +kernel⟩
theorem hw_337 : Cond.instanceMethod yX4_give ∈ lw_gd := List.mem_filter.mpr ⟨List.mem_append_right _ (List.mem_of_getElem? (i := 337) (by decide +kernel)), by decide +kernel⟩
theorem hw_338 : Cond.selects RX4 yX4_give yX4_give ∈ lw_gd := List.mem_filter.mpr ⟨List.mem_append_right _ (List.mem_of_getElem? (i := 338) (by decide +kernel)), by decide +kernel⟩
theorem hw_339 : Cond.code yX4_give cX4_give 2 (some .int) ∈ lw_gd := List.mem_filter.mpr ⟨List.mem_append_right _ (List.mem_of_getElem? (i := 339) (by decide +kernel)), by decide +kernel⟩
theorem hw_340 : Cond.methodLink RL 114 yX4_tear ∈ lw_gd := List.mem_filter.mpr ⟨List.mem_append_right _ (List.mem_of_getElem? (i := 340) (by decide +kernel)), by decide +kernel⟩
theorem hw_341 : Cond.instanceMethod yX4_tear ∈ lw_gd := List.mem_filter.mpr ⟨List.mem_append_right _ (List.mem_of_getElem? (i := 341) (by decide +kernel)), by decide +kernel⟩
theorem hw_342 : Cond.selects RX4 yX4_tear yX4_tear ∈ lw_gd := List.mem_filter.mpr ⟨List.mem_append_right _ (List.mem_of_getElem? (i := 342) (by decide +kernel)), by decide +kernel⟩
theorem hw_343 : Cond.code yX4_tear cX4_tear 2 (some .int) ∈ lw_gd := List.mem_filter.mpr ⟨List.mem_append_right _ (List.mem_of_getElem? (i := 343) (by decide +kernel)), by decide +kernel⟩
theorem hw_344 : Cond.methodLink RL 118 yX4_row ∈ lw_gd := List.mem_filter.mpr ⟨List.mem_append_right _ (List.mem_of_getElem? (i := 344) (by decide +kernel)), by decide +kernel⟩
theorem hw_345 : Cond.instanceMethod yX4_row ∈ lw_gd := List.mem_filter.mpr ⟨List.mem_append_right _ (List.mem_of_getElem? (i := 345) (by decide +kernel)), by decide +kernel⟩
theorem hw_346 : Cond.selects RX4 yX4_row yX4_row ∈ lw_gd := List.mem_filter.mpr ⟨List.mem_append_right _ (List.mem_of_getElem? (i := 346) (by decide +kernel)), by decide +kernel⟩
theorem hw_347 : Cond.code yX4_row cX4_row 2 (some .int) ∈ lw_gd := List.mem_filter.mpr ⟨List.mem_append_right _ (List.mem_of_getElem? (i := 347) (by decide +kernel)), by decide +kernel⟩
theorem hw_348 : Cond.methodLink RL 122 yX4_copy ∈ lw_gd := List.mem_filter.mpr ⟨List.mem_append_right _ (List.mem_of_getElem? (i := 348) (by decide +kernel)), by decide +kernel⟩
theorem hw_349 : Cond.instanceMethod yX4_copy ∈ lw_gd := List.mem_filter.mpr ⟨List.mem_append_right _ (List.mem_of_getElem? (i := 349) (by decide +kernel)), by decide +kernel⟩
theorem hw_350 : Cond.selects RX4 yX4_copy yX4_copy ∈ lw_gd := List.mem_filter.mpr ⟨List.mem_append_right _ (List.mem_of_getElem? (i := 350) (by decide +kernel)), by decide +kernel⟩
theorem hw_351 : Cond.code yX4_copy cX4_copy 4 (some .int) ∈ lw_gd := List.mem_filter.mpr ⟨List.mem_append_right _ (List.mem_of_getElem? (i := 351) (by decide +kernel)), by decide +kernel⟩
theorem hw_352 : Cond.methodLink RL 127 yX4_status ∈ lw_gd := List.mem_filter.mpr ⟨List.mem_append_right _ (List.mem_of_getElem? (i := 352) (by decide +kernel)), by decide +kernel⟩
theorem hw_353 : Cond.instanceMethod yX4_status ∈ lw_gd := List.mem_filter.mpr ⟨List.mem_append_right _ (List.mem_of_getElem? (i := 353) (by decide +kernel)), by decide +kernel⟩
theorem hw_354 : Cond.selects RX4 yX4_status yX4_status ∈ lw_gd := List.mem_filter.mpr ⟨List.mem_append_right _ (List.mem_of_getElem? (i := 354) (by decide +kernel)), by decide +kernel⟩
theorem hw_355 : Cond.code yX4_status cX4_status 2 (some .int) ∈ lw_gd := List.mem_filter.mpr ⟨List.mem_append_right _ (List.mem_of_getElem? (i := 355) (by decide +kernel)), by decide +kernel⟩
theorem hw_356 : Cond.classLink RL 10 RX5 ∈ lw_gd := List.mem_filter.mpr ⟨List.mem_append_right _ (List.mem_of_getElem? (i := 356) (by decide +kernel)), by decide +kernel⟩
theorem hw_357 : Cond.instantiable RX5 20 ∈ lw_gd := List.mem_filter.mpr ⟨List.mem_append_right _ (List.mem_of_getElem? (i := 357) (by decide +kernel)), by decide +kernel⟩
theorem hw_358 : Cond.methodLink RL 12 yX5_init ∈ lw_gd := List.mem_filter.mpr ⟨List.mem_append_right _ (List.mem_of_getElem? (i := 358) (by decide +kernel)), by decide +kernel⟩
theorem hw_359 : Cond.instanceMethod yX5_init ∈ lw_gd := List.mem_filter.mpr ⟨List.mem_append_right _ (List.mem_of_getElem? (i := 359) (by decide +kernel)), by decide +kernel⟩
theorem hw_360 : Cond.code yX5_init cX5_init 4 none ∈ lw_gd := List.mem_filter.mpr ⟨List.mem_append_right _ (List.mem_of_getElem? (i := 360) (by decide +kernel)), by decide +kernel⟩
theorem hw_361 : Cond.methodLink RX5 1 objectInit ∈ lw_gd := List.mem_filter.mpr ⟨List.mem_append_right _ (List.mem_of_getElem? (i := 361) (by decide +kernel)), by decide +kernel⟩
theorem hw_362 : Cond.constantLong RX5 69 999979 ∈ lw_gd := List.mem_filter.mpr ⟨List.mem_append_right _ (List.mem_of_getElem? (i := 362) (by decide +kernel)), by decide +kernel⟩
theorem hw_363 : Cond.methodLink RX5 71 yX5_fillSums ∈ lw_gd := List.mem_filter.mpr ⟨List.mem_append_right _ (List.mem_of_getElem? (i := 363) (by decide +kernel)), by decide +kernel⟩
theorem hw_364 : Cond.static yX5_fillSums ∈ lw_gd := List.mem_filter.mpr ⟨List.mem_append_right _ (List.mem_of_getElem? (i := 364) (by decide +kernel)), by decide +kernel⟩
theorem hw_365 : Cond.code yX5_fillSums cX5_fillSums 8 none ∈ lw_gd := List.mem_filter.mpr ⟨List.mem_append_right _ (List.mem_of_getElem? (i := 365) (by decide +kernel)), by decide +kernel⟩
theorem hw_366 : Cond.methodLink RX5 85 yX5_raised ∈ lw_gd := List.mem_filter.mpr ⟨List.mem_append_right _ (List.mem_of_getElem? (i := 366) (by decide +kernel)), by decide +kernel⟩
theorem hw_367 : Cond.static yX5_raised ∈ lw_gd := List.mem_filter.mpr ⟨List.mem_append_right _ (List.mem_of_getElem? (i := 367) (by decide +kernel)), by decide +kernel⟩
theorem hw_368 : Cond.code yX5_raised cX5_raised 6 (some .long) ∈ lw_gd := List.mem_filter.mpr ⟨List.mem_append_right _ (List.mem_of_getElem? (i := 368) (by decide +kernel)), by decide +kernel⟩
theorem hw_369 : Cond.constantLong RX5 79 1000003 ∈ lw_gd := List.mem_filter.mpr ⟨List.mem_append_right _ (List.mem_of_getElem? (i := 369) (by decide +kernel)), by decide +kernel⟩
theorem hw_370 : Cond.constantLong RX5 75 240 ∈ lw_gd := List.mem_filter.mpr ⟨List.mem_append_right _ (List.mem_of_getElem? (i := 370) (by decide +kernel)), by decide +kernel⟩
theorem hw_371 : Cond.constantLong RX5 77 999499 ∈ lw_gd := List.mem_filter.mpr ⟨List.mem_append_right _ (List.mem_of_getElem? (i := 371) (by decide +kernel)), by decide +kernel⟩
theorem hw_372 : Cond.fieldLink RX5 7 "FormSeriesModel" "form" "[J" ∈ lw_gd := List.mem_filter.mpr ⟨List.mem_append_right _ (List.mem_of_getElem? (i := 372) (by decide +kernel)), by decide +kernel⟩
theorem hw_373 : Cond.fieldLink RX5 13 "FormSeriesModel" "kind" "[I" ∈ lw_gd := List.mem_filter.mpr ⟨List.mem_append_right _ (List.mem_of_getElem? (i := 373) (by decide +kernel)), by decide +kernel⟩
theorem hw_374 : Cond.fieldLink RX5 17 "FormSeriesModel" "weight" "[I" ∈ lw_gd := List.mem_filter.mpr ⟨List.mem_append_right _ (List.mem_of_getElem? (i := 374) (by decide +kernel)), by decide +kernel⟩
theorem hw_375 : Cond.fieldLink RX5 20 "FormSeriesModel" "told" "[I" ∈ lw_gd := List.mem_filter.mpr ⟨List.mem_append_right _ (List.mem_of_getElem? (i := 375) (by decide +kernel)), by decide +kernel⟩
theorem hw_376 : Cond.fieldLink RX5 89 "FormSeriesModel" "many" "I" ∈ lw_gd := List.mem_filter.mpr ⟨List.mem_append_right _ (List.mem_of_getElem? (i := 376) (by decide +kernel)), by decide +kernel⟩
theorem hw_377 : Cond.fieldLink RX5 23 "FormSeriesModel" "refused" "[I" ∈ lw_gd := List.mem_filter.mpr ⟨List.mem_append_right _ (List.mem_of_getElem? (i := 377) (by decide +kernel)), by decide +kernel⟩
theorem hw_378 : Cond.fieldLink RX5 26 "FormSeriesModel" "two" "[J" ∈ lw_gd := List.mem_filter.mpr ⟨List.mem_append_right _ (List.mem_of_getElem? (i := 378) (by decide +kernel)), by decide +kernel⟩
theorem hw_379 : Cond.fieldLink RX5 29 "FormSeriesModel" "four" "[J" ∈ lw_gd := List.mem_filter.mpr ⟨List.mem_append_right _ (List.mem_of_getElem? (i := 379) (by decide +kernel)), by decide +kernel⟩
theorem hw_380 : Cond.fieldLink RX5 32 "FormSeriesModel" "six" "[J" ∈ lw_gd := List.mem_filter.mpr ⟨List.mem_append_right _ (List.mem_of_getElem? (i := 380) (by decide +kernel)), by decide +kernel⟩
theorem hw_381 : Cond.fieldLink RX5 35 "FormSeriesModel" "product" "[J" ∈ lw_gd := List.mem_filter.mpr ⟨List.mem_append_right _ (List.mem_of_getElem? (i := 381) (by decide +kernel)), by decide +kernel⟩
theorem hw_382 : Cond.fieldLink RX5 38 "FormSeriesModel" "now" "[J" ∈ lw_gd := List.mem_filter.mpr ⟨List.mem_append_right _ (List.mem_of_getElem? (i := 382) (by decide +kernel)), by decide +kernel⟩
theorem hw_383 : Cond.fieldLink RX5 41 "FormSeriesModel" "then" "[J" ∈ lw_gd := List.mem_filter.mpr ⟨List.mem_append_right _ (List.mem_of_getElem? (i := 383) (by decide +kernel)), by decide +kernel⟩
theorem hw_384 : Cond.fieldLink RX5 44 "FormSeriesModel" "base" "[J" ∈ lw_gd := List.mem_filter.mpr ⟨List.mem_append_right _ (List.mem_of_getElem? (i := 384) (by decide +kernel)), by decide +kernel⟩
theorem hw_385 : Cond.fieldLink RX5 47 "FormSeriesModel" "parts" "[J" ∈ lw_gd := List.mem_filter.mpr ⟨List.mem_append_right _ (List.mem_of_getElem? (i := 385) (by decide +kernel)), by decide +kernel⟩
theorem hw_386 : Cond.fieldLink RX5 50 "FormSeriesModel" "left" "[J" ∈ lw_gd := List.mem_filter.mpr ⟨List.mem_append_right _ (List.mem_of_getElem? (i := 386) (by decide +kernel)), by decide +kernel⟩
theorem hw_387 : Cond.fieldLink RX5 53 "FormSeriesModel" "ways" "[J" ∈ lw_gd := List.mem_filter.mpr ⟨List.mem_append_right _ (List.mem_of_getElem? (i := 387) (by decide +kernel)), by decide +kernel⟩
theorem hw_388 : Cond.fieldLink RX5 56 "FormSeriesModel" "more" "[J" ∈ lw_gd := List.mem_filter.mpr ⟨List.mem_append_right _ (List.mem_of_getElem? (i := 388) (by decide +kernel)), by decide +kernel⟩
theorem hw_389 : Cond.fieldLink RX5 59 "FormSeriesModel" "row" "[I" ∈ lw_gd := List.mem_filter.mpr ⟨List.mem_append_right _ (List.mem_of_getElem? (i := 389) (by decide +kernel)), by decide +kernel⟩
theorem hw_390 : Cond.fieldLink RX5 62 "FormSeriesModel" "moved" "[I" ∈ lw_gd := List.mem_filter.mpr ⟨List.mem_append_right _ (List.mem_of_getElem? (i := 390) (by decide +kernel)), by decide +kernel⟩
theorem hw_391 : Cond.fieldLink RX5 65 "FormSeriesModel" "rowSize" "I" ∈ lw_gd := List.mem_filter.mpr ⟨List.mem_append_right _ (List.mem_of_getElem? (i := 391) (by decide +kernel)), by decide +kernel⟩
theorem hw_392 : Cond.laysFinal RX5 "FormSeriesModel" "form" "[J" ∈ lw_gd := List.mem_filter.mpr ⟨List.mem_append_right _ (List.mem_of_getElem? (i := 392) (by decide +kernel)), by decide +kernel⟩
theorem hw_393 : Cond.soleField RX5 "form" ∈ lw_gd := List.mem_filter.mpr ⟨List.mem_append_right _ (List.mem_of_getElem? (i := 393) (by decide +kernel)), by decide +kernel⟩
theorem hw_394 : Cond.laysFinal RX5 "FormSeriesModel" "kind" "[I" ∈ lw_gd := List.mem_filter.mpr ⟨List.mem_append_right _ (List.mem_of_getElem? (i := 394) (by decide +kernel)), by decide +kernel⟩
theorem hw_395 : Cond.soleField RX5 "kind" ∈ lw_gd := List.mem_filter.mpr ⟨List.mem_append_right _ (List.mem_of_getElem? (i := 395) (by decide +kernel)), by decide +kernel⟩
theorem hw_396 : Cond.laysFinal RX5 "FormSeriesModel" "weight" "[I" ∈ lw_gd := List.mem_filter.mpr ⟨List.mem_append_right _ (List.mem_of_getElem? (i := 396) (by decide +kernel)), by decide +kernel⟩
theorem hw_397 : Cond.soleField RX5 "weight" ∈ lw_gd := List.mem_filter.mpr ⟨List.mem_append_right _ (List.mem_of_getElem? (i := 397) (by decide +kernel)), by decide +kernel⟩
theorem hw_398 : Cond.laysFinal RX5 "FormSeriesModel" "told" "[I" ∈ lw_gd := List.mem_filter.mpr ⟨List.mem_append_right _ (List.mem_of_getElem? (i := 398) (by decide +kernel)), by decide +kernel⟩
theorem hw_399 : Cond.soleField RX5 "told" ∈ lw_gd := List.mem_filter.mpr ⟨List.mem_append_right _ (List.mem_of_getElem? (i := 399) (by decide +kernel)), by decide +kernel⟩
theorem hw_400 : Cond.lays RX5 "FormSeriesModel" "many" "I" ∈ lw_gd := List.mem_filter.mpr ⟨List.mem_append_right _ (List.mem_of_getElem? (i := 400) (by decide +kernel)), by decide +kernel⟩
theorem hw_401 : Cond.soleField RX5 "many" ∈ lw_gd := List.mem_filter.mpr ⟨List.mem_append_right _ (List.mem_of_getElem? (i := 401) (by decide +kernel)), by decide +kernel⟩
theorem hw_402 : Cond.laysFinal RX5 "FormSeriesModel" "refused" "[I" ∈ lw_gd := List.mem_filter.mpr ⟨List.mem_append_right _ (List.mem_of_getElem? (i := 402) (by decide +kernel)), by decide +kernel⟩
theorem hw_403 : Cond.soleField RX5 "refused" ∈ lw_gd := List.mem_filter.mpr ⟨List.mem_append_right _ (List.mem_of_getElem? (i := 403) (by decide +kernel)), by decide +kernel⟩
theorem hw_404 : Cond.laysFinal RX5 "FormSeriesModel" "two" "[J" ∈ lw_gd := List.mem_filter.mpr ⟨List.mem_append_right _ (List.mem_of_getElem? (i := 404) (by decide +kernel)), by decide +kernel⟩
theorem hw_405 : Cond.soleField RX5 "two" ∈ lw_gd := List.mem_filter.mpr ⟨List.mem_append_right _ (List.mem_of_getElem? (i := 405) (by decide +kernel)), by decide +kernel⟩
theorem hw_406 : Cond.laysFinal RX5 "FormSeriesModel" "four" "[J" ∈ lw_gd := List.mem_filter.mpr ⟨List.mem_append_right _ (List.mem_of_getElem? (i := 406) (by decide +kernel)), by decide +kernel⟩
theorem hw_407 : Cond.soleField RX5 "four" ∈ lw_gd := List.mem_filter.mpr ⟨List.mem_append_right _ (List.mem_of_getElem? (i := 407) (by decide +kernel)), by decide +kernel⟩
theorem hw_408 : Cond.laysFinal RX5 "FormSeriesModel" "six" "[J" ∈ lw_gd := List.mem_filter.mpr ⟨List.mem_append_right _ (List.mem_of_getElem? (i := 408) (by decide +kernel)), by decide +kernel⟩
theorem hw_409 : Cond.soleField RX5 "six" ∈ lw_gd := List.mem_filter.mpr ⟨List.mem_append_right _ (List.mem_of_getElem? (i := 409) (by decide +kernel)), by decide +kernel⟩
theorem hw_410 : Cond.laysFinal RX5 "FormSeriesModel" "product" "[J" ∈ lw_gd := List.mem_filter.mpr ⟨List.mem_append_right _ (List.mem_of_getElem? (i := 410) (by decide +kernel)), by decide +kernel⟩
theorem hw_411 : Cond.soleField RX5 "product" ∈ lw_gd := List.mem_filter.mpr ⟨List.mem_append_right _ (List.mem_of_getElem? (i := 411) (by decide +kernel)), by decide +kernel⟩
theorem hw_412 : Cond.laysFinal RX5 "FormSeriesModel" "now" "[J" ∈ lw_gd := List.mem_filter.mpr ⟨List.mem_append_right _ (List.mem_of_getElem? (i := 412) (by decide +kernel)), by decide +kernel⟩
theorem hw_413 : Cond.soleField RX5 "now" ∈ lw_gd := List.mem_filter.mpr ⟨List.mem_append_right _ (List.mem_of_getElem? (i := 413) (by decide +kernel)), by decide +kernel⟩
theorem hw_414 : Cond.laysFinal RX5 "FormSeriesModel" "then" "[J" ∈ lw_gd := List.mem_filter.mpr ⟨List.mem_append_right _ (List.mem_of_getElem? (i := 414) (by decide +kernel)), by decide +kernel⟩
theorem hw_415 : Cond.soleField RX5 "then" ∈ lw_gd := List.mem_filter.mpr ⟨List.mem_append_right _ (List.mem_of_getElem? (i := 415) (by decide +kernel)), by decide +kernel⟩
theorem hw_416 : Cond.laysFinal RX5 "FormSeriesModel" "base" "[J" ∈ lw_gd := List.mem_filter.mpr ⟨List.mem_append_right _ (List.mem_of_getElem? (i := 416) (by decide +kernel)), by decide +kernel⟩
theorem hw_417 : Cond.soleField RX5 "base" ∈ lw_gd := List.mem_filter.mpr ⟨List.mem_append_right _ (List.mem_of_getElem? (i := 417) (by decide +kernel)), by decide +kernel⟩
theorem hw_418 : Cond.laysFinal RX5 "FormSeriesModel" "parts" "[J" ∈ lw_gd := List.mem_filter.mpr ⟨List.mem_append_right _ (List.mem_of_getElem? (i := 418) (by decide +kernel)), by decide +kernel⟩
theorem hw_419 : Cond.soleField RX5 "parts" ∈ lw_gd := List.mem_filter.mpr ⟨List.mem_append_right _ (List.mem_of_getElem? (i := 419) (by decide +kernel)), by decide +kernel⟩
theorem hw_420 : Cond.laysFinal RX5 "FormSeriesModel" "left" "[J" ∈ lw_gd := List.mem_filter.mpr ⟨List.mem_append_right _ (List.mem_of_getElem? (i := 420) (by decide +kernel)), by decide +kernel⟩
theorem hw_421 : Cond.soleField RX5 "left" ∈ lw_gd := List.mem_filter.mpr ⟨List.mem_append_right _ (List.mem_of_getElem? (i := 421) (by decide +kernel)), by decide +kernel⟩
theorem hw_422 : Cond.laysFinal RX5 "FormSeriesModel" "ways" "[J" ∈ lw_gd := List.mem_filter.mpr ⟨List.mem_append_right _ (List.mem_of_getElem? (i := 422) (by decide +kernel)), by decide +kernel⟩
theorem hw_423 : Cond.soleField RX5 "ways" ∈ lw_gd := List.mem_filter.mpr ⟨List.mem_append_right _ (List.mem_of_getElem? (i := 423) (by decide +kernel)), by decide +kernel⟩
theorem hw_424 : Cond.laysFinal RX5 "FormSeriesModel" "more" "[J" ∈ lw_gd := List.mem_filter.mpr ⟨List.mem_append_right _ (List.mem_of_getElem? (i := 424) (by decide +kernel)), by decide +kernel⟩
theorem hw_425 : Cond.soleField RX5 "more" ∈ lw_gd := List.mem_filter.mpr ⟨List.mem_append_right _ (List.mem_of_getElem? (i := 425) (by decide +kernel)), by decide +kernel⟩
theorem hw_426 : Cond.laysFinal RX5 "FormSeriesModel" "row" "[I" ∈ lw_gd := List.mem_filter.mpr ⟨List.mem_append_right _ (List.mem_of_getElem? (i := 426) (by decide +kernel)), by decide +kernel⟩
theorem hw_427 : Cond.soleField RX5 "row" ∈ lw_gd := List.mem_filter.mpr ⟨List.mem_append_right _ (List.mem_of_getElem? (i := 427) (by decide +kernel)), by decide +kernel⟩
theorem hw_428 : Cond.laysFinal RX5 "FormSeriesModel" "moved" "[I" ∈ lw_gd := List.mem_filter.mpr ⟨List.mem_append_right _ (List.mem_of_getElem? (i := 428) (by decide +kernel)), by decide +kernel⟩
theorem hw_429 : Cond.soleField RX5 "moved" ∈ lw_gd := List.mem_filter.mpr ⟨List.mem_append_right _ (List.mem_of_getElem? (i := 429) (by decide +kernel)), by decide +kernel⟩
theorem hw_430 : Cond.lays RX5 "FormSeriesModel" "rowSize" "I" ∈ lw_gd := List.mem_filter.mpr ⟨List.mem_append_right _ (List.mem_of_getElem? (i := 430) (by decide +kernel)), by decide +kernel⟩
theorem hw_431 : Cond.soleField RX5 "rowSize" ∈ lw_gd := List.mem_filter.mpr ⟨List.mem_append_right _ (List.mem_of_getElem? (i := 431) (by decide +kernel)), by decide +kernel⟩
theorem hw_432 : Cond.superclass RX5 "java/lang/Object" ∈ lw_gd := List.mem_filter.mpr ⟨List.mem_append_right _ (List.mem_of_getElem? (i := 432) (by decide +kernel)), by decide +kernel⟩
theorem hw_433 : Cond.methodLink RL 17 yX5_sums ∈ lw_gd := List.mem_filter.mpr ⟨List.mem_append_right _ (List.mem_of_getElem? (i := 433) (by decide +kernel)), by decide +kernel⟩
theorem hw_434 : Cond.instanceMethod yX5_sums ∈ lw_gd := List.mem_filter.mpr ⟨List.mem_append_right _ (List.mem_of_getElem? (i := 434) (by decide +kernel)), by decide +kernel⟩
theorem hw_435 : Cond.selects RX5 yX5_sums yX5_sums ∈ lw_gd := List.mem_filter.mpr ⟨List.mem_append_right _ (List.mem_of_getElem? (i := 435) (by decide +kernel)), by decide +kernel⟩
theorem hw_436 : Cond.code yX5_sums cX5_sums 4 (some .int) ∈ lw_gd := List.mem_filter.mpr ⟨List.mem_append_right _ (List.mem_of_getElem? (i := 436) (by decide +kernel)), by decide +kernel⟩
theorem hw_437 : Cond.constantLong RX5 121 480 ∈ lw_gd := List.mem_filter.mpr ⟨List.mem_append_right _ (List.mem_of_getElem? (i := 437) (by decide +kernel)), by decide +kernel⟩
theorem hw_438 : Cond.constantLong RX5 123 999739 ∈ lw_gd := List.mem_filter.mpr ⟨List.mem_append_right _ (List.mem_of_getElem? (i := 438) (by decide +kernel)), by decide +kernel⟩
theorem hw_439 : Cond.constantLong RX5 125 65520 ∈ lw_gd := List.mem_filter.mpr ⟨List.mem_append_right _ (List.mem_of_getElem? (i := 439) (by decide +kernel)), by decide +kernel⟩
theorem hw_440 : Cond.constantLong RX5 127 691 ∈ lw_gd := List.mem_filter.mpr ⟨List.mem_append_right _ (List.mem_of_getElem? (i := 440) (by decide +kernel)), by decide +kernel⟩
theorem hw_441 : Cond.methodLink RX5 129 yX5_inverse ∈ lw_gd := List.mem_filter.mpr ⟨List.mem_append_right _ (List.mem_of_getElem? (i := 441) (by decide +kernel)), by decide +kernel⟩
theorem hw_442 : Cond.static yX5_inverse ∈ lw_gd := List.mem_filter.mpr ⟨List.mem_append_right _ (List.mem_of_getElem? (i := 442) (by decide +kernel)), by decide +kernel⟩
theorem hw_443 : Cond.code yX5_inverse cX5_inverse 8 (some .long) ∈ lw_gd := List.mem_filter.mpr ⟨List.mem_append_right _ (List.mem_of_getElem? (i := 443) (by decide +kernel)), by decide +kernel⟩
theorem hw_444 : Cond.constantLong RX5 81 1000001 ∈ lw_gd := List.mem_filter.mpr ⟨List.mem_append_right _ (List.mem_of_getElem? (i := 444) (by decide +kernel)), by decide +kernel⟩
theorem hw_445 : Cond.constantLong RX5 83 2 ∈ lw_gd := List.mem_filter.mpr ⟨List.mem_append_right _ (List.mem_of_getElem? (i := 445) (by decide +kernel)), by decide +kernel⟩
theorem hw_446 : Cond.methodLink RX5 114 yX5_no ∈ lw_gd := List.mem_filter.mpr ⟨List.mem_append_right _ (List.mem_of_getElem? (i := 446) (by decide +kernel)), by decide +kernel⟩
theorem hx_447 : Cond.privateMethod yX5_no ∈ lw_tbl := List.mem_append_right _ (List.mem_of_getElem? (i := 447) (by decide +kernel))
theorem hw_448 : Cond.instanceMethod yX5_no ∈ lw_gd := List.mem_filter.mpr ⟨List.mem_append_right _ (List.mem_of_getElem? (i := 448) (by decide +kernel)), by decide +kernel⟩
theorem hw_449 : Cond.code yX5_no cX5_no 2 (some .int) ∈ lw_gd := List.mem_filter.mpr ⟨List.mem_append_right _ (List.mem_of_getElem? (i := 449) (by decide +kernel)), by decide +kernel⟩
theorem hw_450 : Cond.methodLink RX5 117 yX5_comes ∈ lw_gd := List.mem_filter.mpr ⟨List.mem_append_right _ (List.mem_of_getElem? (i := 450) (by decide +kernel)), by decide +kernel⟩
theorem hx_451 : Cond.privateMethod yX5_comes ∈ lw_tbl := List.mem_append_right _ (List.mem_of_getElem? (i := 451) (by decide +kernel))
theorem hw_452 : Cond.instanceMethod yX5_comes ∈ lw_gd := List.mem_filter.mpr ⟨List.mem_append_right _ (List.mem_of_getElem? (i := 452) (by decide +kernel)), by decide +kernel⟩
theorem hw_453 : Cond.code yX5_comes cX5_comes 5 (some .int) ∈ lw_gd := List.mem_filter.mpr ⟨List.mem_append_right _ (List.mem_of_getElem? (i := 453) (by decide +kernel)), by decide +kernel⟩
theorem hw_454 : Cond.methodLink RL 21 yX5_product ∈ lw_gd := List.mem_filter.mpr ⟨List.mem_append_right _ (List.mem_of_getElem? (i := 454) (by decide +kernel)), by decide +kernel⟩
theorem hw_455 : Cond.instanceMethod yX5_product ∈ lw_gd := List.mem_filter.mpr ⟨List.mem_append_right _ (List.mem_of_getElem? (i := 455) (by decide +kernel)), by decide +kernel⟩
theorem hw_456 : Cond.selects RX5 yX5_product yX5_product ∈ lw_gd := List.mem_filter.mpr ⟨List.mem_append_right _ (List.mem_of_getElem? (i := 456) (by decide +kernel)), by decide +kernel⟩
theorem hw_457 : Cond.code yX5_product cX5_product 3 (some .int) ∈ lw_gd := List.mem_filter.mpr ⟨List.mem_append_right _ (List.mem_of_getElem? (i := 457) (by decide +kernel)), by decide +kernel⟩
theorem hw_458 : Cond.constantLong RX5 133 3 ∈ lw_gd := List.mem_filter.mpr ⟨List.mem_append_right _ (List.mem_of_getElem? (i := 458) (by decide +kernel)), by decide +kernel⟩
theorem hw_459 : Cond.methodLink RX5 98 yX5_isIn ∈ lw_gd := List.mem_filter.mpr ⟨List.mem_append_right _ (List.mem_of_getElem? (i := 459) (by decide +kernel)), by decide +kernel⟩
theorem hw_460 : Cond.static yX5_isIn ∈ lw_gd := List.mem_filter.mpr ⟨List.mem_append_right _ (List.mem_of_getElem? (i := 460) (by decide +kernel)), by decide +kernel⟩
theorem hw_461 : Cond.code yX5_isIn cX5_isIn 6 (some .boolean) ∈ lw_gd := List.mem_filter.mpr ⟨List.mem_append_right _ (List.mem_of_getElem? (i := 461) (by decide +kernel)), by decide +kernel⟩
theorem hw_462 : Cond.methodLink RX5 102 yX5_multiplies ∈ lw_gd := List.mem_filter.mpr ⟨List.mem_append_right _ (List.mem_of_getElem? (i := 462) (by decide +kernel)), by decide +kernel⟩
theorem hx_463 : Cond.privateMethod yX5_multiplies ∈ lw_tbl := List.mem_append_right _ (List.mem_of_getElem? (i := 463) (by decide +kernel))
theorem hw_464 : Cond.instanceMethod yX5_multiplies ∈ lw_gd := List.mem_filter.mpr ⟨List.mem_append_right _ (List.mem_of_getElem? (i := 464) (by decide +kernel)), by decide +kernel⟩
theorem hw_465 : Cond.code yX5_multiplies cX5_multiplies 7 none ∈ lw_gd := List.mem_filter.mpr ⟨List.mem_append_right _ (List.mem_of_getElem? (i := 465) (by decide +kernel)), by decide +kernel⟩
theorem hw_466 : Cond.methodLink RL 26 yX5_add ∈ lw_gd := List.mem_filter.mpr ⟨List.mem_append_right _ (List.mem_of_getElem? (i := 466) (by decide +kernel)), by decide +kernel⟩
theorem hw_467 : Cond.instanceMethod yX5_add ∈ lw_gd := List.mem_filter.mpr ⟨List.mem_append_right _ (List.mem_of_getElem? (i := 467) (by decide +kernel)), by decide +kernel⟩
theorem hw_468 : Cond.selects RX5 yX5_add yX5_add ∈ lw_gd := List.mem_filter.mpr ⟨List.mem_append_right _ (List.mem_of_getElem? (i := 468) (by decide +kernel)), by decide +kernel⟩
theorem hw_469 : Cond.code yX5_add cX5_add 6 (some .int) ∈ lw_gd := List.mem_filter.mpr ⟨List.mem_append_right _ (List.mem_of_getElem? (i := 469) (by decide +kernel)), by decide +kernel⟩
theorem hw_470 : Cond.methodLink RX5 135 yX5_isForm ∈ lw_gd := List.mem_filter.mpr ⟨List.mem_append_right _ (List.mem_of_getElem? (i := 470) (by decide +kernel)), by decide +kernel⟩
theorem hx_471 : Cond.privateMethod yX5_isForm ∈ lw_tbl := List.mem_append_right _ (List.mem_of_getElem? (i := 471) (by decide +kernel))
theorem hw_472 : Cond.instanceMethod yX5_isForm ∈ lw_gd := List.mem_filter.mpr ⟨List.mem_append_right _ (List.mem_of_getElem? (i := 472) (by decide +kernel)), by decide +kernel⟩
theorem hw_473 : Cond.code yX5_isForm cX5_isForm 2 (some .boolean) ∈ lw_gd := List.mem_filter.mpr ⟨List.mem_append_right _ (List.mem_of_getElem? (i := 473) (by decide +kernel)), by decide +kernel⟩
theorem hw_474 : Cond.methodLink RX5 138 yX5_rest ∈ lw_gd := List.mem_filter.mpr ⟨List.mem_append_right _ (List.mem_of_getElem? (i := 474) (by decide +kernel)), by decide +kernel⟩
theorem hw_475 : Cond.static yX5_rest ∈ lw_gd := List.mem_filter.mpr ⟨List.mem_append_right _ (List.mem_of_getElem? (i := 475) (by decide +kernel)), by decide +kernel⟩
theorem hw_476 : Cond.code yX5_rest cX5_rest 1 (some .long) ∈ lw_gd := List.mem_filter.mpr ⟨List.mem_append_right _ (List.mem_of_getElem? (i := 476) (by decide +kernel)), by decide +kernel⟩
theorem hw_477 : Cond.methodLink RX5 142 yX5_made ∈ lw_gd := List.mem_filter.mpr ⟨List.mem_append_right _ (List.mem_of_getElem? (i := 477) (by decide +kernel)), by decide +kernel⟩
theorem hx_478 : Cond.privateMethod yX5_made ∈ lw_tbl := List.mem_append_right _ (List.mem_of_getElem? (i := 478) (by decide +kernel))
theorem hw_479 : Cond.instanceMethod yX5_made ∈ lw_gd := List.mem_filter.mpr ⟨List.mem_append_right _ (List.mem_of_getElem? (i := 479) (by decide +kernel)), by decide +kernel⟩
theorem hw_480 : Cond.code yX5_made cX5_made 2 (some .int) ∈ lw_gd := List.mem_filter.mpr ⟨List.mem_append_right _ (List.mem_of_getElem? (i := 480) (by decide +kernel)), by decide +kernel⟩
theorem hw_481 : Cond.methodLink RL 31 yX5_times ∈ lw_gd := List.mem_filter.mpr ⟨List.mem_append_right _ (List.mem_of_getElem? (i := 481) (by decide +kernel)), by decide +kernel⟩
theorem hw_482 : Cond.instanceMethod yX5_times ∈ lw_gd := List.mem_filter.mpr ⟨List.mem_append_right _ (List.mem_of_getElem? (i := 482) (by decide +kernel)), by decide +kernel⟩
theorem hw_483 : Cond.selects RX5 yX5_times yX5_times ∈ lw_gd := List.mem_filter.mpr ⟨List.mem_append_right _ (List.mem_of_getElem? (i := 483) (by decide +kernel)), by decide +kernel⟩
theorem hw_484 : Cond.code yX5_times cX5_times 3 (some .int) ∈ lw_gd := List.mem_filter.mpr ⟨List.mem_append_right _ (List.mem_of_getElem? (i := 484) (by decide +kernel)), by decide +kernel⟩
theorem hw_485 : Cond.methodLink RX5 145 yX5_takes ∈ lw_gd := List.mem_filter.mpr ⟨List.mem_append_right _ (List.mem_of_getElem? (i := 485) (by decide +kernel)), by decide +kernel⟩
theorem hx_486 : Cond.privateMethod yX5_takes ∈ lw_tbl := List.mem_append_right _ (List.mem_of_getElem? (i := 486) (by decide +kernel))
theorem hw_487 : Cond.instanceMethod yX5_takes ∈ lw_gd := List.mem_filter.mpr ⟨List.mem_append_right _ (List.mem_of_getElem? (i := 487) (by decide +kernel)), by decide +kernel⟩
theorem hw_488 : Cond.code yX5_takes cX5_takes 4 none ∈ lw_gd := List.mem_filter.mpr ⟨List.mem_append_right _ (List.mem_of_getElem? (i := 488) (by decide +kernel)), by decide +kernel⟩
theorem hw_489 : Cond.methodLink RL 35 yX5_power ∈ lw_gd := List.mem_filter.mpr ⟨List.mem_append_right _ (List.mem_of_getElem? (i := 489) (by decide +kernel)), by decide +kernel⟩
theorem hw_490 : Cond.instanceMethod yX5_power ∈ lw_gd := List.mem_filter.mpr ⟨List.mem_append_right _ (List.mem_of_getElem? (i := 490) (by decide +kernel)), by decide +kernel⟩
theorem hw_491 : Cond.selects RX5 yX5_power yX5_power ∈ lw_gd := List.mem_filter.mpr ⟨List.mem_append_right _ (List.mem_of_getElem? (i := 491) (by decide +kernel)), by decide +kernel⟩
theorem hw_492 : Cond.code yX5_power cX5_power 4 (some .int) ∈ lw_gd := List.mem_filter.mpr ⟨List.mem_append_right _ (List.mem_of_getElem? (i := 492) (by decide +kernel)), by decide +kernel⟩
theorem hw_493 : Cond.methodLink RL 39 yX5_slope ∈ lw_gd := List.mem_filter.mpr ⟨List.mem_append_right _ (List.mem_of_getElem? (i := 493) (by decide +kernel)), by decide +kernel⟩
theorem hw_494 : Cond.instanceMethod yX5_slope ∈ lw_gd := List.mem_filter.mpr ⟨List.mem_append_right _ (List.mem_of_getElem? (i := 494) (by decide +kernel)), by decide +kernel⟩
theorem hw_495 : Cond.selects RX5 yX5_slope yX5_slope ∈ lw_gd := List.mem_filter.mpr ⟨List.mem_append_right _ (List.mem_of_getElem? (i := 495) (by decide +kernel)), by decide +kernel⟩
theorem hw_496 : Cond.code yX5_slope cX5_slope 5 (some .int) ∈ lw_gd := List.mem_filter.mpr ⟨List.mem_append_right _ (List.mem_of_getElem? (i := 496) (by decide +kernel)), by decide +kernel⟩
theorem hw_497 : Cond.constantLong RX5 149 12 ∈ lw_gd := List.mem_filter.mpr ⟨List.mem_append_right _ (List.mem_of_getElem? (i := 497) (by decide +kernel)), by decide +kernel⟩
theorem hw_498 : Cond.methodLink RL 43 yX5_bracket ∈ lw_gd := List.mem_filter.mpr ⟨List.mem_append_right _ (List.mem_of_getElem? (i := 498) (by decide +kernel)), by decide +kernel⟩
theorem hw_499 : Cond.instanceMethod yX5_bracket ∈ lw_gd := List.mem_filter.mpr ⟨List.mem_append_right _ (List.mem_of_getElem? (i := 499) (by decide +kernel)), by decide +kernel⟩
theorem hw_500 : Cond.selects RX5 yX5_bracket yX5_bracket ∈ lw_gd := List.mem_filter.mpr ⟨List.mem_append_right _ (List.mem_of_getElem? (i := 500) (by decide +kernel)), by decide +kernel⟩
theorem hw_501 : Cond.code yX5_bracket cX5_bracket 4 (some .int) ∈ lw_gd := List.mem_filter.mpr ⟨List.mem_append_right _ (List.mem_of_getElem? (i := 501) (by decide +kernel)), by decide +kernel⟩
theorem hw_502 : Cond.methodLink RL 47 yX5_over ∈ lw_gd := List.mem_filter.mpr ⟨List.mem_append_right _ (List.mem_of_getElem? (i := 502) (by decide +kernel)), by decide +kernel⟩
theorem hw_503 : Cond.instanceMethod yX5_over ∈ lw_gd := List.mem_filter.mpr ⟨List.mem_append_right _ (List.mem_of_getElem? (i := 503) (by decide +kernel)), by decide +kernel⟩
theorem hw_504 : Cond.selects RX5 yX5_over yX5_over ∈ lw_gd := List.mem_filter.mpr ⟨List.mem_append_right _ (List.mem_of_getElem? (i := 504) (by decide +kernel)), by decide +kernel⟩
theorem hw_505 : Cond.code yX5_over cX5_over 2 (some .int) ∈ lw_gd := List.mem_filter.mpr ⟨List.mem_append_right _ (List.mem_of_getElem? (i := 505) (by decide +kernel)), by decide +kernel⟩
theorem hw_506 : Cond.methodLink RX5 151 yX5_finds ∈ lw_gd := List.mem_filter.mpr ⟨List.mem_append_right _ (List.mem_of_getElem? (i := 506) (by decide +kernel)), by decide +kernel⟩
theorem hx_507 : Cond.privateMethod yX5_finds ∈ lw_tbl := List.mem_append_right _ (List.mem_of_getElem? (i := 507) (by decide +kernel))
theorem hw_508 : Cond.instanceMethod yX5_finds ∈ lw_gd := List.mem_filter.mpr ⟨List.mem_append_right _ (List.mem_of_getElem? (i := 508) (by decide +kernel)), by decide +kernel⟩
theorem hw_509 : Cond.code yX5_finds cX5_finds 6 none ∈ lw_gd := List.mem_filter.mpr ⟨List.mem_append_right _ (List.mem_of_getElem? (i := 509) (by decide +kernel)), by decide +kernel⟩
theorem hw_510 : Cond.methodLink RX5 106 yX5_sizeOf ∈ lw_gd := List.mem_filter.mpr ⟨List.mem_append_right _ (List.mem_of_getElem? (i := 510) (by decide +kernel)), by decide +kernel⟩
theorem hw_511 : Cond.static yX5_sizeOf ∈ lw_gd := List.mem_filter.mpr ⟨List.mem_append_right _ (List.mem_of_getElem? (i := 511) (by decide +kernel)), by decide +kernel⟩
theorem hw_512 : Cond.code yX5_sizeOf cX5_sizeOf 2 (some .int) ∈ lw_gd := List.mem_filter.mpr ⟨List.mem_append_right _ (List.mem_of_getElem? (i := 512) (by decide +kernel)), by decide +kernel⟩
theorem hw_513 : Cond.methodLink RX5 92 yX5_isRest ∈ lw_gd := List.mem_filter.mpr ⟨List.mem_append_right _ (List.mem_of_getElem? (i := 513) (by decide +kernel)), by decide +kernel⟩
theorem hw_514 : Cond.static yX5_isRest ∈ lw_gd := List.mem_filter.mpr ⟨List.mem_append_right _ (List.mem_of_getElem? (i := 514) (by decide +kernel)), by decide +kernel⟩
theorem hw_515 : Cond.code yX5_isRest cX5_isRest 1 (some .boolean) ∈ lw_gd := List.mem_filter.mpr ⟨List.mem_append_right _ (List.mem_of_getElem? (i := 515) (by decide +kernel)), by decide +kernel⟩
theorem hw_516 : Cond.methodLink RX5 110 yX5_fillBasis ∈ lw_gd := List.mem_filter.mpr ⟨List.mem_append_right _ (List.mem_of_getElem? (i := 516) (by decide +kernel)), by decide +kernel⟩
theorem hx_517 : Cond.privateMethod yX5_fillBasis ∈ lw_tbl := List.mem_append_right _ (List.mem_of_getElem? (i := 517) (by decide +kernel))
theorem hw_518 : Cond.instanceMethod yX5_fillBasis ∈ lw_gd := List.mem_filter.mpr ⟨List.mem_append_right _ (List.mem_of_getElem? (i := 518) (by decide +kernel)), by decide +kernel⟩
theorem hw_519 : Cond.code yX5_fillBasis cX5_fillBasis 6 none ∈ lw_gd := List.mem_filter.mpr ⟨List.mem_append_right _ (List.mem_of_getElem? (i := 519) (by decide +kernel)), by decide +kernel⟩
theorem hw_520 : Cond.methodLink RX5 154 yX5_builds ∈ lw_gd := List.mem_filter.mpr ⟨List.mem_append_right _ (List.mem_of_getElem? (i := 520) (by decide +kernel)), by decide +kernel⟩
theorem hx_521 : Cond.privateMethod yX5_builds ∈ lw_tbl := List.mem_append_right _ (List.mem_of_getElem? (i := 521) (by decide +kernel))
theorem hw_522 : Cond.instanceMethod yX5_builds ∈ lw_gd := List.mem_filter.mpr ⟨List.mem_append_right _ (List.mem_of_getElem? (i := 522) (by decide +kernel)), by decide +kernel⟩
theorem hw_523 : Cond.code yX5_builds cX5_builds 5 none ∈ lw_gd := List.mem_filter.mpr ⟨List.mem_append_right _ (List.mem_of_getElem? (i := 523) (by decide +kernel)), by decide +kernel⟩
theorem hw_524 : Cond.methodLink RL 51 yX5_prime ∈ lw_gd := List.mem_filter.mpr ⟨List.mem_append_right _ (List.mem_of_getElem? (i := 524) (by decide +kernel)), by decide +kernel⟩
theorem hw_525 : Cond.instanceMethod yX5_prime ∈ lw_gd := List.mem_filter.mpr ⟨List.mem_append_right _ (List.mem_of_getElem? (i := 525) (by decide +kernel)), by decide +kernel⟩
theorem hw_526 : Cond.selects RX5 yX5_prime yX5_prime ∈ lw_gd := List.mem_filter.mpr ⟨List.mem_append_right _ (List.mem_of_getElem? (i := 526) (by decide +kernel)), by decide +kernel⟩
theorem hw_527 : Cond.code yX5_prime cX5_prime 3 (some .int) ∈ lw_gd := List.mem_filter.mpr ⟨List.mem_append_right _ (List.mem_of_getElem? (i := 527) (by decide +kernel)), by decide +kernel⟩
theorem hw_528 : Cond.methodLink RX5 157 yX5_isPrime ∈ lw_gd := List.mem_filter.mpr ⟨List.mem_append_right _ (List.mem_of_getElem? (i := 528) (by decide +kernel)), by decide +kernel⟩
theorem hw_529 : Cond.static yX5_isPrime ∈ lw_gd := List.mem_filter.mpr ⟨List.mem_append_right _ (List.mem_of_getElem? (i := 529) (by decide +kernel)), by decide +kernel⟩
theorem hw_530 : Cond.code yX5_isPrime cX5_isPrime 1 (some .boolean) ∈ lw_gd := List.mem_filter.mpr ⟨List.mem_append_right _ (List.mem_of_getElem? (i := 530) (by decide +kernel)), by decide +kernel⟩
theorem hw_531 : Cond.methodLink RX5 160 yX5_doesTo ∈ lw_gd := List.mem_filter.mpr ⟨List.mem_append_right _ (List.mem_of_getElem? (i := 531) (by decide +kernel)), by decide +kernel⟩
theorem hx_532 : Cond.privateMethod yX5_doesTo ∈ lw_tbl := List.mem_append_right _ (List.mem_of_getElem? (i := 532) (by decide +kernel))
theorem hw_533 : Cond.instanceMethod yX5_doesTo ∈ lw_gd := List.mem_filter.mpr ⟨List.mem_append_right _ (List.mem_of_getElem? (i := 533) (by decide +kernel)), by decide +kernel⟩
theorem hw_534 : Cond.code yX5_doesTo cX5_doesTo 5 none ∈ lw_gd := List.mem_filter.mpr ⟨List.mem_append_right _ (List.mem_of_getElem? (i := 534) (by decide +kernel)), by decide +kernel⟩
theorem hw_535 : Cond.methodLink RL 55 yX5_basis ∈ lw_gd := List.mem_filter.mpr ⟨List.mem_append_right _ (List.mem_of_getElem? (i := 535) (by decide +kernel)), by decide +kernel⟩
theorem hw_536 : Cond.instanceMethod yX5_basis ∈ lw_gd := List.mem_filter.mpr ⟨List.mem_append_right _ (List.mem_of_getElem? (i := 536) (by decide +kernel)), by decide +kernel⟩
theorem hw_537 : Cond.selects RX5 yX5_basis yX5_basis ∈ lw_gd := List.mem_filter.mpr ⟨List.mem_append_right _ (List.mem_of_getElem? (i := 537) (by decide +kernel)), by decide +kernel⟩
theorem hw_538 : Cond.code yX5_basis cX5_basis 4 (some .int) ∈ lw_gd := List.mem_filter.mpr ⟨List.mem_append_right _ (List.mem_of_getElem? (i := 538) (by decide +kernel)), by decide +kernel⟩
theorem hw_539 : Cond.methodLink RX5 163 yX5_isWeight ∈ lw_gd := List.mem_filter.mpr ⟨List.mem_append_right _ (List.mem_of_getElem? (i := 539) (by decide +kernel)), by decide +kernel⟩
theorem hw_540 : Cond.static yX5_isWeight ∈ lw_gd := List.mem_filter.mpr ⟨List.mem_append_right _ (List.mem_of_getElem? (i := 540) (by decide +kernel)), by decide +kernel⟩
theorem hw_541 : Cond.code yX5_isWeight cX5_isWeight 1 (some .boolean) ∈ lw_gd := List.mem_filter.mpr ⟨List.mem_append_right _ (List.mem_of_getElem? (i := 541) (by decide +kernel)), by decide +kernel⟩
theorem hw_542 : Cond.constantLong RX5 96 40 ∈ lw_gd := List.mem_filter.mpr ⟨List.mem_append_right _ (List.mem_of_getElem? (i := 542) (by decide +kernel)), by decide +kernel⟩
theorem hw_543 : Cond.methodLink RL 60 yX5_drop ∈ lw_gd := List.mem_filter.mpr ⟨List.mem_append_right _ (List.mem_of_getElem? (i := 543) (by decide +kernel)), by decide +kernel⟩
theorem hw_544 : Cond.instanceMethod yX5_drop ∈ lw_gd := List.mem_filter.mpr ⟨List.mem_append_right _ (List.mem_of_getElem? (i := 544) (by decide +kernel)), by decide +kernel⟩
theorem hw_545 : Cond.selects RX5 yX5_drop yX5_drop ∈ lw_gd := List.mem_filter.mpr ⟨List.mem_append_right _ (List.mem_of_getElem? (i := 545) (by decide +kernel)), by decide +kernel⟩
theorem hw_546 : Cond.code yX5_drop cX5_drop 1 (some .int) ∈ lw_gd := List.mem_filter.mpr ⟨List.mem_append_right _ (List.mem_of_getElem? (i := 546) (by decide +kernel)), by decide +kernel⟩
theorem hw_547 : Cond.methodLink RL 64 yX5_look ∈ lw_gd := List.mem_filter.mpr ⟨List.mem_append_right _ (List.mem_of_getElem? (i := 547) (by decide +kernel)), by decide +kernel⟩
theorem hw_548 : Cond.instanceMethod yX5_look ∈ lw_gd := List.mem_filter.mpr ⟨List.mem_append_right _ (List.mem_of_getElem? (i := 548) (by decide +kernel)), by decide +kernel⟩
theorem hw_549 : Cond.selects RX5 yX5_look yX5_look ∈ lw_gd := List.mem_filter.mpr ⟨List.mem_append_right _ (List.mem_of_getElem? (i := 549) (by decide +kernel)), by decide +kernel⟩
theorem hw_550 : Cond.code yX5_look cX5_look 3 (some .int) ∈ lw_gd := List.mem_filter.mpr ⟨List.mem_append_right _ (List.mem_of_getElem? (i := 550) (by decide +kernel)), by decide +kernel⟩
theorem hw_551 : Cond.methodLink RX5 166 yX5_leastOf ∈ lw_gd := List.mem_filter.mpr ⟨List.mem_append_right _ (List.mem_of_getElem? (i := 551) (by decide +kernel)), by decide +kernel⟩
theorem hx_552 : Cond.privateMethod yX5_leastOf ∈ lw_tbl := List.mem_append_right _ (List.mem_of_getElem? (i := 552) (by decide +kernel))
theorem hw_553 : Cond.instanceMethod yX5_leastOf ∈ lw_gd := List.mem_filter.mpr ⟨List.mem_append_right _ (List.mem_of_getElem? (i := 553) (by decide +kernel)), by decide +kernel⟩
theorem hw_554 : Cond.code yX5_leastOf cX5_leastOf 3 (some .int) ∈ lw_gd := List.mem_filter.mpr ⟨List.mem_append_right _ (List.mem_of_getElem? (i := 554) (by decide +kernel)), by decide +kernel⟩
theorem hw_555 : Cond.methodLink RL 68 yX5_at ∈ lw_gd := List.mem_filter.mpr ⟨List.mem_append_right _ (List.mem_of_getElem? (i := 555) (by decide +kernel)), by decide +kernel⟩
theorem hw_556 : Cond.instanceMethod yX5_at ∈ lw_gd := List.mem_filter.mpr ⟨List.mem_append_right _ (List.mem_of_getElem? (i := 556) (by decide +kernel)), by decide +kernel⟩
theorem hw_557 : Cond.selects RX5 yX5_at yX5_at ∈ lw_gd := List.mem_filter.mpr ⟨List.mem_append_right _ (List.mem_of_getElem? (i := 557) (by decide +kernel)), by decide +kernel⟩
theorem hw_558 : Cond.code yX5_at cX5_at 3 (some .int) ∈ lw_gd := List.mem_filter.mpr ⟨List.mem_append_right _ (List.mem_of_getElem? (i := 558) (by decide +kernel)), by decide +kernel⟩
theorem hw_559 : Cond.constantLong RX5 169 47 ∈ lw_gd := List.mem_filter.mpr ⟨List.mem_append_right _ (List.mem_of_getElem? (i := 559) (by decide +kernel)), by decide +kernel⟩
theorem hw_560 : Cond.methodLink RL 72 yX5_part ∈ lw_gd := List.mem_filter.mpr ⟨List.mem_append_right _ (List.mem_of_getElem? (i := 560) (by decide +kernel)), by decide +kernel⟩
theorem hw_561 : Cond.instanceMethod yX5_part ∈ lw_gd := List.mem_filter.mpr ⟨List.mem_append_right _ (List.mem_of_getElem? (i := 561) (by decide +kernel)), by decide +kernel⟩
theorem hw_562 : Cond.selects RX5 yX5_part yX5_part ∈ lw_gd := List.mem_filter.mpr ⟨List.mem_append_right _ (List.mem_of_getElem? (i := 562) (by decide +kernel)), by decide +kernel⟩
theorem hw_563 : Cond.code yX5_part cX5_part 3 (some .int) ∈ lw_gd := List.mem_filter.mpr ⟨List.mem_append_right _ (List.mem_of_getElem? (i := 563) (by decide +kernel)), by decide +kernel⟩
theorem hw_564 : Cond.methodLink RL 76 yX5_same ∈ lw_gd := List.mem_filter.mpr ⟨List.mem_append_right _ (List.mem_of_getElem? (i := 564) (by decide +kernel)), by decide +kernel⟩
theorem hw_565 : Cond.instanceMethod yX5_same ∈ lw_gd := List.mem_filter.mpr ⟨List.mem_append_right _ (List.mem_of_getElem? (i := 565) (by decide +kernel)), by decide +kernel⟩
theorem hw_566 : Cond.selects RX5 yX5_same yX5_same ∈ lw_gd := List.mem_filter.mpr ⟨List.mem_append_right _ (List.mem_of_getElem? (i := 566) (by decide +kernel)), by decide +kernel⟩
theorem hw_567 : Cond.code yX5_same cX5_same 4 (some .int) ∈ lw_gd := List.mem_filter.mpr ⟨List.mem_append_right _ (List.mem_of_getElem? (i := 567) (by decide +kernel)), by decide +kernel⟩
theorem hw_568 : Cond.methodLink RX5 171 yX5_firstApart ∈ lw_gd := List.mem_filter.mpr ⟨List.mem_append_right _ (List.mem_of_getElem? (i := 568) (by decide +kernel)), by decide +kernel⟩
theorem hx_569 : Cond.privateMethod yX5_firstApart ∈ lw_tbl := List.mem_append_right _ (List.mem_of_getElem? (i := 569) (by decide +kernel))
theorem hw_570 : Cond.instanceMethod yX5_firstApart ∈ lw_gd := List.mem_filter.mpr ⟨List.mem_append_right _ (List.mem_of_getElem? (i := 570) (by decide +kernel)), by decide +kernel⟩
theorem hw_571 : Cond.code yX5_firstApart cX5_firstApart 4 (some .int) ∈ lw_gd := List.mem_filter.mpr ⟨List.mem_append_right _ (List.mem_of_getElem? (i := 571) (by decide +kernel)), by decide +kernel⟩
theorem hw_572 : Cond.methodLink RL 80 yX5_apart ∈ lw_gd := List.mem_filter.mpr ⟨List.mem_append_right _ (List.mem_of_getElem? (i := 572) (by decide +kernel)), by decide +kernel⟩
theorem hw_573 : Cond.instanceMethod yX5_apart ∈ lw_gd := List.mem_filter.mpr ⟨List.mem_append_right _ (List.mem_of_getElem? (i := 573) (by decide +kernel)), by decide +kernel⟩
theorem hw_574 : Cond.selects RX5 yX5_apart yX5_apart ∈ lw_gd := List.mem_filter.mpr ⟨List.mem_append_right _ (List.mem_of_getElem? (i := 574) (by decide +kernel)), by decide +kernel⟩
theorem hw_575 : Cond.code yX5_apart cX5_apart 3 (some .int) ∈ lw_gd := List.mem_filter.mpr ⟨List.mem_append_right _ (List.mem_of_getElem? (i := 575) (by decide +kernel)), by decide +kernel⟩
theorem hw_576 : Cond.methodLink RL 84 yX5_size ∈ lw_gd := List.mem_filter.mpr ⟨List.mem_append_right _ (List.mem_of_getElem? (i := 576) (by decide +kernel)), by decide +kernel⟩
theorem hw_577 : Cond.instanceMethod yX5_size ∈ lw_gd := List.mem_filter.mpr ⟨List.mem_append_right _ (List.mem_of_getElem? (i := 577) (by decide +kernel)), by decide +kernel⟩
theorem hw_578 : Cond.selects RX5 yX5_size yX5_size ∈ lw_gd := List.mem_filter.mpr ⟨List.mem_append_right _ (List.mem_of_getElem? (i := 578) (by decide +kernel)), by decide +kernel⟩
theorem hw_579 : Cond.code yX5_size cX5_size 2 (some .int) ∈ lw_gd := List.mem_filter.mpr ⟨List.mem_append_right _ (List.mem_of_getElem? (i := 579) (by decide +kernel)), by decide +kernel⟩
theorem hw_580 : Cond.methodLink RL 88 yX5_own ∈ lw_gd := List.mem_filter.mpr ⟨List.mem_append_right _ (List.mem_of_getElem? (i := 580) (by decide +kernel)), by decide +kernel⟩
theorem hw_581 : Cond.instanceMethod yX5_own ∈ lw_gd := List.mem_filter.mpr ⟨List.mem_append_right _ (List.mem_of_getElem? (i := 581) (by decide +kernel)), by decide +kernel⟩
theorem hw_582 : Cond.selects RX5 yX5_own yX5_own ∈ lw_gd := List.mem_filter.mpr ⟨List.mem_append_right _ (List.mem_of_getElem? (i := 582) (by decide +kernel)), by decide +kernel⟩
theorem hw_583 : Cond.code yX5_own cX5_own 7 (some .int) ∈ lw_gd := List.mem_filter.mpr ⟨List.mem_append_right _ (List.mem_of_getElem? (i := 583) (by decide +kernel)), by decide +kernel⟩
theorem hw_584 : Cond.methodLink RL 93 yX5_trace ∈ lw_gd := List.mem_filter.mpr ⟨List.mem_append_right _ (List.mem_of_getElem? (i := 584) (by decide +kernel)), by decide +kernel⟩
theorem hw_585 : Cond.instanceMethod yX5_trace ∈ lw_gd := List.mem_filter.mpr ⟨List.mem_append_right _ (List.mem_of_getElem? (i := 585) (by decide +kernel)), by decide +kernel⟩
theorem hw_586 : Cond.selects RX5 yX5_trace yX5_trace ∈ lw_gd := List.mem_filter.mpr ⟨List.mem_append_right _ (List.mem_of_getElem? (i := 586) (by decide +kernel)), by decide +kernel⟩
theorem hw_587 : Cond.code yX5_trace cX5_trace 8 (some .int) ∈ lw_gd := List.mem_filter.mpr ⟨List.mem_append_right _ (List.mem_of_getElem? (i := 587) (by decide +kernel)), by decide +kernel⟩
theorem hw_588 : Cond.methodLink RL 97 yX5_squares ∈ lw_gd := List.mem_filter.mpr ⟨List.mem_append_right _ (List.mem_of_getElem? (i := 588) (by decide +kernel)), by decide +kernel⟩
theorem hw_589 : Cond.instanceMethod yX5_squares ∈ lw_gd := List.mem_filter.mpr ⟨List.mem_append_right _ (List.mem_of_getElem? (i := 589) (by decide +kernel)), by decide +kernel⟩
theorem hw_590 : Cond.selects RX5 yX5_squares yX5_squares ∈ lw_gd := List.mem_filter.mpr ⟨List.mem_append_right _ (List.mem_of_getElem? (i := 590) (by decide +kernel)), by decide +kernel⟩
theorem hw_591 : Cond.code yX5_squares cX5_squares 6 (some .int) ∈ lw_gd := List.mem_filter.mpr ⟨List.mem_append_right _ (List.mem_of_getElem? (i := 591) (by decide +kernel)), by decide +kernel⟩
theorem hw_592 : Cond.constantLong RX5 175 8 ∈ lw_gd := List.mem_filter.mpr ⟨List.mem_append_right _ (List.mem_of_getElem? (i := 592) (by decide +kernel)), by decide +kernel⟩
theorem hw_593 : Cond.constantLong RX5 177 99 ∈ lw_gd := List.mem_filter.mpr ⟨List.mem_append_right _ (List.mem_of_getElem? (i := 593) (by decide +kernel)), by decide +kernel⟩
theorem hw_594 : Cond.methodLink RL 101 yX5_count ∈ lw_gd := List.mem_filter.mpr ⟨List.mem_append_right _ (List.mem_of_getElem? (i := 594) (by decide +kernel)), by decide +kernel⟩
theorem hw_595 : Cond.instanceMethod yX5_count ∈ lw_gd := List.mem_filter.mpr ⟨List.mem_append_right _ (List.mem_of_getElem? (i := 595) (by decide +kernel)), by decide +kernel⟩
theorem hw_596 : Cond.selects RX5 yX5_count yX5_count ∈ lw_gd := List.mem_filter.mpr ⟨List.mem_append_right _ (List.mem_of_getElem? (i := 596) (by decide +kernel)), by decide +kernel⟩
theorem hw_597 : Cond.code yX5_count cX5_count 1 (some .int) ∈ lw_gd := List.mem_filter.mpr ⟨List.mem_append_right _ (List.mem_of_getElem? (i := 597) (by decide +kernel)), by decide +kernel⟩
theorem hw_598 : Cond.methodLink RL 105 yX5_lay ∈ lw_gd := List.mem_filter.mpr ⟨List.mem_append_right _ (List.mem_of_getElem? (i := 598) (by decide +kernel)), by decide +kernel⟩
theorem hw_599 : Cond.instanceMethod yX5_lay ∈ lw_gd := List.mem_filter.mpr ⟨List.mem_append_right _ (List.mem_of_getElem? (i := 599) (by decide +kernel)), by decide +kernel⟩
theorem hw_600 : Cond.selects RX5 yX5_lay yX5_lay ∈ lw_gd := List.mem_filter.mpr ⟨List.mem_append_right _ (List.mem_of_getElem? (i := 600) (by decide +kernel)), by decide +kernel⟩
theorem hw_601 : Cond.code yX5_lay cX5_lay 4 (some .int) ∈ lw_gd := List.mem_filter.mpr ⟨List.mem_append_right _ (List.mem_of_getElem? (i := 601) (by decide +kernel)), by decide +kernel⟩
theorem hw_602 : Cond.methodLink RL 109 yX5_tell ∈ lw_gd := List.mem_filter.mpr ⟨List.mem_append_right _ (List.mem_of_getElem? (i := 602) (by decide +kernel)), by decide +kernel⟩
theorem hw_603 : Cond.instanceMethod yX5_tell ∈ lw_gd := List.mem_filter.mpr ⟨List.mem_append_right _ (List.mem_of_getElem? (i := 603) (by decide +kernel)), by decide +kernel⟩
theorem hw_604 : Cond.selects RX5 yX5_tell yX5_tell ∈ lw_gd := List.mem_filter.mpr ⟨List.mem_append_right _ (List.mem_of_getElem? (i := 604) (by decide +kernel)), by decide +kernel⟩
theorem hw_605 : Cond.code yX5_tell cX5_tell 4 (some .int) ∈ lw_gd := List.mem_filter.mpr ⟨List.mem_append_right _ (List.mem_of_getElem? (i := 605) (by decide +kernel)), by decide +kernel⟩
theorem hw_606 : Cond.methodLink RL 113 yX5_give ∈ lw_gd := List.mem_filter.mpr ⟨List.mem_append_right _ (List.mem_of_getElem? (i := 606) (by decide +kernel)), by decide +kernel⟩
theorem hw_607 : Cond.instanceMethod yX5_give ∈ lw_gd := List.mem_filter.mpr ⟨List.mem_append_right _ (List.mem_of_getElem? (i := 607) (by decide +kernel)), by decide +kernel⟩
theorem hw_608 : Cond.selects RX5 yX5_give yX5_give ∈ lw_gd := List.mem_filter.mpr ⟨List.mem_append_right _ (List.mem_of_getElem? (i := 608) (by decide +kernel)), by decide +kernel⟩
theorem hw_609 : Cond.code yX5_give cX5_give 3 (some .int) ∈ lw_gd := List.mem_filter.mpr ⟨List.mem_append_right _ (List.mem_of_getElem? (i := 609) (by decide +kernel)), by decide +kernel⟩
theorem hw_610 : Cond.methodLink RL 117 yX5_tear ∈ lw_gd := List.mem_filter.mpr ⟨List.mem_append_right _ (List.mem_of_getElem? (i := 610) (by decide +kernel)), by decide +kernel⟩
theorem hw_611 : Cond.instanceMethod yX5_tear ∈ lw_gd := List.mem_filter.mpr ⟨List.mem_append_right _ (List.mem_of_getElem? (i := 611) (by decide +kernel)), by decide +kernel⟩
theorem hw_612 : Cond.selects RX5 yX5_tear yX5_tear ∈ lw_gd := List.mem_filter.mpr ⟨List.mem_append_right _ (List.mem_of_getElem? (i := 612) (by decide +kernel)), by decide +kernel⟩
theorem hw_613 : Cond.code yX5_tear cX5_tear 2 (some .int) ∈ lw_gd := List.mem_filter.mpr ⟨List.mem_append_right _ (List.mem_of_getElem? (i := 613) (by decide +kernel)), by decide +kernel⟩
theorem hw_614 : Cond.methodLink RL 121 yX5_row ∈ lw_gd := List.mem_filter.mpr ⟨List.mem_append_right _ (List.mem_of_getElem? (i := 614) (by decide +kernel)), by decide +kernel⟩
theorem hw_615 : Cond.instanceMethod yX5_row ∈ lw_gd := List.mem_filter.mpr ⟨List.mem_append_right _ (List.mem_of_getElem? (i := 615) (by decide +kernel)), by decide +kernel⟩
theorem hw_616 : Cond.selects RX5 yX5_row yX5_row ∈ lw_gd := List.mem_filter.mpr ⟨List.mem_append_right _ (List.mem_of_getElem? (i := 616) (by decide +kernel)), by decide +kernel⟩
theorem hw_617 : Cond.code yX5_row cX5_row 2 (some .int) ∈ lw_gd := List.mem_filter.mpr ⟨List.mem_append_right _ (List.mem_of_getElem? (i := 617) (by decide +kernel)), by decide +kernel⟩
theorem hw_618 : Cond.methodLink RL 126 yX5_copy ∈ lw_gd := List.mem_filter.mpr ⟨List.mem_append_right _ (List.mem_of_getElem? (i := 618) (by decide +kernel)), by decide +kernel⟩
theorem hw_619 : Cond.instanceMethod yX5_copy ∈ lw_gd := List.mem_filter.mpr ⟨List.mem_append_right _ (List.mem_of_getElem? (i := 619) (by decide +kernel)), by decide +kernel⟩
theorem hw_620 : Cond.selects RX5 yX5_copy yX5_copy ∈ lw_gd := List.mem_filter.mpr ⟨List.mem_append_right _ (List.mem_of_getElem? (i := 620) (by decide +kernel)), by decide +kernel⟩
theorem hw_621 : Cond.code yX5_copy cX5_copy 5 (some .int) ∈ lw_gd := List.mem_filter.mpr ⟨List.mem_append_right _ (List.mem_of_getElem? (i := 621) (by decide +kernel)), by decide +kernel⟩
theorem hw_622 : Cond.methodLink RL 130 yX5_status ∈ lw_gd := List.mem_filter.mpr ⟨List.mem_append_right _ (List.mem_of_getElem? (i := 622) (by decide +kernel)), by decide +kernel⟩
theorem hw_623 : Cond.instanceMethod yX5_status ∈ lw_gd := List.mem_filter.mpr ⟨List.mem_append_right _ (List.mem_of_getElem? (i := 623) (by decide +kernel)), by decide +kernel⟩
theorem hw_624 : Cond.selects RX5 yX5_status yX5_status ∈ lw_gd := List.mem_filter.mpr ⟨List.mem_append_right _ (List.mem_of_getElem? (i := 624) (by decide +kernel)), by decide +kernel⟩
theorem hw_625 : Cond.code yX5_status cX5_status 2 (some .int) ∈ lw_gd := List.mem_filter.mpr ⟨List.mem_append_right _ (List.mem_of_getElem? (i := 625) (by decide +kernel)), by decide +kernel⟩
theorem hw_626 : Cond.constantLong RX5 179 (-8) ∈ lw_gd := List.mem_filter.mpr ⟨List.mem_append_right _ (List.mem_of_getElem? (i := 626) (by decide +kernel)), by decide +kernel⟩
theorem hw_627 : Cond.constantLong RX5 181 (-2) ∈ lw_gd := List.mem_filter.mpr ⟨List.mem_append_right _ (List.mem_of_getElem? (i := 627) (by decide +kernel)), by decide +kernel⟩
theorem hs_yX4_refuse : Cond.selects RX4 yX4_refuse yX4_refuse ∈ lw_gd := List.mem_filter.mpr ⟨List.mem_append_left _ (List.mem_of_getElem? (i := 0) (by decide +kernel)), by decide +kernel⟩
theorem hs_yX4_hasRoom : Cond.selects RX4 yX4_hasRoom yX4_hasRoom ∈ lw_gd := List.mem_filter.mpr ⟨List.mem_append_left _ (List.mem_of_getElem? (i := 1) (by decide +kernel)), by decide +kernel⟩
theorem hs_yX4_comeAsTold : Cond.selects RX4 yX4_comeAsTold yX4_comeAsTold ∈ lw_gd := List.mem_filter.mpr ⟨List.mem_append_left _ (List.mem_of_getElem? (i := 2) (by decide +kernel)), by decide +kernel⟩
theorem hs_yX4_isForm : Cond.selects RX4 yX4_isForm yX4_isForm ∈ lw_gd := List.mem_filter.mpr ⟨List.mem_append_left _ (List.mem_of_getElem? (i := 3) (by decide +kernel)), by decide +kernel⟩
theorem hs_yX4_comeOfOthers : Cond.selects RX4 yX4_comeOfOthers yX4_comeOfOthers ∈ lw_gd := List.mem_filter.mpr ⟨List.mem_append_left _ (List.mem_of_getElem? (i := 4) (by decide +kernel)), by decide +kernel⟩
theorem hs_yX0_makeRows : Cond.selects RX0 yX0_makeRows yX0_makeRows ∈ lw_gd := List.mem_filter.mpr ⟨List.mem_append_left _ (List.mem_of_getElem? (i := 5) (by decide +kernel)), by decide +kernel⟩
theorem hs_yX4_takeOneSquareMore : Cond.selects RX4 yX4_takeOneSquareMore yX4_takeOneSquareMore ∈ lw_gd := List.mem_filter.mpr ⟨List.mem_append_left _ (List.mem_of_getElem? (i := 6) (by decide +kernel)), by decide +kernel⟩
theorem hs_yX5_no : Cond.selects RX5 yX5_no yX5_no ∈ lw_gd := List.mem_filter.mpr ⟨List.mem_append_left _ (List.mem_of_getElem? (i := 7) (by decide +kernel)), by decide +kernel⟩
theorem hs_yX5_comes : Cond.selects RX5 yX5_comes yX5_comes ∈ lw_gd := List.mem_filter.mpr ⟨List.mem_append_left _ (List.mem_of_getElem? (i := 8) (by decide +kernel)), by decide +kernel⟩
theorem hs_yX5_multiplies : Cond.selects RX5 yX5_multiplies yX5_multiplies ∈ lw_gd := List.mem_filter.mpr ⟨List.mem_append_left _ (List.mem_of_getElem? (i := 9) (by decide +kernel)), by decide +kernel⟩
theorem hs_yX5_isForm : Cond.selects RX5 yX5_isForm yX5_isForm ∈ lw_gd := List.mem_filter.mpr ⟨List.mem_append_left _ (List.mem_of_getElem? (i := 10) (by decide +kernel)), by decide +kernel⟩
theorem hs_yX5_made : Cond.selects RX5 yX5_made yX5_made ∈ lw_gd := List.mem_filter.mpr ⟨List.mem_append_left _ (List.mem_of_getElem? (i := 11) (by decide +kernel)), by decide +kernel⟩
theorem hs_yX5_takes : Cond.selects RX5 yX5_takes yX5_takes ∈ lw_gd := List.mem_filter.mpr ⟨List.mem_append_left _ (List.mem_of_getElem? (i := 12) (by decide +kernel)), by decide +kernel⟩
theorem hs_yX5_finds : Cond.selects RX5 yX5_finds yX5_finds ∈ lw_gd := List.mem_filter.mpr ⟨List.mem_append_left _ (List.mem_of_getElem? (i := 13) (by decide +kernel)), by decide +kernel⟩
theorem hs_yX5_fillBasis : Cond.selects RX5 yX5_fillBasis yX5_fillBasis ∈ lw_gd := List.mem_filter.mpr ⟨List.mem_append_left _ (List.mem_of_getElem? (i := 14) (by decide +kernel)), by decide +kernel⟩
theorem hs_yX5_builds : Cond.selects RX5 yX5_builds yX5_builds ∈ lw_gd := List.mem_filter.mpr ⟨List.mem_append_left _ (List.mem_of_getElem? (i := 15) (by decide +kernel)), by decide +kernel⟩
theorem hs_yX5_doesTo : Cond.selects RX5 yX5_doesTo yX5_doesTo ∈ lw_gd := List.mem_filter.mpr ⟨List.mem_append_left _ (List.mem_of_getElem? (i := 16) (by decide +kernel)), by decide +kernel⟩
theorem hs_yX5_leastOf : Cond.selects RX5 yX5_leastOf yX5_leastOf ∈ lw_gd := List.mem_filter.mpr ⟨List.mem_append_left _ (List.mem_of_getElem? (i := 17) (by decide +kernel)), by decide +kernel⟩
theorem hs_yX5_firstApart : Cond.selects RX5 yX5_firstApart yX5_firstApart ∈ lw_gd := List.mem_filter.mpr ⟨List.mem_append_left _ (List.mem_of_getElem? (i := 18) (by decide +kernel)), by decide +kernel⟩
end
section
theorem dJ9_floorMod_f86c9_0 : decode cJ9_floorMod_f86c9 0 = .ok (.lload_n 0, 1) := by decide +kernel
theorem dJ9_floorMod_f86c9_1 : decode cJ9_floorMod_f86c9 1 = .ok (.lload_n 2, 1) := by decide +kernel
theorem dJ9_floorMod_f86c9_2 : decode cJ9_floorMod_f86c9 2 = .ok (.lrem, 1) := by decide +kernel
theorem dJ9_floorMod_f86c9_3 : decode cJ9_floorMod_f86c9 3 = .ok (.lstore 4, 2) := by decide +kernel
theorem dJ9_floorMod_f86c9_5 : decode cJ9_floorMod_f86c9 5 = .ok (.lload_n 0, 1) := by decide +kernel
theorem dJ9_floorMod_f86c9_6 : decode cJ9_floorMod_f86c9 6 = .ok (.lload_n 2, 1) := by decide +kernel
theorem dJ9_floorMod_f86c9_7 : decode cJ9_floorMod_f86c9 7 = .ok (.lxor, 1) := by decide +kernel
theorem dJ9_floorMod_f86c9_8 : decode cJ9_floorMod_f86c9 8 = .ok (.lconst 0, 1) := by decide +kernel
theorem dJ9_floorMod_f86c9_9 : decode cJ9_floorMod_f86c9 9 = .ok (.lcmp, 1) := by decide +kernel
theorem dJ9_floorMod_f86c9_10 : decode cJ9_floorMod_f86c9 10 = .ok (.ifCond .ge 15, 3) := by decide +kernel
theorem dJ9_floorMod_f86c9_13 : decode cJ9_floorMod_f86c9 13 = .ok (.lload 4, 2) := by decide +kernel
theorem dJ9_floorMod_f86c9_15 : decode cJ9_floorMod_f86c9 15 = .ok (.lconst 0, 1) := by decide +kernel
theorem dJ9_floorMod_f86c9_16 : decode cJ9_floorMod_f86c9 16 = .ok (.lcmp, 1) := by decide +kernel
theorem dJ9_floorMod_f86c9_17 : decode cJ9_floorMod_f86c9 17 = .ok (.ifCond .eq 8, 3) := by decide +kernel
theorem dJ9_floorMod_f86c9_20 : decode cJ9_floorMod_f86c9 20 = .ok (.lload 4, 2) := by decide +kernel
theorem dJ9_floorMod_f86c9_22 : decode cJ9_floorMod_f86c9 22 = .ok (.lload_n 2, 1) := by decide +kernel
theorem dJ9_floorMod_f86c9_23 : decode cJ9_floorMod_f86c9 23 = .ok (.ladd, 1) := by decide +kernel
theorem dJ9_floorMod_f86c9_24 : decode cJ9_floorMod_f86c9 24 = .ok (.lreturn, 1) := by decide +kernel
theorem dJ9_floorMod_f86c9_25 : decode cJ9_floorMod_f86c9 25 = .ok (.lload 4, 2) := by decide +kernel
theorem dJ9_floorMod_f86c9_27 : decode cJ9_floorMod_f86c9 27 = .ok (.lreturn, 1) := by decide +kernel
theorem dJ9_max_7cf53_0 : decode cJ9_max_7cf53 0 = .ok (.iload_n 0, 1) := by decide +kernel
theorem dJ9_max_7cf53_1 : decode cJ9_max_7cf53 1 = .ok (.iload_n 1, 1) := by decide +kernel
theorem dJ9_max_7cf53_2 : decode cJ9_max_7cf53 2 = .ok (.if_icmp .lt 7, 3) := by decide +kernel
theorem dJ9_max_7cf53_5 : decode cJ9_max_7cf53 5 = .ok (.iload_n 0, 1) := by decide +kernel
theorem dJ9_max_7cf53_6 : decode cJ9_max_7cf53 6 = .ok (.goto 4, 3) := by decide +kernel
theorem dJ9_max_7cf53_9 : decode cJ9_max_7cf53 9 = .ok (.iload_n 1, 1) := by decide +kernel
theorem dJ9_max_7cf53_10 : decode cJ9_max_7cf53 10 = .ok (.ireturn, 1) := by decide +kernel
theorem dX0_init_0 : decode cX0_init 0 = .ok (.aload_n 0, 1) := by decide +kernel
theorem dX0_init_1 : decode cX0_init 1 = .ok (.invokespecial 3, 3) := by decide +kernel
theorem dX0_init_4 : decode cX0_init 4 = .ok (.aload_n 0, 1) := by decide +kernel
theorem dX0_init_5 : decode cX0_init 5 = .ok (.bipush 48, 2) := by decide +kernel
theorem dX0_init_7 : decode cX0_init 7 = .ok (.newarray .long, 2) := by decide +kernel
theorem dX0_init_9 : decode cX0_init 9 = .ok (.putfield 9, 3) := by decide +kernel
theorem dX0_init_12 : decode cX0_init 12 = .ok (.aload_n 0, 1) := by decide +kernel
theorem dX0_init_13 : decode cX0_init 13 = .ok (.bipush 48, 2) := by decide +kernel
theorem dX0_init_15 : decode cX0_init 15 = .ok (.newarray .long, 2) := by decide +kernel
theorem dX0_init_17 : decode cX0_init 17 = .ok (.putfield 15, 3) := by decide +kernel
theorem dX0_init_20 : decode cX0_init 20 = .ok (.aload_n 0, 1) := by decide +kernel
theorem dX0_init_21 : decode cX0_init 21 = .ok (.bipush 48, 2) := by decide +kernel
theorem dX0_init_23 : decode cX0_init 23 = .ok (.newarray .long, 2) := by decide +kernel
theorem dX0_init_25 : decode cX0_init 25 = .ok (.putfield 18, 3) := by decide +kernel
theorem dX0_init_28 : decode cX0_init 28 = .ok (.aload_n 0, 1) := by decide +kernel
theorem dX0_init_29 : decode cX0_init 29 = .ok (.bipush 48, 2) := by decide +kernel
theorem dX0_init_31 : decode cX0_init 31 = .ok (.newarray .long, 2) := by decide +kernel
theorem dX0_init_33 : decode cX0_init 33 = .ok (.putfield 21, 3) := by decide +kernel
theorem dX0_init_36 : decode cX0_init 36 = .ok (.aload_n 0, 1) := by decide +kernel
theorem dX0_init_37 : decode cX0_init 37 = .ok (.bipush 21, 2) := by decide +kernel
theorem dX0_init_39 : decode cX0_init 39 = .ok (.newarray .int, 2) := by decide +kernel
theorem dX0_init_41 : decode cX0_init 41 = .ok (.putfield 24, 3) := by decide +kernel
theorem dX0_init_44 : decode cX0_init 44 = .ok (.aload_n 0, 1) := by decide +kernel
theorem dX0_init_45 : decode cX0_init 45 = .ok (.bipush 21, 2) := by decide +kernel
theorem dX0_init_47 : decode cX0_init 47 = .ok (.newarray .int, 2) := by decide +kernel
theorem dX0_init_49 : decode cX0_init 49 = .ok (.putfield 28, 3) := by decide +kernel
theorem dX0_init_52 : decode cX0_init 52 = .ok (.ldc2_w 31, 3) := by decide +kernel
theorem dX0_init_55 : decode cX0_init 55 = .ok (.invokestatic 33, 3) := by decide +kernel
theorem dX0_init_58 : decode cX0_init 58 = .ok (.iconst 1, 1) := by decide +kernel
theorem dX0_init_59 : decode cX0_init 59 = .ok (.aload_n 0, 1) := by decide +kernel
theorem dX0_init_60 : decode cX0_init 60 = .ok (.getfield 9, 3) := by decide +kernel
theorem dX0_init_63 : decode cX0_init 63 = .ok (.invokestatic 39, 3) := by decide +kernel
theorem dX0_init_66 : decode cX0_init 66 = .ok (.ldc2_w 45, 3) := by decide +kernel
theorem dX0_init_69 : decode cX0_init 69 = .ok (.iconst 3, 1) := by decide +kernel
theorem dX0_init_70 : decode cX0_init 70 = .ok (.aload_n 0, 1) := by decide +kernel
theorem dX0_init_71 : decode cX0_init 71 = .ok (.getfield 18, 3) := by decide +kernel
theorem dX0_init_74 : decode cX0_init 74 = .ok (.invokestatic 39, 3) := by decide +kernel
theorem dX0_init_77 : decode cX0_init 77 = .ok (.ldc2_w 47, 3) := by decide +kernel
theorem dX0_init_80 : decode cX0_init 80 = .ok (.invokestatic 33, 3) := by decide +kernel
theorem dX0_init_83 : decode cX0_init 83 = .ok (.iconst 5, 1) := by decide +kernel
theorem dX0_init_84 : decode cX0_init 84 = .ok (.aload_n 0, 1) := by decide +kernel
theorem dX0_init_85 : decode cX0_init 85 = .ok (.getfield 21, 3) := by decide +kernel
theorem dX0_init_88 : decode cX0_init 88 = .ok (.invokestatic 39, 3) := by decide +kernel
theorem dX0_init_91 : decode cX0_init 91 = .ok (.aload_n 0, 1) := by decide +kernel
theorem dX0_init_92 : decode cX0_init 92 = .ok (.getfield 15, 3) := by decide +kernel
theorem dX0_init_95 : decode cX0_init 95 = .ok (.invokestatic 49, 3) := by decide +kernel
theorem dX0_init_98 : decode cX0_init 98 = .ok (.iconst 0, 1) := by decide +kernel
theorem dX0_init_99 : decode cX0_init 99 = .ok (.istore_n 1, 1) := by decide +kernel
theorem dX0_init_100 : decode cX0_init 100 = .ok (.iconst 0, 1) := by decide +kernel
theorem dX0_init_101 : decode cX0_init 101 = .ok (.istore_n 2, 1) := by decide +kernel
theorem dX0_init_102 : decode cX0_init 102 = .ok (.iload_n 2, 1) := by decide +kernel
theorem dX0_init_103 : decode cX0_init 103 = .ok (.aload_n 0, 1) := by decide +kernel
theorem dX0_init_104 : decode cX0_init 104 = .ok (.getfield 24, 3) := by decide +kernel
theorem dX0_init_107 : decode cX0_init 107 = .ok (.arraylength, 1) := by decide +kernel
theorem dX0_init_108 : decode cX0_init 108 = .ok (.if_icmp .ge 37, 3) := by decide +kernel
theorem dX0_init_111 : decode cX0_init 111 = .ok (.aload_n 0, 1) := by decide +kernel
theorem dX0_init_112 : decode cX0_init 112 = .ok (.getfield 28, 3) := by decide +kernel
theorem dX0_init_115 : decode cX0_init 115 = .ok (.iload_n 2, 1) := by decide +kernel
theorem dX0_init_116 : decode cX0_init 116 = .ok (.iload_n 1, 1) := by decide +kernel
theorem dX0_init_117 : decode cX0_init 117 = .ok (.iastore, 1) := by decide +kernel
theorem dX0_init_118 : decode cX0_init 118 = .ok (.aload_n 0, 1) := by decide +kernel
theorem dX0_init_119 : decode cX0_init 119 = .ok (.getfield 24, 3) := by decide +kernel
theorem dX0_init_122 : decode cX0_init 122 = .ok (.iload_n 2, 1) := by decide +kernel
theorem dX0_init_123 : decode cX0_init 123 = .ok (.iconst 2, 1) := by decide +kernel
theorem dX0_init_124 : decode cX0_init 124 = .ok (.iload_n 2, 1) := by decide +kernel
theorem dX0_init_125 : decode cX0_init 125 = .ok (.imul, 1) := by decide +kernel
theorem dX0_init_126 : decode cX0_init 126 = .ok (.invokestatic 53, 3) := by decide +kernel
theorem dX0_init_129 : decode cX0_init 129 = .ok (.iastore, 1) := by decide +kernel
theorem dX0_init_130 : decode cX0_init 130 = .ok (.iload_n 1, 1) := by decide +kernel
theorem dX0_init_131 : decode cX0_init 131 = .ok (.aload_n 0, 1) := by decide +kernel
theorem dX0_init_132 : decode cX0_init 132 = .ok (.getfield 24, 3) := by decide +kernel
theorem dX0_init_135 : decode cX0_init 135 = .ok (.iload_n 2, 1) := by decide +kernel
theorem dX0_init_136 : decode cX0_init 136 = .ok (.iaload, 1) := by decide +kernel
theorem dX0_init_137 : decode cX0_init 137 = .ok (.iadd, 1) := by decide +kernel
theorem dX0_init_138 : decode cX0_init 138 = .ok (.istore_n 1, 1) := by decide +kernel
theorem dX0_init_139 : decode cX0_init 139 = .ok (.iinc 2 1, 3) := by decide +kernel
theorem dX0_init_142 : decode cX0_init 142 = .ok (.goto (-40), 3) := by decide +kernel
theorem dX0_init_145 : decode cX0_init 145 = .ok (.aload_n 0, 1) := by decide +kernel
theorem dX0_init_146 : decode cX0_init 146 = .ok (.iload_n 1, 1) := by decide +kernel
theorem dX0_init_147 : decode cX0_init 147 = .ok (.bipush 48, 2) := by decide +kernel
theorem dX0_init_149 : decode cX0_init 149 = .ok (.multianewarray 57 2, 4) := by decide +kernel
theorem dX0_init_153 : decode cX0_init 153 = .ok (.putfield 59, 3) := by decide +kernel
theorem dX0_init_156 : decode cX0_init 156 = .ok (.return_, 1) := by decide +kernel
theorem dX0_countSize_0 : decode cX0_countSize 0 = .ok (.iconst 0, 1) := by decide +kernel
theorem dX0_countSize_1 : decode cX0_countSize 1 = .ok (.istore_n 1, 1) := by decide +kernel
theorem dX0_countSize_2 : decode cX0_countSize 2 = .ok (.iload_n 0, 1) := by decide +kernel
theorem dX0_countSize_3 : decode cX0_countSize 3 = .ok (.istore_n 2, 1) := by decide +kernel
theorem dX0_countSize_4 : decode cX0_countSize 4 = .ok (.iload_n 2, 1) := by decide +kernel
theorem dX0_countSize_5 : decode cX0_countSize 5 = .ok (.ifCond .lt 17, 3) := by decide +kernel
theorem dX0_countSize_8 : decode cX0_countSize 8 = .ok (.iload_n 2, 1) := by decide +kernel
theorem dX0_countSize_9 : decode cX0_countSize 9 = .ok (.iconst 2, 1) := by decide +kernel
theorem dX0_countSize_10 : decode cX0_countSize 10 = .ok (.if_icmp .eq 6, 3) := by decide +kernel
theorem dX0_countSize_13 : decode cX0_countSize 13 = .ok (.iinc 1 1, 3) := by decide +kernel
theorem dX0_countSize_16 : decode cX0_countSize 16 = .ok (.iinc 2 (-12), 3) := by decide +kernel
theorem dX0_countSize_19 : decode cX0_countSize 19 = .ok (.goto (-15), 3) := by decide +kernel
theorem dX0_countSize_22 : decode cX0_countSize 22 = .ok (.iload_n 1, 1) := by decide +kernel
theorem dX0_countSize_23 : decode cX0_countSize 23 = .ok (.ireturn, 1) := by decide +kernel
theorem dX0_sizeOf_0 : decode cX0_sizeOf 0 = .ok (.aload_n 0, 1) := by decide +kernel
theorem dX0_sizeOf_1 : decode cX0_sizeOf 1 = .ok (.getfield 24, 3) := by decide +kernel
theorem dX0_sizeOf_4 : decode cX0_sizeOf 4 = .ok (.iload_n 1, 1) := by decide +kernel
theorem dX0_sizeOf_5 : decode cX0_sizeOf 5 = .ok (.iconst 2, 1) := by decide +kernel
theorem dX0_sizeOf_6 : decode cX0_sizeOf 6 = .ok (.idiv, 1) := by decide +kernel
theorem dX0_sizeOf_7 : decode cX0_sizeOf 7 = .ok (.iaload, 1) := by decide +kernel
theorem dX0_sizeOf_8 : decode cX0_sizeOf 8 = .ok (.ireturn, 1) := by decide +kernel
theorem dX0_rowOf_0 : decode cX0_rowOf 0 = .ok (.aload_n 0, 1) := by decide +kernel
theorem dX0_rowOf_1 : decode cX0_rowOf 1 = .ok (.getfield 62, 3) := by decide +kernel
theorem dX0_rowOf_4 : decode cX0_rowOf 4 = .ok (.istore_n 3, 1) := by decide +kernel
theorem dX0_rowOf_5 : decode cX0_rowOf 5 = .ok (.iload_n 3, 1) := by decide +kernel
theorem dX0_rowOf_6 : decode cX0_rowOf 6 = .ok (.iload_n 1, 1) := by decide +kernel
theorem dX0_rowOf_7 : decode cX0_rowOf 7 = .ok (.if_icmp .gt 14, 3) := by decide +kernel
theorem dX0_rowOf_10 : decode cX0_rowOf 10 = .ok (.aload_n 0, 1) := by decide +kernel
theorem dX0_rowOf_11 : decode cX0_rowOf 11 = .ok (.iload_n 3, 1) := by decide +kernel
theorem dX0_rowOf_12 : decode cX0_rowOf 12 = .ok (.invokevirtual 66, 3) := by decide +kernel
theorem dX0_rowOf_15 : decode cX0_rowOf 15 = .ok (.iinc 3 2, 3) := by decide +kernel
theorem dX0_rowOf_18 : decode cX0_rowOf 18 = .ok (.goto (-13), 3) := by decide +kernel
theorem dX0_rowOf_21 : decode cX0_rowOf 21 = .ok (.aload_n 0, 1) := by decide +kernel
theorem dX0_rowOf_22 : decode cX0_rowOf 22 = .ok (.aload_n 0, 1) := by decide +kernel
theorem dX0_rowOf_23 : decode cX0_rowOf 23 = .ok (.getfield 62, 3) := by decide +kernel
theorem dX0_rowOf_26 : decode cX0_rowOf 26 = .ok (.iload_n 1, 1) := by decide +kernel
theorem dX0_rowOf_27 : decode cX0_rowOf 27 = .ok (.iconst 2, 1) := by decide +kernel
theorem dX0_rowOf_28 : decode cX0_rowOf 28 = .ok (.iadd, 1) := by decide +kernel
theorem dX0_rowOf_29 : decode cX0_rowOf 29 = .ok (.invokestatic 70, 3) := by decide +kernel
theorem dX0_rowOf_32 : decode cX0_rowOf 32 = .ok (.putfield 62, 3) := by decide +kernel
theorem dX0_rowOf_35 : decode cX0_rowOf 35 = .ok (.aload_n 0, 1) := by decide +kernel
theorem dX0_rowOf_36 : decode cX0_rowOf 36 = .ok (.getfield 59, 3) := by decide +kernel
theorem dX0_rowOf_39 : decode cX0_rowOf 39 = .ok (.aload_n 0, 1) := by decide +kernel
theorem dX0_rowOf_40 : decode cX0_rowOf 40 = .ok (.getfield 28, 3) := by decide +kernel
theorem dX0_rowOf_43 : decode cX0_rowOf 43 = .ok (.iload_n 1, 1) := by decide +kernel
theorem dX0_rowOf_44 : decode cX0_rowOf 44 = .ok (.iconst 2, 1) := by decide +kernel
theorem dX0_rowOf_45 : decode cX0_rowOf 45 = .ok (.idiv, 1) := by decide +kernel
theorem dX0_rowOf_46 : decode cX0_rowOf 46 = .ok (.iaload, 1) := by decide +kernel
theorem dX0_rowOf_47 : decode cX0_rowOf 47 = .ok (.iload_n 2, 1) := by decide +kernel
theorem dX0_rowOf_48 : decode cX0_rowOf 48 = .ok (.iadd, 1) := by decide +kernel
theorem dX0_rowOf_49 : decode cX0_rowOf 49 = .ok (.aaload, 1) := by decide +kernel
theorem dX0_rowOf_50 : decode cX0_rowOf 50 = .ok (.areturn, 1) := by decide +kernel
theorem dX0_makeRows_0 : decode cX0_makeRows 0 = .ok (.aload_n 0, 1) := by decide +kernel
theorem dX0_makeRows_1 : decode cX0_makeRows 1 = .ok (.getfield 28, 3) := by decide +kernel
theorem dX0_makeRows_4 : decode cX0_makeRows 4 = .ok (.iload_n 1, 1) := by decide +kernel
theorem dX0_makeRows_5 : decode cX0_makeRows 5 = .ok (.iconst 2, 1) := by decide +kernel
theorem dX0_makeRows_6 : decode cX0_makeRows 6 = .ok (.idiv, 1) := by decide +kernel
theorem dX0_makeRows_7 : decode cX0_makeRows 7 = .ok (.iaload, 1) := by decide +kernel
theorem dX0_makeRows_8 : decode cX0_makeRows 8 = .ok (.istore_n 2, 1) := by decide +kernel
theorem dX0_makeRows_9 : decode cX0_makeRows 9 = .ok (.iconst 0, 1) := by decide +kernel
theorem dX0_makeRows_10 : decode cX0_makeRows 10 = .ok (.istore_n 3, 1) := by decide +kernel
theorem dX0_makeRows_11 : decode cX0_makeRows 11 = .ok (.iload_n 3, 1) := by decide +kernel
theorem dX0_makeRows_12 : decode cX0_makeRows 12 = .ok (.aload_n 0, 1) := by decide +kernel
theorem dX0_makeRows_13 : decode cX0_makeRows 13 = .ok (.iload_n 1, 1) := by decide +kernel
theorem dX0_makeRows_14 : decode cX0_makeRows 14 = .ok (.invokevirtual 76, 3) := by decide +kernel
theorem dX0_makeRows_17 : decode cX0_makeRows 17 = .ok (.if_icmp .ge 121, 3) := by decide +kernel
theorem dX0_makeRows_20 : decode cX0_makeRows 20 = .ok (.iload_n 3, 1) := by decide +kernel
theorem dX0_makeRows_21 : decode cX0_makeRows 21 = .ok (.ifCond .le 41, 3) := by decide +kernel
theorem dX0_makeRows_24 : decode cX0_makeRows 24 = .ok (.aload_n 0, 1) := by decide +kernel
theorem dX0_makeRows_25 : decode cX0_makeRows 25 = .ok (.getfield 15, 3) := by decide +kernel
theorem dX0_makeRows_28 : decode cX0_makeRows 28 = .ok (.aload_n 0, 1) := by decide +kernel
theorem dX0_makeRows_29 : decode cX0_makeRows 29 = .ok (.getfield 59, 3) := by decide +kernel
theorem dX0_makeRows_32 : decode cX0_makeRows 32 = .ok (.aload_n 0, 1) := by decide +kernel
theorem dX0_makeRows_33 : decode cX0_makeRows 33 = .ok (.getfield 28, 3) := by decide +kernel
theorem dX0_makeRows_36 : decode cX0_makeRows 36 = .ok (.iload_n 1, 1) := by decide +kernel
theorem dX0_makeRows_37 : decode cX0_makeRows 37 = .ok (.bipush 12, 2) := by decide +kernel
theorem dX0_makeRows_39 : decode cX0_makeRows 39 = .ok (.isub, 1) := by decide +kernel
theorem dX0_makeRows_40 : decode cX0_makeRows 40 = .ok (.iconst 2, 1) := by decide +kernel
theorem dX0_makeRows_41 : decode cX0_makeRows 41 = .ok (.idiv, 1) := by decide +kernel
theorem dX0_makeRows_42 : decode cX0_makeRows 42 = .ok (.iaload, 1) := by decide +kernel
theorem dX0_makeRows_43 : decode cX0_makeRows 43 = .ok (.iload_n 3, 1) := by decide +kernel
theorem dX0_makeRows_44 : decode cX0_makeRows 44 = .ok (.iadd, 1) := by decide +kernel
theorem dX0_makeRows_45 : decode cX0_makeRows 45 = .ok (.iconst 1, 1) := by decide +kernel
theorem dX0_makeRows_46 : decode cX0_makeRows 46 = .ok (.isub, 1) := by decide +kernel
theorem dX0_makeRows_47 : decode cX0_makeRows 47 = .ok (.aaload, 1) := by decide +kernel
theorem dX0_makeRows_48 : decode cX0_makeRows 48 = .ok (.aload_n 0, 1) := by decide +kernel
theorem dX0_makeRows_49 : decode cX0_makeRows 49 = .ok (.getfield 59, 3) := by decide +kernel
theorem dX0_makeRows_52 : decode cX0_makeRows 52 = .ok (.iload_n 2, 1) := by decide +kernel
theorem dX0_makeRows_53 : decode cX0_makeRows 53 = .ok (.iload_n 3, 1) := by decide +kernel
theorem dX0_makeRows_54 : decode cX0_makeRows 54 = .ok (.iadd, 1) := by decide +kernel
theorem dX0_makeRows_55 : decode cX0_makeRows 55 = .ok (.aaload, 1) := by decide +kernel
theorem dX0_makeRows_56 : decode cX0_makeRows 56 = .ok (.invokestatic 79, 3) := by decide +kernel
theorem dX0_makeRows_59 : decode cX0_makeRows 59 = .ok (.goto 73, 3) := by decide +kernel
theorem dX0_makeRows_62 : decode cX0_makeRows 62 = .ok (.iload_n 1, 1) := by decide +kernel
theorem dX0_makeRows_63 : decode cX0_makeRows 63 = .ok (.ifCond .ne 15, 3) := by decide +kernel
theorem dX0_makeRows_66 : decode cX0_makeRows 66 = .ok (.aload_n 0, 1) := by decide +kernel
theorem dX0_makeRows_67 : decode cX0_makeRows 67 = .ok (.getfield 59, 3) := by decide +kernel
theorem dX0_makeRows_70 : decode cX0_makeRows 70 = .ok (.iload_n 2, 1) := by decide +kernel
theorem dX0_makeRows_71 : decode cX0_makeRows 71 = .ok (.aaload, 1) := by decide +kernel
theorem dX0_makeRows_72 : decode cX0_makeRows 72 = .ok (.invokestatic 83, 3) := by decide +kernel
theorem dX0_makeRows_75 : decode cX0_makeRows 75 = .ok (.goto 57, 3) := by decide +kernel
theorem dX0_makeRows_78 : decode cX0_makeRows 78 = .ok (.iload_n 1, 1) := by decide +kernel
theorem dX0_makeRows_79 : decode cX0_makeRows 79 = .ok (.bipush 6, 2) := by decide +kernel
theorem dX0_makeRows_81 : decode cX0_makeRows 81 = .ok (.if_icmp .ne 23, 3) := by decide +kernel
theorem dX0_makeRows_84 : decode cX0_makeRows 84 = .ok (.aload_n 0, 1) := by decide +kernel
theorem dX0_makeRows_85 : decode cX0_makeRows 85 = .ok (.getfield 21, 3) := by decide +kernel
theorem dX0_makeRows_88 : decode cX0_makeRows 88 = .ok (.iconst 0, 1) := by decide +kernel
theorem dX0_makeRows_89 : decode cX0_makeRows 89 = .ok (.aload_n 0, 1) := by decide +kernel
theorem dX0_makeRows_90 : decode cX0_makeRows 90 = .ok (.getfield 59, 3) := by decide +kernel
theorem dX0_makeRows_93 : decode cX0_makeRows 93 = .ok (.iload_n 2, 1) := by decide +kernel
theorem dX0_makeRows_94 : decode cX0_makeRows 94 = .ok (.aaload, 1) := by decide +kernel
theorem dX0_makeRows_95 : decode cX0_makeRows 95 = .ok (.iconst 0, 1) := by decide +kernel
theorem dX0_makeRows_96 : decode cX0_makeRows 96 = .ok (.bipush 48, 2) := by decide +kernel
theorem dX0_makeRows_98 : decode cX0_makeRows 98 = .ok (.invokestatic 86, 3) := by decide +kernel
theorem dX0_makeRows_101 : decode cX0_makeRows 101 = .ok (.goto 31, 3) := by decide +kernel
theorem dX0_makeRows_104 : decode cX0_makeRows 104 = .ok (.aload_n 0, 1) := by decide +kernel
theorem dX0_makeRows_105 : decode cX0_makeRows 105 = .ok (.getfield 18, 3) := by decide +kernel
theorem dX0_makeRows_108 : decode cX0_makeRows 108 = .ok (.aload_n 0, 1) := by decide +kernel
theorem dX0_makeRows_109 : decode cX0_makeRows 109 = .ok (.getfield 59, 3) := by decide +kernel
theorem dX0_makeRows_112 : decode cX0_makeRows 112 = .ok (.aload_n 0, 1) := by decide +kernel
theorem dX0_makeRows_113 : decode cX0_makeRows 113 = .ok (.getfield 28, 3) := by decide +kernel
theorem dX0_makeRows_116 : decode cX0_makeRows 116 = .ok (.iload_n 1, 1) := by decide +kernel
theorem dX0_makeRows_117 : decode cX0_makeRows 117 = .ok (.iconst 4, 1) := by decide +kernel
theorem dX0_makeRows_118 : decode cX0_makeRows 118 = .ok (.isub, 1) := by decide +kernel
theorem dX0_makeRows_119 : decode cX0_makeRows 119 = .ok (.iconst 2, 1) := by decide +kernel
theorem dX0_makeRows_120 : decode cX0_makeRows 120 = .ok (.idiv, 1) := by decide +kernel
theorem dX0_makeRows_121 : decode cX0_makeRows 121 = .ok (.iaload, 1) := by decide +kernel
theorem dX0_makeRows_122 : decode cX0_makeRows 122 = .ok (.aaload, 1) := by decide +kernel
theorem dX0_makeRows_123 : decode cX0_makeRows 123 = .ok (.aload_n 0, 1) := by decide +kernel
theorem dX0_makeRows_124 : decode cX0_makeRows 124 = .ok (.getfield 59, 3) := by decide +kernel
theorem dX0_makeRows_127 : decode cX0_makeRows 127 = .ok (.iload_n 2, 1) := by decide +kernel
theorem dX0_makeRows_128 : decode cX0_makeRows 128 = .ok (.aaload, 1) := by decide +kernel
theorem dX0_makeRows_129 : decode cX0_makeRows 129 = .ok (.invokestatic 79, 3) := by decide +kernel
theorem dX0_makeRows_132 : decode cX0_makeRows 132 = .ok (.iinc 3 1, 3) := by decide +kernel
theorem dX0_makeRows_135 : decode cX0_makeRows 135 = .ok (.goto (-124), 3) := by decide +kernel
theorem dX0_makeRows_138 : decode cX0_makeRows 138 = .ok (.return_, 1) := by decide +kernel
theorem dX0_findParts_0 : decode cX0_findParts 0 = .ok (.iconst 0, 1) := by decide +kernel
theorem dX0_findParts_1 : decode cX0_findParts 1 = .ok (.istore 4, 2) := by decide +kernel
theorem dX0_findParts_3 : decode cX0_findParts 3 = .ok (.iload 4, 2) := by decide +kernel
theorem dX0_findParts_5 : decode cX0_findParts 5 = .ok (.aload_n 0, 1) := by decide +kernel
theorem dX0_findParts_6 : decode cX0_findParts 6 = .ok (.iload_n 1, 1) := by decide +kernel
theorem dX0_findParts_7 : decode cX0_findParts 7 = .ok (.invokevirtual 76, 3) := by decide +kernel
theorem dX0_findParts_10 : decode cX0_findParts 10 = .ok (.if_icmp .ge 60, 3) := by decide +kernel
theorem dX0_findParts_13 : decode cX0_findParts 13 = .ok (.aload_n 2, 1) := by decide +kernel
theorem dX0_findParts_14 : decode cX0_findParts 14 = .ok (.iload 4, 2) := by decide +kernel
theorem dX0_findParts_16 : decode cX0_findParts 16 = .ok (.laload, 1) := by decide +kernel
theorem dX0_findParts_17 : decode cX0_findParts 17 = .ok (.lstore 5, 2) := by decide +kernel
theorem dX0_findParts_19 : decode cX0_findParts 19 = .ok (.iconst 0, 1) := by decide +kernel
theorem dX0_findParts_20 : decode cX0_findParts 20 = .ok (.istore 7, 2) := by decide +kernel
theorem dX0_findParts_22 : decode cX0_findParts 22 = .ok (.iload 7, 2) := by decide +kernel
theorem dX0_findParts_24 : decode cX0_findParts 24 = .ok (.iload 4, 2) := by decide +kernel
theorem dX0_findParts_26 : decode cX0_findParts 26 = .ok (.if_icmp .ge 29, 3) := by decide +kernel
theorem dX0_findParts_29 : decode cX0_findParts 29 = .ok (.lload 5, 2) := by decide +kernel
theorem dX0_findParts_31 : decode cX0_findParts 31 = .ok (.aload_n 3, 1) := by decide +kernel
theorem dX0_findParts_32 : decode cX0_findParts 32 = .ok (.iload 7, 2) := by decide +kernel
theorem dX0_findParts_34 : decode cX0_findParts 34 = .ok (.laload, 1) := by decide +kernel
theorem dX0_findParts_35 : decode cX0_findParts 35 = .ok (.aload_n 0, 1) := by decide +kernel
theorem dX0_findParts_36 : decode cX0_findParts 36 = .ok (.iload_n 1, 1) := by decide +kernel
theorem dX0_findParts_37 : decode cX0_findParts 37 = .ok (.iload 7, 2) := by decide +kernel
theorem dX0_findParts_39 : decode cX0_findParts 39 = .ok (.invokevirtual 92, 3) := by decide +kernel
theorem dX0_findParts_42 : decode cX0_findParts 42 = .ok (.iload 4, 2) := by decide +kernel
theorem dX0_findParts_44 : decode cX0_findParts 44 = .ok (.laload, 1) := by decide +kernel
theorem dX0_findParts_45 : decode cX0_findParts 45 = .ok (.lmul, 1) := by decide +kernel
theorem dX0_findParts_46 : decode cX0_findParts 46 = .ok (.lsub, 1) := by decide +kernel
theorem dX0_findParts_47 : decode cX0_findParts 47 = .ok (.lstore 5, 2) := by decide +kernel
theorem dX0_findParts_49 : decode cX0_findParts 49 = .ok (.iinc 7 1, 3) := by decide +kernel
theorem dX0_findParts_52 : decode cX0_findParts 52 = .ok (.goto (-30), 3) := by decide +kernel
theorem dX0_findParts_55 : decode cX0_findParts 55 = .ok (.aload_n 3, 1) := by decide +kernel
theorem dX0_findParts_56 : decode cX0_findParts 56 = .ok (.iload 4, 2) := by decide +kernel
theorem dX0_findParts_58 : decode cX0_findParts 58 = .ok (.lload 5, 2) := by decide +kernel
theorem dX0_findParts_60 : decode cX0_findParts 60 = .ok (.invokestatic 33, 3) := by decide +kernel
theorem dX0_findParts_63 : decode cX0_findParts 63 = .ok (.lastore, 1) := by decide +kernel
theorem dX0_findParts_64 : decode cX0_findParts 64 = .ok (.iinc 4 1, 3) := by decide +kernel
theorem dX0_findParts_67 : decode cX0_findParts 67 = .ok (.goto (-64), 3) := by decide +kernel
theorem dX0_findParts_70 : decode cX0_findParts 70 = .ok (.return_, 1) := by decide +kernel
theorem dX0_join_0 : decode cX0_join 0 = .ok (.iconst 0, 1) := by decide +kernel
theorem dX0_join_1 : decode cX0_join 1 = .ok (.istore 4, 2) := by decide +kernel
theorem dX0_join_3 : decode cX0_join 3 = .ok (.iload 4, 2) := by decide +kernel
theorem dX0_join_5 : decode cX0_join 5 = .ok (.bipush 48, 2) := by decide +kernel
theorem dX0_join_7 : decode cX0_join 7 = .ok (.if_icmp .ge 61, 3) := by decide +kernel
theorem dX0_join_10 : decode cX0_join 10 = .ok (.lconst 0, 1) := by decide +kernel
theorem dX0_join_11 : decode cX0_join 11 = .ok (.lstore 5, 2) := by decide +kernel
theorem dX0_join_13 : decode cX0_join 13 = .ok (.iconst 0, 1) := by decide +kernel
theorem dX0_join_14 : decode cX0_join 14 = .ok (.istore 7, 2) := by decide +kernel
theorem dX0_join_16 : decode cX0_join 16 = .ok (.iload 7, 2) := by decide +kernel
theorem dX0_join_18 : decode cX0_join 18 = .ok (.aload_n 0, 1) := by decide +kernel
theorem dX0_join_19 : decode cX0_join 19 = .ok (.iload_n 1, 1) := by decide +kernel
theorem dX0_join_20 : decode cX0_join 20 = .ok (.invokevirtual 76, 3) := by decide +kernel
theorem dX0_join_23 : decode cX0_join 23 = .ok (.if_icmp .ge 29, 3) := by decide +kernel
theorem dX0_join_26 : decode cX0_join 26 = .ok (.lload 5, 2) := by decide +kernel
theorem dX0_join_28 : decode cX0_join 28 = .ok (.aload_n 2, 1) := by decide +kernel
theorem dX0_join_29 : decode cX0_join 29 = .ok (.iload 7, 2) := by decide +kernel
theorem dX0_join_31 : decode cX0_join 31 = .ok (.laload, 1) := by decide +kernel
theorem dX0_join_32 : decode cX0_join 32 = .ok (.aload_n 0, 1) := by decide +kernel
theorem dX0_join_33 : decode cX0_join 33 = .ok (.iload_n 1, 1) := by decide +kernel
theorem dX0_join_34 : decode cX0_join 34 = .ok (.iload 7, 2) := by decide +kernel
theorem dX0_join_36 : decode cX0_join 36 = .ok (.invokevirtual 92, 3) := by decide +kernel
theorem dX0_join_39 : decode cX0_join 39 = .ok (.iload 4, 2) := by decide +kernel
theorem dX0_join_41 : decode cX0_join 41 = .ok (.laload, 1) := by decide +kernel
theorem dX0_join_42 : decode cX0_join 42 = .ok (.lmul, 1) := by decide +kernel
theorem dX0_join_43 : decode cX0_join 43 = .ok (.ladd, 1) := by decide +kernel
theorem dX0_join_44 : decode cX0_join 44 = .ok (.lstore 5, 2) := by decide +kernel
theorem dX0_join_46 : decode cX0_join 46 = .ok (.iinc 7 1, 3) := by decide +kernel
theorem dX0_join_49 : decode cX0_join 49 = .ok (.goto (-33), 3) := by decide +kernel
theorem dX0_join_52 : decode cX0_join 52 = .ok (.aload_n 3, 1) := by decide +kernel
theorem dX0_join_53 : decode cX0_join 53 = .ok (.iload 4, 2) := by decide +kernel
theorem dX0_join_55 : decode cX0_join 55 = .ok (.lload 5, 2) := by decide +kernel
theorem dX0_join_57 : decode cX0_join 57 = .ok (.ldc2_w 96, 3) := by decide +kernel
theorem dX0_join_60 : decode cX0_join 60 = .ok (.lrem, 1) := by decide +kernel
theorem dX0_join_61 : decode cX0_join 61 = .ok (.lastore, 1) := by decide +kernel
theorem dX0_join_62 : decode cX0_join 62 = .ok (.iinc 4 1, 3) := by decide +kernel
theorem dX0_join_65 : decode cX0_join 65 = .ok (.goto (-62), 3) := by decide +kernel
theorem dX0_join_68 : decode cX0_join 68 = .ok (.return_, 1) := by decide +kernel
theorem dX0_putImage_0 : decode cX0_putImage 0 = .ok (.iload_n 3, 1) := by decide +kernel
theorem dX0_putImage_1 : decode cX0_putImage 1 = .ok (.i2l, 1) := by decide +kernel
theorem dX0_putImage_2 : decode cX0_putImage 2 = .ok (.iload_n 1, 1) := by decide +kernel
theorem dX0_putImage_3 : decode cX0_putImage 3 = .ok (.iconst 1, 1) := by decide +kernel
theorem dX0_putImage_4 : decode cX0_putImage 4 = .ok (.isub, 1) := by decide +kernel
theorem dX0_putImage_5 : decode cX0_putImage 5 = .ok (.invokestatic 98, 3) := by decide +kernel
theorem dX0_putImage_8 : decode cX0_putImage 8 = .ok (.lstore 5, 2) := by decide +kernel
theorem dX0_putImage_10 : decode cX0_putImage 10 = .ok (.iconst 0, 1) := by decide +kernel
theorem dX0_putImage_11 : decode cX0_putImage 11 = .ok (.istore 7, 2) := by decide +kernel
theorem dX0_putImage_13 : decode cX0_putImage 13 = .ok (.iload 7, 2) := by decide +kernel
theorem dX0_putImage_15 : decode cX0_putImage 15 = .ok (.aload_n 0, 1) := by decide +kernel
theorem dX0_putImage_16 : decode cX0_putImage 16 = .ok (.iload_n 1, 1) := by decide +kernel
theorem dX0_putImage_17 : decode cX0_putImage 17 = .ok (.invokevirtual 76, 3) := by decide +kernel
theorem dX0_putImage_20 : decode cX0_putImage 20 = .ok (.if_icmp .ge 49, 3) := by decide +kernel
theorem dX0_putImage_23 : decode cX0_putImage 23 = .ok (.iload 7, 2) := by decide +kernel
theorem dX0_putImage_25 : decode cX0_putImage 25 = .ok (.iload_n 3, 1) := by decide +kernel
theorem dX0_putImage_26 : decode cX0_putImage 26 = .ok (.irem, 1) := by decide +kernel
theorem dX0_putImage_27 : decode cX0_putImage 27 = .ok (.ifCond .ne 15, 3) := by decide +kernel
theorem dX0_putImage_30 : decode cX0_putImage 30 = .ok (.lload 5, 2) := by decide +kernel
theorem dX0_putImage_32 : decode cX0_putImage 32 = .ok (.aload_n 2, 1) := by decide +kernel
theorem dX0_putImage_33 : decode cX0_putImage 33 = .ok (.iload 7, 2) := by decide +kernel
theorem dX0_putImage_35 : decode cX0_putImage 35 = .ok (.iload_n 3, 1) := by decide +kernel
theorem dX0_putImage_36 : decode cX0_putImage 36 = .ok (.idiv, 1) := by decide +kernel
theorem dX0_putImage_37 : decode cX0_putImage 37 = .ok (.laload, 1) := by decide +kernel
theorem dX0_putImage_38 : decode cX0_putImage 38 = .ok (.lmul, 1) := by decide +kernel
theorem dX0_putImage_39 : decode cX0_putImage 39 = .ok (.goto 4, 3) := by decide +kernel
theorem dX0_putImage_42 : decode cX0_putImage 42 = .ok (.lconst 0, 1) := by decide +kernel
theorem dX0_putImage_43 : decode cX0_putImage 43 = .ok (.lstore 8, 2) := by decide +kernel
theorem dX0_putImage_45 : decode cX0_putImage 45 = .ok (.aload 4, 2) := by decide +kernel
theorem dX0_putImage_47 : decode cX0_putImage 47 = .ok (.iload 7, 2) := by decide +kernel
theorem dX0_putImage_49 : decode cX0_putImage 49 = .ok (.aload_n 2, 1) := by decide +kernel
theorem dX0_putImage_50 : decode cX0_putImage 50 = .ok (.iload_n 3, 1) := by decide +kernel
theorem dX0_putImage_51 : decode cX0_putImage 51 = .ok (.iload 7, 2) := by decide +kernel
theorem dX0_putImage_53 : decode cX0_putImage 53 = .ok (.imul, 1) := by decide +kernel
theorem dX0_putImage_54 : decode cX0_putImage 54 = .ok (.laload, 1) := by decide +kernel
theorem dX0_putImage_55 : decode cX0_putImage 55 = .ok (.lload 8, 2) := by decide +kernel
theorem dX0_putImage_57 : decode cX0_putImage 57 = .ok (.ladd, 1) := by decide +kernel
theorem dX0_putImage_58 : decode cX0_putImage 58 = .ok (.ldc2_w 96, 3) := by decide +kernel
theorem dX0_putImage_61 : decode cX0_putImage 61 = .ok (.lrem, 1) := by decide +kernel
theorem dX0_putImage_62 : decode cX0_putImage 62 = .ok (.lastore, 1) := by decide +kernel
theorem dX0_putImage_63 : decode cX0_putImage 63 = .ok (.iinc 7 1, 3) := by decide +kernel
theorem dX0_putImage_66 : decode cX0_putImage 66 = .ok (.goto (-53), 3) := by decide +kernel
theorem dX0_putImage_69 : decode cX0_putImage 69 = .ok (.return_, 1) := by decide +kernel
theorem dX1_init_0 : decode cX1_init 0 = .ok (.aload_n 0, 1) := by decide +kernel
theorem dX1_init_1 : decode cX1_init 1 = .ok (.invokespecial 3, 3) := by decide +kernel
theorem dX1_init_4 : decode cX1_init 4 = .ok (.aload_n 0, 1) := by decide +kernel
theorem dX1_init_5 : decode cX1_init 5 = .ok (.bipush 48, 2) := by decide +kernel
theorem dX1_init_7 : decode cX1_init 7 = .ok (.newarray .long, 2) := by decide +kernel
theorem dX1_init_9 : decode cX1_init 9 = .ok (.putfield 9, 3) := by decide +kernel
theorem dX1_init_12 : decode cX1_init 12 = .ok (.return_, 1) := by decide +kernel
theorem dX1_putBracket_0 : decode cX1_putBracket 0 = .ok (.iconst 0, 1) := by decide +kernel
theorem dX1_putBracket_1 : decode cX1_putBracket 1 = .ok (.istore_n 3, 1) := by decide +kernel
theorem dX1_putBracket_2 : decode cX1_putBracket 2 = .ok (.iload_n 3, 1) := by decide +kernel
theorem dX1_putBracket_3 : decode cX1_putBracket 3 = .ok (.bipush 48, 2) := by decide +kernel
theorem dX1_putBracket_5 : decode cX1_putBracket 5 = .ok (.if_icmp .ge 82, 3) := by decide +kernel
theorem dX1_putBracket_8 : decode cX1_putBracket 8 = .ok (.lconst 0, 1) := by decide +kernel
theorem dX1_putBracket_9 : decode cX1_putBracket 9 = .ok (.lstore 4, 2) := by decide +kernel
theorem dX1_putBracket_11 : decode cX1_putBracket 11 = .ok (.iconst 0, 1) := by decide +kernel
theorem dX1_putBracket_12 : decode cX1_putBracket 12 = .ok (.istore 6, 2) := by decide +kernel
theorem dX1_putBracket_14 : decode cX1_putBracket 14 = .ok (.iload 6, 2) := by decide +kernel
theorem dX1_putBracket_16 : decode cX1_putBracket 16 = .ok (.iload_n 3, 1) := by decide +kernel
theorem dX1_putBracket_17 : decode cX1_putBracket 17 = .ok (.if_icmp .gt 56, 3) := by decide +kernel
theorem dX1_putBracket_20 : decode cX1_putBracket 20 = .ok (.iload_n 3, 1) := by decide +kernel
theorem dX1_putBracket_21 : decode cX1_putBracket 21 = .ok (.iload 6, 2) := by decide +kernel
theorem dX1_putBracket_23 : decode cX1_putBracket 23 = .ok (.isub, 1) := by decide +kernel
theorem dX1_putBracket_24 : decode cX1_putBracket 24 = .ok (.istore 7, 2) := by decide +kernel
theorem dX1_putBracket_26 : decode cX1_putBracket 26 = .ok (.lload 4, 2) := by decide +kernel
theorem dX1_putBracket_28 : decode cX1_putBracket 28 = .ok (.aload_n 0, 1) := by decide +kernel
theorem dX1_putBracket_29 : decode cX1_putBracket 29 = .ok (.getfield 9, 3) := by decide +kernel
theorem dX1_putBracket_32 : decode cX1_putBracket 32 = .ok (.iload 6, 2) := by decide +kernel
theorem dX1_putBracket_34 : decode cX1_putBracket 34 = .ok (.laload, 1) := by decide +kernel
theorem dX1_putBracket_35 : decode cX1_putBracket 35 = .ok (.aload_n 1, 1) := by decide +kernel
theorem dX1_putBracket_36 : decode cX1_putBracket 36 = .ok (.getfield 9, 3) := by decide +kernel
theorem dX1_putBracket_39 : decode cX1_putBracket 39 = .ok (.iload 7, 2) := by decide +kernel
theorem dX1_putBracket_41 : decode cX1_putBracket 41 = .ok (.laload, 1) := by decide +kernel
theorem dX1_putBracket_42 : decode cX1_putBracket 42 = .ok (.lmul, 1) := by decide +kernel
theorem dX1_putBracket_43 : decode cX1_putBracket 43 = .ok (.ldc2_w 15, 3) := by decide +kernel
theorem dX1_putBracket_46 : decode cX1_putBracket 46 = .ok (.lrem, 1) := by decide +kernel
theorem dX1_putBracket_47 : decode cX1_putBracket 47 = .ok (.aload_n 0, 1) := by decide +kernel
theorem dX1_putBracket_48 : decode cX1_putBracket 48 = .ok (.getfield 17, 3) := by decide +kernel
theorem dX1_putBracket_51 : decode cX1_putBracket 51 = .ok (.iload 7, 2) := by decide +kernel
theorem dX1_putBracket_53 : decode cX1_putBracket 53 = .ok (.imul, 1) := by decide +kernel
theorem dX1_putBracket_54 : decode cX1_putBracket 54 = .ok (.aload_n 1, 1) := by decide +kernel
theorem dX1_putBracket_55 : decode cX1_putBracket 55 = .ok (.getfield 17, 3) := by decide +kernel
theorem dX1_putBracket_58 : decode cX1_putBracket 58 = .ok (.iload 6, 2) := by decide +kernel
theorem dX1_putBracket_60 : decode cX1_putBracket 60 = .ok (.imul, 1) := by decide +kernel
theorem dX1_putBracket_61 : decode cX1_putBracket 61 = .ok (.isub, 1) := by decide +kernel
theorem dX1_putBracket_62 : decode cX1_putBracket 62 = .ok (.i2l, 1) := by decide +kernel
theorem dX1_putBracket_63 : decode cX1_putBracket 63 = .ok (.lmul, 1) := by decide +kernel
theorem dX1_putBracket_64 : decode cX1_putBracket 64 = .ok (.ladd, 1) := by decide +kernel
theorem dX1_putBracket_65 : decode cX1_putBracket 65 = .ok (.lstore 4, 2) := by decide +kernel
theorem dX1_putBracket_67 : decode cX1_putBracket 67 = .ok (.iinc 6 1, 3) := by decide +kernel
theorem dX1_putBracket_70 : decode cX1_putBracket 70 = .ok (.goto (-56), 3) := by decide +kernel
theorem dX1_putBracket_73 : decode cX1_putBracket 73 = .ok (.aload_n 2, 1) := by decide +kernel
theorem dX1_putBracket_74 : decode cX1_putBracket 74 = .ok (.iload_n 3, 1) := by decide +kernel
theorem dX1_putBracket_75 : decode cX1_putBracket 75 = .ok (.lload 4, 2) := by decide +kernel
theorem dX1_putBracket_77 : decode cX1_putBracket 77 = .ok (.invokestatic 21, 3) := by decide +kernel
theorem dX1_putBracket_80 : decode cX1_putBracket 80 = .ok (.lastore, 1) := by decide +kernel
theorem dX1_putBracket_81 : decode cX1_putBracket 81 = .ok (.iinc 3 1, 3) := by decide +kernel
theorem dX1_putBracket_84 : decode cX1_putBracket 84 = .ok (.goto (-82), 3) := by decide +kernel
theorem dX1_putBracket_87 : decode cX1_putBracket 87 = .ok (.return_, 1) := by decide +kernel
theorem dX2_rest_0 : decode cX2_rest 0 = .ok (.lload_n 0, 1) := by decide +kernel
theorem dX2_rest_1 : decode cX2_rest 1 = .ok (.ldc2_w 9, 3) := by decide +kernel
theorem dX2_rest_4 : decode cX2_rest 4 = .ok (.invokestatic 11, 3) := by decide +kernel
theorem dX2_rest_7 : decode cX2_rest 7 = .ok (.lreturn, 1) := by decide +kernel
theorem dX2_raised_0 : decode cX2_raised 0 = .ok (.lconst 1, 1) := by decide +kernel
theorem dX2_raised_1 : decode cX2_raised 1 = .ok (.lstore_n 3, 1) := by decide +kernel
theorem dX2_raised_2 : decode cX2_raised 2 = .ok (.bipush 30, 2) := by decide +kernel
theorem dX2_raised_4 : decode cX2_raised 4 = .ok (.istore 5, 2) := by decide +kernel
theorem dX2_raised_6 : decode cX2_raised 6 = .ok (.iload 5, 2) := by decide +kernel
theorem dX2_raised_8 : decode cX2_raised 8 = .ok (.ifCond .lt 35, 3) := by decide +kernel
theorem dX2_raised_11 : decode cX2_raised 11 = .ok (.lload_n 3, 1) := by decide +kernel
theorem dX2_raised_12 : decode cX2_raised 12 = .ok (.lload_n 3, 1) := by decide +kernel
theorem dX2_raised_13 : decode cX2_raised 13 = .ok (.lmul, 1) := by decide +kernel
theorem dX2_raised_14 : decode cX2_raised 14 = .ok (.ldc2_w 9, 3) := by decide +kernel
theorem dX2_raised_17 : decode cX2_raised 17 = .ok (.lrem, 1) := by decide +kernel
theorem dX2_raised_18 : decode cX2_raised 18 = .ok (.lstore_n 3, 1) := by decide +kernel
theorem dX2_raised_19 : decode cX2_raised 19 = .ok (.iload_n 2, 1) := by decide +kernel
theorem dX2_raised_20 : decode cX2_raised 20 = .ok (.iload 5, 2) := by decide +kernel
theorem dX2_raised_22 : decode cX2_raised 22 = .ok (.ishr, 1) := by decide +kernel
theorem dX2_raised_23 : decode cX2_raised 23 = .ok (.iconst 1, 1) := by decide +kernel
theorem dX2_raised_24 : decode cX2_raised 24 = .ok (.iand, 1) := by decide +kernel
theorem dX2_raised_25 : decode cX2_raised 25 = .ok (.iconst 1, 1) := by decide +kernel
theorem dX2_raised_26 : decode cX2_raised 26 = .ok (.if_icmp .ne 11, 3) := by decide +kernel
theorem dX2_raised_29 : decode cX2_raised 29 = .ok (.lload_n 3, 1) := by decide +kernel
theorem dX2_raised_30 : decode cX2_raised 30 = .ok (.lload_n 0, 1) := by decide +kernel
theorem dX2_raised_31 : decode cX2_raised 31 = .ok (.lmul, 1) := by decide +kernel
theorem dX2_raised_32 : decode cX2_raised 32 = .ok (.ldc2_w 9, 3) := by decide +kernel
theorem dX2_raised_35 : decode cX2_raised 35 = .ok (.lrem, 1) := by decide +kernel
theorem dX2_raised_36 : decode cX2_raised 36 = .ok (.lstore_n 3, 1) := by decide +kernel
theorem dX2_raised_37 : decode cX2_raised 37 = .ok (.iinc 5 (-1), 3) := by decide +kernel
theorem dX2_raised_40 : decode cX2_raised 40 = .ok (.goto (-34), 3) := by decide +kernel
theorem dX2_raised_43 : decode cX2_raised 43 = .ok (.lload_n 3, 1) := by decide +kernel
theorem dX2_raised_44 : decode cX2_raised 44 = .ok (.lreturn, 1) := by decide +kernel
theorem dX2_quotient_0 : decode cX2_quotient 0 = .ok (.lload_n 0, 1) := by decide +kernel
theorem dX2_quotient_1 : decode cX2_quotient 1 = .ok (.invokestatic 17, 3) := by decide +kernel
theorem dX2_quotient_4 : decode cX2_quotient 4 = .ok (.lload_n 2, 1) := by decide +kernel
theorem dX2_quotient_5 : decode cX2_quotient 5 = .ok (.invokestatic 17, 3) := by decide +kernel
theorem dX2_quotient_8 : decode cX2_quotient 8 = .ok (.ldc 23, 2) := by decide +kernel
theorem dX2_quotient_10 : decode cX2_quotient 10 = .ok (.invokestatic 24, 3) := by decide +kernel
theorem dX2_quotient_13 : decode cX2_quotient 13 = .ok (.lmul, 1) := by decide +kernel
theorem dX2_quotient_14 : decode cX2_quotient 14 = .ok (.ldc2_w 9, 3) := by decide +kernel
theorem dX2_quotient_17 : decode cX2_quotient 17 = .ok (.lrem, 1) := by decide +kernel
theorem dX2_quotient_18 : decode cX2_quotient 18 = .ok (.lreturn, 1) := by decide +kernel
theorem dX3_multiply_0 : decode cX3_multiply 0 = .ok (.bipush 47, 2) := by decide +kernel
theorem dX3_multiply_2 : decode cX3_multiply 2 = .ok (.istore_n 3, 1) := by decide +kernel
theorem dX3_multiply_3 : decode cX3_multiply 3 = .ok (.iload_n 3, 1) := by decide +kernel
theorem dX3_multiply_4 : decode cX3_multiply 4 = .ok (.ifCond .lt 52, 3) := by decide +kernel
theorem dX3_multiply_7 : decode cX3_multiply 7 = .ok (.lconst 0, 1) := by decide +kernel
theorem dX3_multiply_8 : decode cX3_multiply 8 = .ok (.lstore 4, 2) := by decide +kernel
theorem dX3_multiply_10 : decode cX3_multiply 10 = .ok (.iconst 0, 1) := by decide +kernel
theorem dX3_multiply_11 : decode cX3_multiply 11 = .ok (.istore 6, 2) := by decide +kernel
theorem dX3_multiply_13 : decode cX3_multiply 13 = .ok (.iload 6, 2) := by decide +kernel
theorem dX3_multiply_15 : decode cX3_multiply 15 = .ok (.iload_n 3, 1) := by decide +kernel
theorem dX3_multiply_16 : decode cX3_multiply 16 = .ok (.if_icmp .gt 25, 3) := by decide +kernel
theorem dX3_multiply_19 : decode cX3_multiply 19 = .ok (.lload 4, 2) := by decide +kernel
theorem dX3_multiply_21 : decode cX3_multiply 21 = .ok (.aload_n 0, 1) := by decide +kernel
theorem dX3_multiply_22 : decode cX3_multiply 22 = .ok (.iload 6, 2) := by decide +kernel
theorem dX3_multiply_24 : decode cX3_multiply 24 = .ok (.laload, 1) := by decide +kernel
theorem dX3_multiply_25 : decode cX3_multiply 25 = .ok (.aload_n 1, 1) := by decide +kernel
theorem dX3_multiply_26 : decode cX3_multiply 26 = .ok (.iload_n 3, 1) := by decide +kernel
theorem dX3_multiply_27 : decode cX3_multiply 27 = .ok (.iload 6, 2) := by decide +kernel
theorem dX3_multiply_29 : decode cX3_multiply 29 = .ok (.isub, 1) := by decide +kernel
theorem dX3_multiply_30 : decode cX3_multiply 30 = .ok (.laload, 1) := by decide +kernel
theorem dX3_multiply_31 : decode cX3_multiply 31 = .ok (.lmul, 1) := by decide +kernel
theorem dX3_multiply_32 : decode cX3_multiply 32 = .ok (.ladd, 1) := by decide +kernel
theorem dX3_multiply_33 : decode cX3_multiply 33 = .ok (.lstore 4, 2) := by decide +kernel
theorem dX3_multiply_35 : decode cX3_multiply 35 = .ok (.iinc 6 1, 3) := by decide +kernel
theorem dX3_multiply_38 : decode cX3_multiply 38 = .ok (.goto (-25), 3) := by decide +kernel
theorem dX3_multiply_41 : decode cX3_multiply 41 = .ok (.aload_n 2, 1) := by decide +kernel
theorem dX3_multiply_42 : decode cX3_multiply 42 = .ok (.iload_n 3, 1) := by decide +kernel
theorem dX3_multiply_43 : decode cX3_multiply 43 = .ok (.lload 4, 2) := by decide +kernel
theorem dX3_multiply_45 : decode cX3_multiply 45 = .ok (.ldc2_w 9, 3) := by decide +kernel
theorem dX3_multiply_48 : decode cX3_multiply 48 = .ok (.lrem, 1) := by decide +kernel
theorem dX3_multiply_49 : decode cX3_multiply 49 = .ok (.lastore, 1) := by decide +kernel
theorem dX3_multiply_50 : decode cX3_multiply 50 = .ok (.iinc 3 (-1), 3) := by decide +kernel
theorem dX3_multiply_53 : decode cX3_multiply 53 = .ok (.goto (-50), 3) := by decide +kernel
theorem dX3_multiply_56 : decode cX3_multiply 56 = .ok (.return_, 1) := by decide +kernel
theorem dX3_raise_0 : decode cX3_raise 0 = .ok (.aload_n 2, 1) := by decide +kernel
theorem dX3_raise_1 : decode cX3_raise 1 = .ok (.invokestatic 11, 3) := by decide +kernel
theorem dX3_raise_4 : decode cX3_raise 4 = .ok (.iconst 4, 1) := by decide +kernel
theorem dX3_raise_5 : decode cX3_raise 5 = .ok (.istore_n 3, 1) := by decide +kernel
theorem dX3_raise_6 : decode cX3_raise 6 = .ok (.iload_n 3, 1) := by decide +kernel
theorem dX3_raise_7 : decode cX3_raise 7 = .ok (.ifCond .lt 30, 3) := by decide +kernel
theorem dX3_raise_10 : decode cX3_raise 10 = .ok (.aload_n 2, 1) := by decide +kernel
theorem dX3_raise_11 : decode cX3_raise 11 = .ok (.aload_n 2, 1) := by decide +kernel
theorem dX3_raise_12 : decode cX3_raise 12 = .ok (.aload_n 2, 1) := by decide +kernel
theorem dX3_raise_13 : decode cX3_raise 13 = .ok (.invokestatic 17, 3) := by decide +kernel
theorem dX3_raise_16 : decode cX3_raise 16 = .ok (.iload_n 1, 1) := by decide +kernel
theorem dX3_raise_17 : decode cX3_raise 17 = .ok (.iload_n 3, 1) := by decide +kernel
theorem dX3_raise_18 : decode cX3_raise 18 = .ok (.ishr, 1) := by decide +kernel
theorem dX3_raise_19 : decode cX3_raise 19 = .ok (.iconst 1, 1) := by decide +kernel
theorem dX3_raise_20 : decode cX3_raise 20 = .ok (.iand, 1) := by decide +kernel
theorem dX3_raise_21 : decode cX3_raise 21 = .ok (.iconst 1, 1) := by decide +kernel
theorem dX3_raise_22 : decode cX3_raise 22 = .ok (.if_icmp .ne 9, 3) := by decide +kernel
theorem dX3_raise_25 : decode cX3_raise 25 = .ok (.aload_n 2, 1) := by decide +kernel
theorem dX3_raise_26 : decode cX3_raise 26 = .ok (.aload_n 0, 1) := by decide +kernel
theorem dX3_raise_27 : decode cX3_raise 27 = .ok (.aload_n 2, 1) := by decide +kernel
theorem dX3_raise_28 : decode cX3_raise 28 = .ok (.invokestatic 17, 3) := by decide +kernel
theorem dX3_raise_31 : decode cX3_raise 31 = .ok (.iinc 3 (-1), 3) := by decide +kernel
theorem dX3_raise_34 : decode cX3_raise 34 = .ok (.goto (-28), 3) := by decide +kernel
theorem dX3_raise_37 : decode cX3_raise 37 = .ok (.return_, 1) := by decide +kernel
theorem dX3_putOne_0 : decode cX3_putOne 0 = .ok (.iconst 0, 1) := by decide +kernel
theorem dX3_putOne_1 : decode cX3_putOne 1 = .ok (.istore_n 1, 1) := by decide +kernel
theorem dX3_putOne_2 : decode cX3_putOne 2 = .ok (.iload_n 1, 1) := by decide +kernel
theorem dX3_putOne_3 : decode cX3_putOne 3 = .ok (.bipush 48, 2) := by decide +kernel
theorem dX3_putOne_5 : decode cX3_putOne 5 = .ok (.if_icmp .ge 21, 3) := by decide +kernel
theorem dX3_putOne_8 : decode cX3_putOne 8 = .ok (.aload_n 0, 1) := by decide +kernel
theorem dX3_putOne_9 : decode cX3_putOne 9 = .ok (.iload_n 1, 1) := by decide +kernel
theorem dX3_putOne_10 : decode cX3_putOne 10 = .ok (.iload_n 1, 1) := by decide +kernel
theorem dX3_putOne_11 : decode cX3_putOne 11 = .ok (.ifCond .ne 7, 3) := by decide +kernel
theorem dX3_putOne_14 : decode cX3_putOne 14 = .ok (.lconst 1, 1) := by decide +kernel
theorem dX3_putOne_15 : decode cX3_putOne 15 = .ok (.goto 4, 3) := by decide +kernel
theorem dX3_putOne_18 : decode cX3_putOne 18 = .ok (.lconst 0, 1) := by decide +kernel
theorem dX3_putOne_19 : decode cX3_putOne 19 = .ok (.lastore, 1) := by decide +kernel
theorem dX3_putOne_20 : decode cX3_putOne 20 = .ok (.iinc 1 1, 3) := by decide +kernel
theorem dX3_putOne_23 : decode cX3_putOne 23 = .ok (.goto (-21), 3) := by decide +kernel
theorem dX3_putOne_26 : decode cX3_putOne 26 = .ok (.return_, 1) := by decide +kernel
theorem dX3_putSums_0 : decode cX3_putSums 0 = .ok (.aload_n 3, 1) := by decide +kernel
theorem dX3_putSums_1 : decode cX3_putSums 1 = .ok (.invokestatic 11, 3) := by decide +kernel
theorem dX3_putSums_4 : decode cX3_putSums 4 = .ok (.iconst 1, 1) := by decide +kernel
theorem dX3_putSums_5 : decode cX3_putSums 5 = .ok (.istore 4, 2) := by decide +kernel
theorem dX3_putSums_7 : decode cX3_putSums 7 = .ok (.iload 4, 2) := by decide +kernel
theorem dX3_putSums_9 : decode cX3_putSums 9 = .ok (.bipush 48, 2) := by decide +kernel
theorem dX3_putSums_11 : decode cX3_putSums 11 = .ok (.if_icmp .ge 60, 3) := by decide +kernel
theorem dX3_putSums_14 : decode cX3_putSums 14 = .ok (.lload_n 0, 1) := by decide +kernel
theorem dX3_putSums_15 : decode cX3_putSums 15 = .ok (.iload 4, 2) := by decide +kernel
theorem dX3_putSums_17 : decode cX3_putSums 17 = .ok (.i2l, 1) := by decide +kernel
theorem dX3_putSums_18 : decode cX3_putSums 18 = .ok (.iload_n 2, 1) := by decide +kernel
theorem dX3_putSums_19 : decode cX3_putSums 19 = .ok (.invokestatic 21, 3) := by decide +kernel
theorem dX3_putSums_22 : decode cX3_putSums 22 = .ok (.lmul, 1) := by decide +kernel
theorem dX3_putSums_23 : decode cX3_putSums 23 = .ok (.ldc2_w 9, 3) := by decide +kernel
theorem dX3_putSums_26 : decode cX3_putSums 26 = .ok (.lrem, 1) := by decide +kernel
theorem dX3_putSums_27 : decode cX3_putSums 27 = .ok (.lstore 5, 2) := by decide +kernel
theorem dX3_putSums_29 : decode cX3_putSums 29 = .ok (.iload 4, 2) := by decide +kernel
theorem dX3_putSums_31 : decode cX3_putSums 31 = .ok (.istore 7, 2) := by decide +kernel
theorem dX3_putSums_33 : decode cX3_putSums 33 = .ok (.iload 7, 2) := by decide +kernel
theorem dX3_putSums_35 : decode cX3_putSums 35 = .ok (.bipush 48, 2) := by decide +kernel
theorem dX3_putSums_37 : decode cX3_putSums 37 = .ok (.if_icmp .ge 28, 3) := by decide +kernel
theorem dX3_putSums_40 : decode cX3_putSums 40 = .ok (.aload_n 3, 1) := by decide +kernel
theorem dX3_putSums_41 : decode cX3_putSums 41 = .ok (.iload 7, 2) := by decide +kernel
theorem dX3_putSums_43 : decode cX3_putSums 43 = .ok (.aload_n 3, 1) := by decide +kernel
theorem dX3_putSums_44 : decode cX3_putSums 44 = .ok (.iload 7, 2) := by decide +kernel
theorem dX3_putSums_46 : decode cX3_putSums 46 = .ok (.laload, 1) := by decide +kernel
theorem dX3_putSums_47 : decode cX3_putSums 47 = .ok (.lload 5, 2) := by decide +kernel
theorem dX3_putSums_49 : decode cX3_putSums 49 = .ok (.ladd, 1) := by decide +kernel
theorem dX3_putSums_50 : decode cX3_putSums 50 = .ok (.ldc2_w 9, 3) := by decide +kernel
theorem dX3_putSums_53 : decode cX3_putSums 53 = .ok (.lrem, 1) := by decide +kernel
theorem dX3_putSums_54 : decode cX3_putSums 54 = .ok (.lastore, 1) := by decide +kernel
theorem dX3_putSums_55 : decode cX3_putSums 55 = .ok (.iload 7, 2) := by decide +kernel
theorem dX3_putSums_57 : decode cX3_putSums 57 = .ok (.iload 4, 2) := by decide +kernel
theorem dX3_putSums_59 : decode cX3_putSums 59 = .ok (.iadd, 1) := by decide +kernel
theorem dX3_putSums_60 : decode cX3_putSums 60 = .ok (.istore 7, 2) := by decide +kernel
theorem dX3_putSums_62 : decode cX3_putSums 62 = .ok (.goto (-29), 3) := by decide +kernel
theorem dX3_putSums_65 : decode cX3_putSums 65 = .ok (.iinc 4 1, 3) := by decide +kernel
theorem dX3_putSums_68 : decode cX3_putSums 68 = .ok (.goto (-61), 3) := by decide +kernel
theorem dX3_putSums_71 : decode cX3_putSums 71 = .ok (.return_, 1) := by decide +kernel
theorem dX3_putD_0 : decode cX3_putD 0 = .ok (.bipush 48, 2) := by decide +kernel
theorem dX3_putD_2 : decode cX3_putD 2 = .ok (.newarray .long, 2) := by decide +kernel
theorem dX3_putD_4 : decode cX3_putD 4 = .ok (.astore_n 1, 1) := by decide +kernel
theorem dX3_putD_5 : decode cX3_putD 5 = .ok (.aload_n 1, 1) := by decide +kernel
theorem dX3_putD_6 : decode cX3_putD 6 = .ok (.invokestatic 11, 3) := by decide +kernel
theorem dX3_putD_9 : decode cX3_putD 9 = .ok (.iconst 1, 1) := by decide +kernel
theorem dX3_putD_10 : decode cX3_putD 10 = .ok (.istore_n 2, 1) := by decide +kernel
theorem dX3_putD_11 : decode cX3_putD 11 = .ok (.iload_n 2, 1) := by decide +kernel
theorem dX3_putD_12 : decode cX3_putD 12 = .ok (.bipush 48, 2) := by decide +kernel
theorem dX3_putD_14 : decode cX3_putD 14 = .ok (.if_icmp .ge 38, 3) := by decide +kernel
theorem dX3_putD_17 : decode cX3_putD 17 = .ok (.bipush 47, 2) := by decide +kernel
theorem dX3_putD_19 : decode cX3_putD 19 = .ok (.istore_n 3, 1) := by decide +kernel
theorem dX3_putD_20 : decode cX3_putD 20 = .ok (.iload_n 3, 1) := by decide +kernel
theorem dX3_putD_21 : decode cX3_putD 21 = .ok (.iload_n 2, 1) := by decide +kernel
theorem dX3_putD_22 : decode cX3_putD 22 = .ok (.if_icmp .lt 24, 3) := by decide +kernel
theorem dX3_putD_25 : decode cX3_putD 25 = .ok (.aload_n 1, 1) := by decide +kernel
theorem dX3_putD_26 : decode cX3_putD 26 = .ok (.iload_n 3, 1) := by decide +kernel
theorem dX3_putD_27 : decode cX3_putD 27 = .ok (.aload_n 1, 1) := by decide +kernel
theorem dX3_putD_28 : decode cX3_putD 28 = .ok (.iload_n 3, 1) := by decide +kernel
theorem dX3_putD_29 : decode cX3_putD 29 = .ok (.laload, 1) := by decide +kernel
theorem dX3_putD_30 : decode cX3_putD 30 = .ok (.aload_n 1, 1) := by decide +kernel
theorem dX3_putD_31 : decode cX3_putD 31 = .ok (.iload_n 3, 1) := by decide +kernel
theorem dX3_putD_32 : decode cX3_putD 32 = .ok (.iload_n 2, 1) := by decide +kernel
theorem dX3_putD_33 : decode cX3_putD 33 = .ok (.isub, 1) := by decide +kernel
theorem dX3_putD_34 : decode cX3_putD 34 = .ok (.laload, 1) := by decide +kernel
theorem dX3_putD_35 : decode cX3_putD 35 = .ok (.lsub, 1) := by decide +kernel
theorem dX3_putD_36 : decode cX3_putD 36 = .ok (.invokestatic 27, 3) := by decide +kernel
theorem dX3_putD_39 : decode cX3_putD 39 = .ok (.lastore, 1) := by decide +kernel
theorem dX3_putD_40 : decode cX3_putD 40 = .ok (.iinc 3 (-1), 3) := by decide +kernel
theorem dX3_putD_43 : decode cX3_putD 43 = .ok (.goto (-23), 3) := by decide +kernel
theorem dX3_putD_46 : decode cX3_putD 46 = .ok (.iinc 2 1, 3) := by decide +kernel
theorem dX3_putD_49 : decode cX3_putD 49 = .ok (.goto (-38), 3) := by decide +kernel
theorem dX3_putD_52 : decode cX3_putD 52 = .ok (.aload_n 1, 1) := by decide +kernel
theorem dX3_putD_53 : decode cX3_putD 53 = .ok (.bipush 24, 2) := by decide +kernel
theorem dX3_putD_55 : decode cX3_putD 55 = .ok (.aload_n 0, 1) := by decide +kernel
theorem dX3_putD_56 : decode cX3_putD 56 = .ok (.invokestatic 31, 3) := by decide +kernel
theorem dX3_putD_59 : decode cX3_putD 59 = .ok (.aload_n 0, 1) := by decide +kernel
theorem dX3_putD_60 : decode cX3_putD 60 = .ok (.iconst 0, 1) := by decide +kernel
theorem dX3_putD_61 : decode cX3_putD 61 = .ok (.aload_n 0, 1) := by decide +kernel
theorem dX3_putD_62 : decode cX3_putD 62 = .ok (.iconst 1, 1) := by decide +kernel
theorem dX3_putD_63 : decode cX3_putD 63 = .ok (.bipush 47, 2) := by decide +kernel
theorem dX3_putD_65 : decode cX3_putD 65 = .ok (.invokestatic 35, 3) := by decide +kernel
theorem dX3_putD_68 : decode cX3_putD 68 = .ok (.aload_n 0, 1) := by decide +kernel
theorem dX3_putD_69 : decode cX3_putD 69 = .ok (.iconst 0, 1) := by decide +kernel
theorem dX3_putD_70 : decode cX3_putD 70 = .ok (.lconst 0, 1) := by decide +kernel
theorem dX3_putD_71 : decode cX3_putD 71 = .ok (.lastore, 1) := by decide +kernel
theorem dX3_putD_72 : decode cX3_putD 72 = .ok (.return_, 1) := by decide +kernel
theorem dX3_leastPlace_0 : decode cX3_leastPlace 0 = .ok (.iconst 0, 1) := by decide +kernel
theorem dX3_leastPlace_1 : decode cX3_leastPlace 1 = .ok (.istore_n 1, 1) := by decide +kernel
theorem dX3_leastPlace_2 : decode cX3_leastPlace 2 = .ok (.iload_n 1, 1) := by decide +kernel
theorem dX3_leastPlace_3 : decode cX3_leastPlace 3 = .ok (.bipush 48, 2) := by decide +kernel
theorem dX3_leastPlace_5 : decode cX3_leastPlace 5 = .ok (.if_icmp .ge 19, 3) := by decide +kernel
theorem dX3_leastPlace_8 : decode cX3_leastPlace 8 = .ok (.aload_n 0, 1) := by decide +kernel
theorem dX3_leastPlace_9 : decode cX3_leastPlace 9 = .ok (.iload_n 1, 1) := by decide +kernel
theorem dX3_leastPlace_10 : decode cX3_leastPlace 10 = .ok (.laload, 1) := by decide +kernel
theorem dX3_leastPlace_11 : decode cX3_leastPlace 11 = .ok (.lconst 0, 1) := by decide +kernel
theorem dX3_leastPlace_12 : decode cX3_leastPlace 12 = .ok (.lcmp, 1) := by decide +kernel
theorem dX3_leastPlace_13 : decode cX3_leastPlace 13 = .ok (.ifCond .eq 5, 3) := by decide +kernel
theorem dX3_leastPlace_16 : decode cX3_leastPlace 16 = .ok (.iload_n 1, 1) := by decide +kernel
theorem dX3_leastPlace_17 : decode cX3_leastPlace 17 = .ok (.ireturn, 1) := by decide +kernel
theorem dX3_leastPlace_18 : decode cX3_leastPlace 18 = .ok (.iinc 1 1, 3) := by decide +kernel
theorem dX3_leastPlace_21 : decode cX3_leastPlace 21 = .ok (.goto (-19), 3) := by decide +kernel
theorem dX3_leastPlace_24 : decode cX3_leastPlace 24 = .ok (.iconst (-1), 1) := by decide +kernel
theorem dX3_leastPlace_25 : decode cX3_leastPlace 25 = .ok (.ireturn, 1) := by decide +kernel
theorem dX3_firstUnlike_0 : decode cX3_firstUnlike 0 = .ok (.iconst 0, 1) := by decide +kernel
theorem dX3_firstUnlike_1 : decode cX3_firstUnlike 1 = .ok (.istore_n 2, 1) := by decide +kernel
theorem dX3_firstUnlike_2 : decode cX3_firstUnlike 2 = .ok (.iload_n 2, 1) := by decide +kernel
theorem dX3_firstUnlike_3 : decode cX3_firstUnlike 3 = .ok (.bipush 48, 2) := by decide +kernel
theorem dX3_firstUnlike_5 : decode cX3_firstUnlike 5 = .ok (.if_icmp .ge 21, 3) := by decide +kernel
theorem dX3_firstUnlike_8 : decode cX3_firstUnlike 8 = .ok (.aload_n 0, 1) := by decide +kernel
theorem dX3_firstUnlike_9 : decode cX3_firstUnlike 9 = .ok (.iload_n 2, 1) := by decide +kernel
theorem dX3_firstUnlike_10 : decode cX3_firstUnlike 10 = .ok (.laload, 1) := by decide +kernel
theorem dX3_firstUnlike_11 : decode cX3_firstUnlike 11 = .ok (.aload_n 1, 1) := by decide +kernel
theorem dX3_firstUnlike_12 : decode cX3_firstUnlike 12 = .ok (.iload_n 2, 1) := by decide +kernel
theorem dX3_firstUnlike_13 : decode cX3_firstUnlike 13 = .ok (.laload, 1) := by decide +kernel
theorem dX3_firstUnlike_14 : decode cX3_firstUnlike 14 = .ok (.lcmp, 1) := by decide +kernel
theorem dX3_firstUnlike_15 : decode cX3_firstUnlike 15 = .ok (.ifCond .eq 5, 3) := by decide +kernel
theorem dX3_firstUnlike_18 : decode cX3_firstUnlike 18 = .ok (.iload_n 2, 1) := by decide +kernel
theorem dX3_firstUnlike_19 : decode cX3_firstUnlike 19 = .ok (.ireturn, 1) := by decide +kernel
theorem dX3_firstUnlike_20 : decode cX3_firstUnlike 20 = .ok (.iinc 2 1, 3) := by decide +kernel
theorem dX3_firstUnlike_23 : decode cX3_firstUnlike 23 = .ok (.goto (-21), 3) := by decide +kernel
theorem dX3_firstUnlike_26 : decode cX3_firstUnlike 26 = .ok (.iconst (-1), 1) := by decide +kernel
theorem dX3_firstUnlike_27 : decode cX3_firstUnlike 27 = .ok (.ireturn, 1) := by decide +kernel
theorem dX3_ratio_0 : decode cX3_ratio 0 = .ok (.aload_n 1, 1) := by decide +kernel
theorem dX3_ratio_1 : decode cX3_ratio 1 = .ok (.invokestatic 41, 3) := by decide +kernel
theorem dX3_ratio_4 : decode cX3_ratio 4 = .ok (.istore_n 3, 1) := by decide +kernel
theorem dX3_ratio_5 : decode cX3_ratio 5 = .ok (.iload_n 3, 1) := by decide +kernel
theorem dX3_ratio_6 : decode cX3_ratio 6 = .ok (.iconst (-1), 1) := by decide +kernel
theorem dX3_ratio_7 : decode cX3_ratio 7 = .ok (.if_icmp .eq 8, 3) := by decide +kernel
theorem dX3_ratio_10 : decode cX3_ratio 10 = .ok (.iload_n 3, 1) := by decide +kernel
theorem dX3_ratio_11 : decode cX3_ratio 11 = .ok (.iload_n 2, 1) := by decide +kernel
theorem dX3_ratio_12 : decode cX3_ratio 12 = .ok (.if_icmp .lt 5, 3) := by decide +kernel
theorem dX3_ratio_15 : decode cX3_ratio 15 = .ok (.iconst (-1), 1) := by decide +kernel
theorem dX3_ratio_16 : decode cX3_ratio 16 = .ok (.ireturn, 1) := by decide +kernel
theorem dX3_ratio_17 : decode cX3_ratio 17 = .ok (.aload_n 0, 1) := by decide +kernel
theorem dX3_ratio_18 : decode cX3_ratio 18 = .ok (.iload_n 3, 1) := by decide +kernel
theorem dX3_ratio_19 : decode cX3_ratio 19 = .ok (.laload, 1) := by decide +kernel
theorem dX3_ratio_20 : decode cX3_ratio 20 = .ok (.aload_n 1, 1) := by decide +kernel
theorem dX3_ratio_21 : decode cX3_ratio 21 = .ok (.iload_n 3, 1) := by decide +kernel
theorem dX3_ratio_22 : decode cX3_ratio 22 = .ok (.laload, 1) := by decide +kernel
theorem dX3_ratio_23 : decode cX3_ratio 23 = .ok (.invokestatic 45, 3) := by decide +kernel
theorem dX3_ratio_26 : decode cX3_ratio 26 = .ok (.lstore 4, 2) := by decide +kernel
theorem dX3_ratio_28 : decode cX3_ratio 28 = .ok (.iconst 0, 1) := by decide +kernel
theorem dX3_ratio_29 : decode cX3_ratio 29 = .ok (.istore 6, 2) := by decide +kernel
theorem dX3_ratio_31 : decode cX3_ratio 31 = .ok (.iload 6, 2) := by decide +kernel
theorem dX3_ratio_33 : decode cX3_ratio 33 = .ok (.iload_n 2, 1) := by decide +kernel
theorem dX3_ratio_34 : decode cX3_ratio 34 = .ok (.if_icmp .ge 30, 3) := by decide +kernel
theorem dX3_ratio_37 : decode cX3_ratio 37 = .ok (.aload_n 0, 1) := by decide +kernel
theorem dX3_ratio_38 : decode cX3_ratio 38 = .ok (.iload 6, 2) := by decide +kernel
theorem dX3_ratio_40 : decode cX3_ratio 40 = .ok (.laload, 1) := by decide +kernel
theorem dX3_ratio_41 : decode cX3_ratio 41 = .ok (.lload 4, 2) := by decide +kernel
theorem dX3_ratio_43 : decode cX3_ratio 43 = .ok (.aload_n 1, 1) := by decide +kernel
theorem dX3_ratio_44 : decode cX3_ratio 44 = .ok (.iload 6, 2) := by decide +kernel
theorem dX3_ratio_46 : decode cX3_ratio 46 = .ok (.laload, 1) := by decide +kernel
theorem dX3_ratio_47 : decode cX3_ratio 47 = .ok (.lmul, 1) := by decide +kernel
theorem dX3_ratio_48 : decode cX3_ratio 48 = .ok (.ldc2_w 9, 3) := by decide +kernel
theorem dX3_ratio_51 : decode cX3_ratio 51 = .ok (.lrem, 1) := by decide +kernel
theorem dX3_ratio_52 : decode cX3_ratio 52 = .ok (.lcmp, 1) := by decide +kernel
theorem dX3_ratio_53 : decode cX3_ratio 53 = .ok (.ifCond .eq 5, 3) := by decide +kernel
theorem dX3_ratio_56 : decode cX3_ratio 56 = .ok (.iconst (-1), 1) := by decide +kernel
theorem dX3_ratio_57 : decode cX3_ratio 57 = .ok (.ireturn, 1) := by decide +kernel
theorem dX3_ratio_58 : decode cX3_ratio 58 = .ok (.iinc 6 1, 3) := by decide +kernel
theorem dX3_ratio_61 : decode cX3_ratio 61 = .ok (.goto (-30), 3) := by decide +kernel
theorem dX3_ratio_64 : decode cX3_ratio 64 = .ok (.lload 4, 2) := by decide +kernel
theorem dX3_ratio_66 : decode cX3_ratio 66 = .ok (.l2i, 1) := by decide +kernel
theorem dX3_ratio_67 : decode cX3_ratio 67 = .ok (.ireturn, 1) := by decide +kernel
end
section
theorem dX4_init_0 : decode cX4_init 0 = .ok (.aload_n 0, 1) := by decide +kernel
theorem dX4_init_1 : decode cX4_init 1 = .ok (.invokespecial 1, 3) := by decide +kernel
theorem dX4_init_4 : decode cX4_init 4 = .ok (.aload_n 0, 1) := by decide +kernel
theorem dX4_init_5 : decode cX4_init 5 = .ok (.bipush 16, 2) := by decide +kernel
theorem dX4_init_7 : decode cX4_init 7 = .ok (.anewarray 9, 3) := by decide +kernel
theorem dX4_init_10 : decode cX4_init 10 = .ok (.putfield 11, 3) := by decide +kernel
theorem dX4_init_13 : decode cX4_init 13 = .ok (.aload_n 0, 1) := by decide +kernel
theorem dX4_init_14 : decode cX4_init 14 = .ok (.new 15, 3) := by decide +kernel
theorem dX4_init_17 : decode cX4_init 17 = .ok (.dup, 1) := by decide +kernel
theorem dX4_init_18 : decode cX4_init 18 = .ok (.invokespecial 17, 3) := by decide +kernel
theorem dX4_init_21 : decode cX4_init 21 = .ok (.putfield 18, 3) := by decide +kernel
theorem dX4_init_24 : decode cX4_init 24 = .ok (.aload_n 0, 1) := by decide +kernel
theorem dX4_init_25 : decode cX4_init 25 = .ok (.iconst 4, 1) := by decide +kernel
theorem dX4_init_26 : decode cX4_init 26 = .ok (.newarray .long, 2) := by decide +kernel
theorem dX4_init_28 : decode cX4_init 28 = .ok (.putfield 22, 3) := by decide +kernel
theorem dX4_init_31 : decode cX4_init 31 = .ok (.aload_n 0, 1) := by decide +kernel
theorem dX4_init_32 : decode cX4_init 32 = .ok (.iconst 4, 1) := by decide +kernel
theorem dX4_init_33 : decode cX4_init 33 = .ok (.newarray .long, 2) := by decide +kernel
theorem dX4_init_35 : decode cX4_init 35 = .ok (.putfield 26, 3) := by decide +kernel
theorem dX4_init_38 : decode cX4_init 38 = .ok (.aload_n 0, 1) := by decide +kernel
theorem dX4_init_39 : decode cX4_init 39 = .ok (.bipush 100, 2) := by decide +kernel
theorem dX4_init_41 : decode cX4_init 41 = .ok (.newarray .int, 2) := by decide +kernel
theorem dX4_init_43 : decode cX4_init 43 = .ok (.putfield 29, 3) := by decide +kernel
theorem dX4_init_46 : decode cX4_init 46 = .ok (.aload_n 0, 1) := by decide +kernel
theorem dX4_init_47 : decode cX4_init 47 = .ok (.bipush 48, 2) := by decide +kernel
theorem dX4_init_49 : decode cX4_init 49 = .ok (.newarray .long, 2) := by decide +kernel
theorem dX4_init_51 : decode cX4_init 51 = .ok (.putfield 33, 3) := by decide +kernel
theorem dX4_init_54 : decode cX4_init 54 = .ok (.aload_n 0, 1) := by decide +kernel
theorem dX4_init_55 : decode cX4_init 55 = .ok (.iconst (-1), 1) := by decide +kernel
theorem dX4_init_56 : decode cX4_init 56 = .ok (.putfield 36, 3) := by decide +kernel
theorem dX4_init_59 : decode cX4_init 59 = .ok (.aload_n 0, 1) := by decide +kernel
theorem dX4_init_60 : decode cX4_init 60 = .ok (.bipush 9, 2) := by decide +kernel
theorem dX4_init_62 : decode cX4_init 62 = .ok (.newarray .int, 2) := by decide +kernel
theorem dX4_init_64 : decode cX4_init 64 = .ok (.putfield 40, 3) := by decide +kernel
theorem dX4_init_67 : decode cX4_init 67 = .ok (.iconst 0, 1) := by decide +kernel
theorem dX4_init_68 : decode cX4_init 68 = .ok (.istore_n 1, 1) := by decide +kernel
theorem dX4_init_69 : decode cX4_init 69 = .ok (.iload_n 1, 1) := by decide +kernel
theorem dX4_init_70 : decode cX4_init 70 = .ok (.bipush 16, 2) := by decide +kernel
theorem dX4_init_72 : decode cX4_init 72 = .ok (.if_icmp .ge 22, 3) := by decide +kernel
theorem dX4_init_75 : decode cX4_init 75 = .ok (.aload_n 0, 1) := by decide +kernel
theorem dX4_init_76 : decode cX4_init 76 = .ok (.getfield 11, 3) := by decide +kernel
theorem dX4_init_79 : decode cX4_init 79 = .ok (.iload_n 1, 1) := by decide +kernel
theorem dX4_init_80 : decode cX4_init 80 = .ok (.new 9, 3) := by decide +kernel
theorem dX4_init_83 : decode cX4_init 83 = .ok (.dup, 1) := by decide +kernel
theorem dX4_init_84 : decode cX4_init 84 = .ok (.invokespecial 43, 3) := by decide +kernel
theorem dX4_init_87 : decode cX4_init 87 = .ok (.aastore, 1) := by decide +kernel
theorem dX4_init_88 : decode cX4_init 88 = .ok (.iinc 1 1, 3) := by decide +kernel
theorem dX4_init_91 : decode cX4_init 91 = .ok (.goto (-22), 3) := by decide +kernel
theorem dX4_init_94 : decode cX4_init 94 = .ok (.return_, 1) := by decide +kernel
theorem dX4_sums_0 : decode cX4_sums 0 = .ok (.iload_n 1, 1) := by decide +kernel
theorem dX4_sums_1 : decode cX4_sums 1 = .ok (.invokestatic 44, 3) := by decide +kernel
theorem dX4_sums_4 : decode cX4_sums 4 = .ok (.istore_n 2, 1) := by decide +kernel
theorem dX4_sums_5 : decode cX4_sums 5 = .ok (.iload_n 2, 1) := by decide +kernel
theorem dX4_sums_6 : decode cX4_sums 6 = .ok (.iconst (-1), 1) := by decide +kernel
theorem dX4_sums_7 : decode cX4_sums 7 = .ok (.if_icmp .ne 10, 3) := by decide +kernel
theorem dX4_sums_10 : decode cX4_sums 10 = .ok (.aload_n 0, 1) := by decide +kernel
theorem dX4_sums_11 : decode cX4_sums 11 = .ok (.bipush (-7), 2) := by decide +kernel
theorem dX4_sums_13 : decode cX4_sums 13 = .ok (.invokevirtual 48, 3) := by decide +kernel
theorem dX4_sums_16 : decode cX4_sums 16 = .ok (.ireturn, 1) := by decide +kernel
theorem dX4_sums_17 : decode cX4_sums 17 = .ok (.aload_n 0, 1) := by decide +kernel
theorem dX4_sums_18 : decode cX4_sums 18 = .ok (.iload_n 1, 1) := by decide +kernel
theorem dX4_sums_19 : decode cX4_sums 19 = .ok (.invokevirtual 51, 3) := by decide +kernel
theorem dX4_sums_22 : decode cX4_sums 22 = .ok (.ifCond .ne 10, 3) := by decide +kernel
theorem dX4_sums_25 : decode cX4_sums 25 = .ok (.aload_n 0, 1) := by decide +kernel
theorem dX4_sums_26 : decode cX4_sums 26 = .ok (.bipush (-8), 2) := by decide +kernel
theorem dX4_sums_28 : decode cX4_sums 28 = .ok (.invokevirtual 48, 3) := by decide +kernel
theorem dX4_sums_31 : decode cX4_sums 31 = .ok (.ireturn, 1) := by decide +kernel
theorem dX4_sums_32 : decode cX4_sums 32 = .ok (.getstatic 55, 3) := by decide +kernel
theorem dX4_sums_35 : decode cX4_sums 35 = .ok (.iload_n 2, 1) := by decide +kernel
theorem dX4_sums_36 : decode cX4_sums 36 = .ok (.iaload, 1) := by decide +kernel
theorem dX4_sums_37 : decode cX4_sums 37 = .ok (.i2l, 1) := by decide +kernel
theorem dX4_sums_38 : decode cX4_sums 38 = .ok (.getstatic 58, 3) := by decide +kernel
theorem dX4_sums_41 : decode cX4_sums 41 = .ok (.iload_n 2, 1) := by decide +kernel
theorem dX4_sums_42 : decode cX4_sums 42 = .ok (.iaload, 1) := by decide +kernel
theorem dX4_sums_43 : decode cX4_sums 43 = .ok (.i2l, 1) := by decide +kernel
theorem dX4_sums_44 : decode cX4_sums 44 = .ok (.invokestatic 61, 3) := by decide +kernel
theorem dX4_sums_47 : decode cX4_sums 47 = .ok (.lstore_n 3, 1) := by decide +kernel
theorem dX4_sums_48 : decode cX4_sums 48 = .ok (.lload_n 3, 1) := by decide +kernel
theorem dX4_sums_49 : decode cX4_sums 49 = .ok (.iload_n 1, 1) := by decide +kernel
theorem dX4_sums_50 : decode cX4_sums 50 = .ok (.iconst 1, 1) := by decide +kernel
theorem dX4_sums_51 : decode cX4_sums 51 = .ok (.isub, 1) := by decide +kernel
theorem dX4_sums_52 : decode cX4_sums 52 = .ok (.aload_n 0, 1) := by decide +kernel
theorem dX4_sums_53 : decode cX4_sums 53 = .ok (.getfield 11, 3) := by decide +kernel
theorem dX4_sums_56 : decode cX4_sums 56 = .ok (.aload_n 0, 1) := by decide +kernel
theorem dX4_sums_57 : decode cX4_sums 57 = .ok (.getfield 67, 3) := by decide +kernel
theorem dX4_sums_60 : decode cX4_sums 60 = .ok (.aaload, 1) := by decide +kernel
theorem dX4_sums_61 : decode cX4_sums 61 = .ok (.getfield 70, 3) := by decide +kernel
theorem dX4_sums_64 : decode cX4_sums 64 = .ok (.invokestatic 73, 3) := by decide +kernel
theorem dX4_sums_67 : decode cX4_sums 67 = .ok (.aload_n 0, 1) := by decide +kernel
theorem dX4_sums_68 : decode cX4_sums 68 = .ok (.iconst 1, 1) := by decide +kernel
theorem dX4_sums_69 : decode cX4_sums 69 = .ok (.iload_n 1, 1) := by decide +kernel
theorem dX4_sums_70 : decode cX4_sums 70 = .ok (.iload_n 1, 1) := by decide +kernel
theorem dX4_sums_71 : decode cX4_sums 71 = .ok (.invokevirtual 79, 3) := by decide +kernel
theorem dX4_sums_74 : decode cX4_sums 74 = .ok (.ireturn, 1) := by decide +kernel
theorem dX4_product_0 : decode cX4_product 0 = .ok (.iload_n 1, 1) := by decide +kernel
theorem dX4_product_1 : decode cX4_product 1 = .ok (.iconst 1, 1) := by decide +kernel
theorem dX4_product_2 : decode cX4_product 2 = .ok (.if_icmp .lt 8, 3) := by decide +kernel
theorem dX4_product_5 : decode cX4_product 5 = .ok (.iload_n 1, 1) := by decide +kernel
theorem dX4_product_6 : decode cX4_product 6 = .ok (.iconst 3, 1) := by decide +kernel
theorem dX4_product_7 : decode cX4_product 7 = .ok (.if_icmp .le 10, 3) := by decide +kernel
theorem dX4_product_10 : decode cX4_product 10 = .ok (.aload_n 0, 1) := by decide +kernel
theorem dX4_product_11 : decode cX4_product 11 = .ok (.bipush (-7), 2) := by decide +kernel
theorem dX4_product_13 : decode cX4_product 13 = .ok (.invokevirtual 48, 3) := by decide +kernel
theorem dX4_product_16 : decode cX4_product 16 = .ok (.ireturn, 1) := by decide +kernel
theorem dX4_product_17 : decode cX4_product 17 = .ok (.bipush 12, 2) := by decide +kernel
theorem dX4_product_19 : decode cX4_product 19 = .ok (.iload_n 1, 1) := by decide +kernel
theorem dX4_product_20 : decode cX4_product 20 = .ok (.imul, 1) := by decide +kernel
theorem dX4_product_21 : decode cX4_product 21 = .ok (.istore_n 2, 1) := by decide +kernel
theorem dX4_product_22 : decode cX4_product 22 = .ok (.aload_n 0, 1) := by decide +kernel
theorem dX4_product_23 : decode cX4_product 23 = .ok (.iload_n 2, 1) := by decide +kernel
theorem dX4_product_24 : decode cX4_product 24 = .ok (.invokevirtual 51, 3) := by decide +kernel
theorem dX4_product_27 : decode cX4_product 27 = .ok (.ifCond .ne 10, 3) := by decide +kernel
theorem dX4_product_30 : decode cX4_product 30 = .ok (.aload_n 0, 1) := by decide +kernel
theorem dX4_product_31 : decode cX4_product 31 = .ok (.bipush (-8), 2) := by decide +kernel
theorem dX4_product_33 : decode cX4_product 33 = .ok (.invokevirtual 48, 3) := by decide +kernel
theorem dX4_product_36 : decode cX4_product 36 = .ok (.ireturn, 1) := by decide +kernel
theorem dX4_product_37 : decode cX4_product 37 = .ok (.aload_n 0, 1) := by decide +kernel
theorem dX4_product_38 : decode cX4_product 38 = .ok (.getfield 18, 3) := by decide +kernel
theorem dX4_product_41 : decode cX4_product 41 = .ok (.getfield 83, 3) := by decide +kernel
theorem dX4_product_44 : decode cX4_product 44 = .ok (.iload_n 1, 1) := by decide +kernel
theorem dX4_product_45 : decode cX4_product 45 = .ok (.aload_n 0, 1) := by decide +kernel
theorem dX4_product_46 : decode cX4_product 46 = .ok (.getfield 11, 3) := by decide +kernel
theorem dX4_product_49 : decode cX4_product 49 = .ok (.aload_n 0, 1) := by decide +kernel
theorem dX4_product_50 : decode cX4_product 50 = .ok (.getfield 67, 3) := by decide +kernel
theorem dX4_product_53 : decode cX4_product 53 = .ok (.aaload, 1) := by decide +kernel
theorem dX4_product_54 : decode cX4_product 54 = .ok (.getfield 70, 3) := by decide +kernel
theorem dX4_product_57 : decode cX4_product 57 = .ok (.invokestatic 86, 3) := by decide +kernel
theorem dX4_product_60 : decode cX4_product 60 = .ok (.aload_n 0, 1) := by decide +kernel
theorem dX4_product_61 : decode cX4_product 61 = .ok (.iconst 2, 1) := by decide +kernel
theorem dX4_product_62 : decode cX4_product 62 = .ok (.iload_n 2, 1) := by decide +kernel
theorem dX4_product_63 : decode cX4_product 63 = .ok (.iload_n 1, 1) := by decide +kernel
theorem dX4_product_64 : decode cX4_product 64 = .ok (.invokevirtual 79, 3) := by decide +kernel
theorem dX4_product_67 : decode cX4_product 67 = .ok (.ireturn, 1) := by decide +kernel
theorem dX4_add_0 : decode cX4_add 0 = .ok (.aload_n 0, 1) := by decide +kernel
theorem dX4_add_1 : decode cX4_add 1 = .ok (.iload_n 1, 1) := by decide +kernel
theorem dX4_add_2 : decode cX4_add 2 = .ok (.invokevirtual 90, 3) := by decide +kernel
theorem dX4_add_5 : decode cX4_add 5 = .ok (.ifCond .eq 11, 3) := by decide +kernel
theorem dX4_add_8 : decode cX4_add 8 = .ok (.aload_n 0, 1) := by decide +kernel
theorem dX4_add_9 : decode cX4_add 9 = .ok (.iload_n 3, 1) := by decide +kernel
theorem dX4_add_10 : decode cX4_add 10 = .ok (.invokevirtual 90, 3) := by decide +kernel
theorem dX4_add_13 : decode cX4_add 13 = .ok (.ifCond .ne 10, 3) := by decide +kernel
theorem dX4_add_16 : decode cX4_add 16 = .ok (.aload_n 0, 1) := by decide +kernel
theorem dX4_add_17 : decode cX4_add 17 = .ok (.bipush (-3), 2) := by decide +kernel
theorem dX4_add_19 : decode cX4_add 19 = .ok (.invokevirtual 48, 3) := by decide +kernel
theorem dX4_add_22 : decode cX4_add 22 = .ok (.ireturn, 1) := by decide +kernel
theorem dX4_add_23 : decode cX4_add 23 = .ok (.aload_n 0, 1) := by decide +kernel
theorem dX4_add_24 : decode cX4_add 24 = .ok (.getfield 11, 3) := by decide +kernel
theorem dX4_add_27 : decode cX4_add 27 = .ok (.iload_n 1, 1) := by decide +kernel
theorem dX4_add_28 : decode cX4_add 28 = .ok (.aaload, 1) := by decide +kernel
theorem dX4_add_29 : decode cX4_add 29 = .ok (.getfield 93, 3) := by decide +kernel
theorem dX4_add_32 : decode cX4_add 32 = .ok (.istore 5, 2) := by decide +kernel
theorem dX4_add_34 : decode cX4_add 34 = .ok (.iload 5, 2) := by decide +kernel
theorem dX4_add_36 : decode cX4_add 36 = .ok (.aload_n 0, 1) := by decide +kernel
theorem dX4_add_37 : decode cX4_add 37 = .ok (.getfield 11, 3) := by decide +kernel
theorem dX4_add_40 : decode cX4_add 40 = .ok (.iload_n 3, 1) := by decide +kernel
theorem dX4_add_41 : decode cX4_add 41 = .ok (.aaload, 1) := by decide +kernel
theorem dX4_add_42 : decode cX4_add 42 = .ok (.getfield 93, 3) := by decide +kernel
theorem dX4_add_45 : decode cX4_add 45 = .ok (.if_icmp .eq 10, 3) := by decide +kernel
theorem dX4_add_48 : decode cX4_add 48 = .ok (.aload_n 0, 1) := by decide +kernel
theorem dX4_add_49 : decode cX4_add 49 = .ok (.bipush (-7), 2) := by decide +kernel
theorem dX4_add_51 : decode cX4_add 51 = .ok (.invokevirtual 48, 3) := by decide +kernel
theorem dX4_add_54 : decode cX4_add 54 = .ok (.ireturn, 1) := by decide +kernel
theorem dX4_add_55 : decode cX4_add 55 = .ok (.aload_n 0, 1) := by decide +kernel
theorem dX4_add_56 : decode cX4_add 56 = .ok (.iload 5, 2) := by decide +kernel
theorem dX4_add_58 : decode cX4_add 58 = .ok (.invokevirtual 51, 3) := by decide +kernel
theorem dX4_add_61 : decode cX4_add 61 = .ok (.ifCond .ne 10, 3) := by decide +kernel
theorem dX4_add_64 : decode cX4_add 64 = .ok (.aload_n 0, 1) := by decide +kernel
theorem dX4_add_65 : decode cX4_add 65 = .ok (.bipush (-8), 2) := by decide +kernel
theorem dX4_add_67 : decode cX4_add 67 = .ok (.invokevirtual 48, 3) := by decide +kernel
theorem dX4_add_70 : decode cX4_add 70 = .ok (.ireturn, 1) := by decide +kernel
theorem dX4_add_71 : decode cX4_add 71 = .ok (.aload_n 0, 1) := by decide +kernel
theorem dX4_add_72 : decode cX4_add 72 = .ok (.getfield 11, 3) := by decide +kernel
theorem dX4_add_75 : decode cX4_add 75 = .ok (.iload_n 1, 1) := by decide +kernel
theorem dX4_add_76 : decode cX4_add 76 = .ok (.aaload, 1) := by decide +kernel
theorem dX4_add_77 : decode cX4_add 77 = .ok (.getfield 70, 3) := by decide +kernel
theorem dX4_add_80 : decode cX4_add 80 = .ok (.astore 6, 2) := by decide +kernel
theorem dX4_add_82 : decode cX4_add 82 = .ok (.aload_n 0, 1) := by decide +kernel
theorem dX4_add_83 : decode cX4_add 83 = .ok (.getfield 11, 3) := by decide +kernel
theorem dX4_add_86 : decode cX4_add 86 = .ok (.iload_n 3, 1) := by decide +kernel
theorem dX4_add_87 : decode cX4_add 87 = .ok (.aaload, 1) := by decide +kernel
theorem dX4_add_88 : decode cX4_add 88 = .ok (.getfield 70, 3) := by decide +kernel
theorem dX4_add_91 : decode cX4_add 91 = .ok (.astore 7, 2) := by decide +kernel
theorem dX4_add_93 : decode cX4_add 93 = .ok (.aload_n 0, 1) := by decide +kernel
theorem dX4_add_94 : decode cX4_add 94 = .ok (.getfield 11, 3) := by decide +kernel
theorem dX4_add_97 : decode cX4_add 97 = .ok (.aload_n 0, 1) := by decide +kernel
theorem dX4_add_98 : decode cX4_add 98 = .ok (.getfield 67, 3) := by decide +kernel
theorem dX4_add_101 : decode cX4_add 101 = .ok (.aaload, 1) := by decide +kernel
theorem dX4_add_102 : decode cX4_add 102 = .ok (.getfield 70, 3) := by decide +kernel
theorem dX4_add_105 : decode cX4_add 105 = .ok (.astore 8, 2) := by decide +kernel
theorem dX4_add_107 : decode cX4_add 107 = .ok (.iconst 0, 1) := by decide +kernel
theorem dX4_add_108 : decode cX4_add 108 = .ok (.istore 9, 2) := by decide +kernel
theorem dX4_add_110 : decode cX4_add 110 = .ok (.iload 9, 2) := by decide +kernel
theorem dX4_add_112 : decode cX4_add 112 = .ok (.bipush 48, 2) := by decide +kernel
theorem dX4_add_114 : decode cX4_add 114 = .ok (.if_icmp .ge 35, 3) := by decide +kernel
theorem dX4_add_117 : decode cX4_add 117 = .ok (.aload 8, 2) := by decide +kernel
theorem dX4_add_119 : decode cX4_add 119 = .ok (.iload 9, 2) := by decide +kernel
theorem dX4_add_121 : decode cX4_add 121 = .ok (.iload_n 2, 1) := by decide +kernel
theorem dX4_add_122 : decode cX4_add 122 = .ok (.i2l, 1) := by decide +kernel
theorem dX4_add_123 : decode cX4_add 123 = .ok (.aload 6, 2) := by decide +kernel
theorem dX4_add_125 : decode cX4_add 125 = .ok (.iload 9, 2) := by decide +kernel
theorem dX4_add_127 : decode cX4_add 127 = .ok (.laload, 1) := by decide +kernel
theorem dX4_add_128 : decode cX4_add 128 = .ok (.lmul, 1) := by decide +kernel
theorem dX4_add_129 : decode cX4_add 129 = .ok (.iload 4, 2) := by decide +kernel
theorem dX4_add_131 : decode cX4_add 131 = .ok (.i2l, 1) := by decide +kernel
theorem dX4_add_132 : decode cX4_add 132 = .ok (.aload 7, 2) := by decide +kernel
theorem dX4_add_134 : decode cX4_add 134 = .ok (.iload 9, 2) := by decide +kernel
theorem dX4_add_136 : decode cX4_add 136 = .ok (.laload, 1) := by decide +kernel
theorem dX4_add_137 : decode cX4_add 137 = .ok (.lmul, 1) := by decide +kernel
theorem dX4_add_138 : decode cX4_add 138 = .ok (.ladd, 1) := by decide +kernel
theorem dX4_add_139 : decode cX4_add 139 = .ok (.invokestatic 96, 3) := by decide +kernel
theorem dX4_add_142 : decode cX4_add 142 = .ok (.lastore, 1) := by decide +kernel
theorem dX4_add_143 : decode cX4_add 143 = .ok (.iinc 9 1, 3) := by decide +kernel
theorem dX4_add_146 : decode cX4_add 146 = .ok (.goto (-36), 3) := by decide +kernel
theorem dX4_add_149 : decode cX4_add 149 = .ok (.aload_n 0, 1) := by decide +kernel
theorem dX4_add_150 : decode cX4_add 150 = .ok (.iload 5, 2) := by decide +kernel
theorem dX4_add_152 : decode cX4_add 152 = .ok (.invokevirtual 100, 3) := by decide +kernel
theorem dX4_add_155 : decode cX4_add 155 = .ok (.ireturn, 1) := by decide +kernel
theorem dX4_times_0 : decode cX4_times 0 = .ok (.aload_n 0, 1) := by decide +kernel
theorem dX4_times_1 : decode cX4_times 1 = .ok (.iload_n 1, 1) := by decide +kernel
theorem dX4_times_2 : decode cX4_times 2 = .ok (.invokevirtual 90, 3) := by decide +kernel
theorem dX4_times_5 : decode cX4_times 5 = .ok (.ifCond .eq 11, 3) := by decide +kernel
theorem dX4_times_8 : decode cX4_times 8 = .ok (.aload_n 0, 1) := by decide +kernel
theorem dX4_times_9 : decode cX4_times 9 = .ok (.iload_n 2, 1) := by decide +kernel
theorem dX4_times_10 : decode cX4_times 10 = .ok (.invokevirtual 90, 3) := by decide +kernel
theorem dX4_times_13 : decode cX4_times 13 = .ok (.ifCond .ne 10, 3) := by decide +kernel
theorem dX4_times_16 : decode cX4_times 16 = .ok (.aload_n 0, 1) := by decide +kernel
theorem dX4_times_17 : decode cX4_times 17 = .ok (.bipush (-3), 2) := by decide +kernel
theorem dX4_times_19 : decode cX4_times 19 = .ok (.invokevirtual 48, 3) := by decide +kernel
theorem dX4_times_22 : decode cX4_times 22 = .ok (.ireturn, 1) := by decide +kernel
theorem dX4_times_23 : decode cX4_times 23 = .ok (.aload_n 0, 1) := by decide +kernel
theorem dX4_times_24 : decode cX4_times 24 = .ok (.getfield 11, 3) := by decide +kernel
theorem dX4_times_27 : decode cX4_times 27 = .ok (.iload_n 1, 1) := by decide +kernel
theorem dX4_times_28 : decode cX4_times 28 = .ok (.aaload, 1) := by decide +kernel
theorem dX4_times_29 : decode cX4_times 29 = .ok (.getfield 93, 3) := by decide +kernel
theorem dX4_times_32 : decode cX4_times 32 = .ok (.aload_n 0, 1) := by decide +kernel
theorem dX4_times_33 : decode cX4_times 33 = .ok (.getfield 11, 3) := by decide +kernel
theorem dX4_times_36 : decode cX4_times 36 = .ok (.iload_n 2, 1) := by decide +kernel
theorem dX4_times_37 : decode cX4_times 37 = .ok (.aaload, 1) := by decide +kernel
theorem dX4_times_38 : decode cX4_times 38 = .ok (.getfield 93, 3) := by decide +kernel
theorem dX4_times_41 : decode cX4_times 41 = .ok (.iadd, 1) := by decide +kernel
theorem dX4_times_42 : decode cX4_times 42 = .ok (.istore_n 3, 1) := by decide +kernel
theorem dX4_times_43 : decode cX4_times 43 = .ok (.aload_n 0, 1) := by decide +kernel
theorem dX4_times_44 : decode cX4_times 44 = .ok (.iload_n 3, 1) := by decide +kernel
theorem dX4_times_45 : decode cX4_times 45 = .ok (.invokevirtual 51, 3) := by decide +kernel
theorem dX4_times_48 : decode cX4_times 48 = .ok (.ifCond .ne 10, 3) := by decide +kernel
theorem dX4_times_51 : decode cX4_times 51 = .ok (.aload_n 0, 1) := by decide +kernel
theorem dX4_times_52 : decode cX4_times 52 = .ok (.bipush (-8), 2) := by decide +kernel
theorem dX4_times_54 : decode cX4_times 54 = .ok (.invokevirtual 48, 3) := by decide +kernel
theorem dX4_times_57 : decode cX4_times 57 = .ok (.ireturn, 1) := by decide +kernel
theorem dX4_times_58 : decode cX4_times 58 = .ok (.aload_n 0, 1) := by decide +kernel
theorem dX4_times_59 : decode cX4_times 59 = .ok (.getfield 11, 3) := by decide +kernel
theorem dX4_times_62 : decode cX4_times 62 = .ok (.iload_n 1, 1) := by decide +kernel
theorem dX4_times_63 : decode cX4_times 63 = .ok (.aaload, 1) := by decide +kernel
theorem dX4_times_64 : decode cX4_times 64 = .ok (.getfield 70, 3) := by decide +kernel
theorem dX4_times_67 : decode cX4_times 67 = .ok (.aload_n 0, 1) := by decide +kernel
theorem dX4_times_68 : decode cX4_times 68 = .ok (.getfield 11, 3) := by decide +kernel
theorem dX4_times_71 : decode cX4_times 71 = .ok (.iload_n 2, 1) := by decide +kernel
theorem dX4_times_72 : decode cX4_times 72 = .ok (.aaload, 1) := by decide +kernel
theorem dX4_times_73 : decode cX4_times 73 = .ok (.getfield 70, 3) := by decide +kernel
theorem dX4_times_76 : decode cX4_times 76 = .ok (.aload_n 0, 1) := by decide +kernel
theorem dX4_times_77 : decode cX4_times 77 = .ok (.getfield 11, 3) := by decide +kernel
theorem dX4_times_80 : decode cX4_times 80 = .ok (.aload_n 0, 1) := by decide +kernel
theorem dX4_times_81 : decode cX4_times 81 = .ok (.getfield 67, 3) := by decide +kernel
theorem dX4_times_84 : decode cX4_times 84 = .ok (.aaload, 1) := by decide +kernel
theorem dX4_times_85 : decode cX4_times 85 = .ok (.getfield 70, 3) := by decide +kernel
theorem dX4_times_88 : decode cX4_times 88 = .ok (.invokestatic 103, 3) := by decide +kernel
theorem dX4_times_91 : decode cX4_times 91 = .ok (.aload_n 0, 1) := by decide +kernel
theorem dX4_times_92 : decode cX4_times 92 = .ok (.iload_n 3, 1) := by decide +kernel
theorem dX4_times_93 : decode cX4_times 93 = .ok (.invokevirtual 100, 3) := by decide +kernel
theorem dX4_times_96 : decode cX4_times 96 = .ok (.ireturn, 1) := by decide +kernel
theorem dX4_power_0 : decode cX4_power 0 = .ok (.aload_n 0, 1) := by decide +kernel
theorem dX4_power_1 : decode cX4_power 1 = .ok (.iload_n 1, 1) := by decide +kernel
theorem dX4_power_2 : decode cX4_power 2 = .ok (.invokevirtual 90, 3) := by decide +kernel
theorem dX4_power_5 : decode cX4_power 5 = .ok (.ifCond .ne 10, 3) := by decide +kernel
theorem dX4_power_8 : decode cX4_power 8 = .ok (.aload_n 0, 1) := by decide +kernel
theorem dX4_power_9 : decode cX4_power 9 = .ok (.bipush (-3), 2) := by decide +kernel
theorem dX4_power_11 : decode cX4_power 11 = .ok (.invokevirtual 48, 3) := by decide +kernel
theorem dX4_power_14 : decode cX4_power 14 = .ok (.ireturn, 1) := by decide +kernel
theorem dX4_power_15 : decode cX4_power 15 = .ok (.iload_n 2, 1) := by decide +kernel
theorem dX4_power_16 : decode cX4_power 16 = .ok (.ifCond .ge 10, 3) := by decide +kernel
theorem dX4_power_19 : decode cX4_power 19 = .ok (.aload_n 0, 1) := by decide +kernel
theorem dX4_power_20 : decode cX4_power 20 = .ok (.bipush (-4), 2) := by decide +kernel
theorem dX4_power_22 : decode cX4_power 22 = .ok (.invokevirtual 48, 3) := by decide +kernel
theorem dX4_power_25 : decode cX4_power 25 = .ok (.ireturn, 1) := by decide +kernel
theorem dX4_power_26 : decode cX4_power 26 = .ok (.iload_n 2, 1) := by decide +kernel
theorem dX4_power_27 : decode cX4_power 27 = .ok (.bipush 20, 2) := by decide +kernel
theorem dX4_power_29 : decode cX4_power 29 = .ok (.if_icmp .le 10, 3) := by decide +kernel
theorem dX4_power_32 : decode cX4_power 32 = .ok (.aload_n 0, 1) := by decide +kernel
theorem dX4_power_33 : decode cX4_power 33 = .ok (.bipush (-7), 2) := by decide +kernel
theorem dX4_power_35 : decode cX4_power 35 = .ok (.invokevirtual 48, 3) := by decide +kernel
theorem dX4_power_38 : decode cX4_power 38 = .ok (.ireturn, 1) := by decide +kernel
theorem dX4_power_39 : decode cX4_power 39 = .ok (.aload_n 0, 1) := by decide +kernel
theorem dX4_power_40 : decode cX4_power 40 = .ok (.getfield 11, 3) := by decide +kernel
theorem dX4_power_43 : decode cX4_power 43 = .ok (.iload_n 1, 1) := by decide +kernel
theorem dX4_power_44 : decode cX4_power 44 = .ok (.aaload, 1) := by decide +kernel
theorem dX4_power_45 : decode cX4_power 45 = .ok (.getfield 93, 3) := by decide +kernel
theorem dX4_power_48 : decode cX4_power 48 = .ok (.iload_n 2, 1) := by decide +kernel
theorem dX4_power_49 : decode cX4_power 49 = .ok (.imul, 1) := by decide +kernel
theorem dX4_power_50 : decode cX4_power 50 = .ok (.istore_n 3, 1) := by decide +kernel
theorem dX4_power_51 : decode cX4_power 51 = .ok (.aload_n 0, 1) := by decide +kernel
theorem dX4_power_52 : decode cX4_power 52 = .ok (.iload_n 3, 1) := by decide +kernel
theorem dX4_power_53 : decode cX4_power 53 = .ok (.invokevirtual 51, 3) := by decide +kernel
theorem dX4_power_56 : decode cX4_power 56 = .ok (.ifCond .ne 10, 3) := by decide +kernel
theorem dX4_power_59 : decode cX4_power 59 = .ok (.aload_n 0, 1) := by decide +kernel
theorem dX4_power_60 : decode cX4_power 60 = .ok (.bipush (-8), 2) := by decide +kernel
theorem dX4_power_62 : decode cX4_power 62 = .ok (.invokevirtual 48, 3) := by decide +kernel
theorem dX4_power_65 : decode cX4_power 65 = .ok (.ireturn, 1) := by decide +kernel
theorem dX4_power_66 : decode cX4_power 66 = .ok (.aload_n 0, 1) := by decide +kernel
theorem dX4_power_67 : decode cX4_power 67 = .ok (.getfield 11, 3) := by decide +kernel
theorem dX4_power_70 : decode cX4_power 70 = .ok (.iload_n 1, 1) := by decide +kernel
theorem dX4_power_71 : decode cX4_power 71 = .ok (.aaload, 1) := by decide +kernel
theorem dX4_power_72 : decode cX4_power 72 = .ok (.getfield 70, 3) := by decide +kernel
theorem dX4_power_75 : decode cX4_power 75 = .ok (.iload_n 2, 1) := by decide +kernel
theorem dX4_power_76 : decode cX4_power 76 = .ok (.aload_n 0, 1) := by decide +kernel
theorem dX4_power_77 : decode cX4_power 77 = .ok (.getfield 11, 3) := by decide +kernel
theorem dX4_power_80 : decode cX4_power 80 = .ok (.aload_n 0, 1) := by decide +kernel
theorem dX4_power_81 : decode cX4_power 81 = .ok (.getfield 67, 3) := by decide +kernel
theorem dX4_power_84 : decode cX4_power 84 = .ok (.aaload, 1) := by decide +kernel
theorem dX4_power_85 : decode cX4_power 85 = .ok (.getfield 70, 3) := by decide +kernel
theorem dX4_power_88 : decode cX4_power 88 = .ok (.invokestatic 86, 3) := by decide +kernel
theorem dX4_power_91 : decode cX4_power 91 = .ok (.aload_n 0, 1) := by decide +kernel
theorem dX4_power_92 : decode cX4_power 92 = .ok (.iload_n 3, 1) := by decide +kernel
theorem dX4_power_93 : decode cX4_power 93 = .ok (.invokevirtual 100, 3) := by decide +kernel
theorem dX4_power_96 : decode cX4_power 96 = .ok (.ireturn, 1) := by decide +kernel
theorem dX4_slope_0 : decode cX4_slope 0 = .ok (.aload_n 0, 1) := by decide +kernel
theorem dX4_slope_1 : decode cX4_slope 1 = .ok (.iload_n 1, 1) := by decide +kernel
theorem dX4_slope_2 : decode cX4_slope 2 = .ok (.invokevirtual 90, 3) := by decide +kernel
theorem dX4_slope_5 : decode cX4_slope 5 = .ok (.ifCond .ne 10, 3) := by decide +kernel
theorem dX4_slope_8 : decode cX4_slope 8 = .ok (.aload_n 0, 1) := by decide +kernel
theorem dX4_slope_9 : decode cX4_slope 9 = .ok (.bipush (-3), 2) := by decide +kernel
theorem dX4_slope_11 : decode cX4_slope 11 = .ok (.invokevirtual 48, 3) := by decide +kernel
theorem dX4_slope_14 : decode cX4_slope 14 = .ok (.ireturn, 1) := by decide +kernel
theorem dX4_slope_15 : decode cX4_slope 15 = .ok (.aload_n 0, 1) := by decide +kernel
theorem dX4_slope_16 : decode cX4_slope 16 = .ok (.getfield 11, 3) := by decide +kernel
theorem dX4_slope_19 : decode cX4_slope 19 = .ok (.iload_n 1, 1) := by decide +kernel
theorem dX4_slope_20 : decode cX4_slope 20 = .ok (.aaload, 1) := by decide +kernel
theorem dX4_slope_21 : decode cX4_slope 21 = .ok (.getfield 93, 3) := by decide +kernel
theorem dX4_slope_24 : decode cX4_slope 24 = .ok (.iconst 2, 1) := by decide +kernel
theorem dX4_slope_25 : decode cX4_slope 25 = .ok (.iadd, 1) := by decide +kernel
theorem dX4_slope_26 : decode cX4_slope 26 = .ok (.istore_n 2, 1) := by decide +kernel
theorem dX4_slope_27 : decode cX4_slope 27 = .ok (.aload_n 0, 1) := by decide +kernel
theorem dX4_slope_28 : decode cX4_slope 28 = .ok (.iload_n 2, 1) := by decide +kernel
theorem dX4_slope_29 : decode cX4_slope 29 = .ok (.invokevirtual 51, 3) := by decide +kernel
theorem dX4_slope_32 : decode cX4_slope 32 = .ok (.ifCond .ne 10, 3) := by decide +kernel
theorem dX4_slope_35 : decode cX4_slope 35 = .ok (.aload_n 0, 1) := by decide +kernel
theorem dX4_slope_36 : decode cX4_slope 36 = .ok (.bipush (-8), 2) := by decide +kernel
theorem dX4_slope_38 : decode cX4_slope 38 = .ok (.invokevirtual 48, 3) := by decide +kernel
theorem dX4_slope_41 : decode cX4_slope 41 = .ok (.ireturn, 1) := by decide +kernel
theorem dX4_slope_42 : decode cX4_slope 42 = .ok (.aload_n 0, 1) := by decide +kernel
theorem dX4_slope_43 : decode cX4_slope 43 = .ok (.getfield 11, 3) := by decide +kernel
theorem dX4_slope_46 : decode cX4_slope 46 = .ok (.iload_n 1, 1) := by decide +kernel
theorem dX4_slope_47 : decode cX4_slope 47 = .ok (.aaload, 1) := by decide +kernel
theorem dX4_slope_48 : decode cX4_slope 48 = .ok (.getfield 70, 3) := by decide +kernel
theorem dX4_slope_51 : decode cX4_slope 51 = .ok (.astore_n 3, 1) := by decide +kernel
theorem dX4_slope_52 : decode cX4_slope 52 = .ok (.aload_n 0, 1) := by decide +kernel
theorem dX4_slope_53 : decode cX4_slope 53 = .ok (.getfield 11, 3) := by decide +kernel
theorem dX4_slope_56 : decode cX4_slope 56 = .ok (.aload_n 0, 1) := by decide +kernel
theorem dX4_slope_57 : decode cX4_slope 57 = .ok (.getfield 67, 3) := by decide +kernel
theorem dX4_slope_60 : decode cX4_slope 60 = .ok (.aaload, 1) := by decide +kernel
theorem dX4_slope_61 : decode cX4_slope 61 = .ok (.getfield 70, 3) := by decide +kernel
theorem dX4_slope_64 : decode cX4_slope 64 = .ok (.astore 4, 2) := by decide +kernel
theorem dX4_slope_66 : decode cX4_slope 66 = .ok (.aload_n 0, 1) := by decide +kernel
theorem dX4_slope_67 : decode cX4_slope 67 = .ok (.getfield 11, 3) := by decide +kernel
theorem dX4_slope_70 : decode cX4_slope 70 = .ok (.iload_n 1, 1) := by decide +kernel
theorem dX4_slope_71 : decode cX4_slope 71 = .ok (.aaload, 1) := by decide +kernel
theorem dX4_slope_72 : decode cX4_slope 72 = .ok (.getfield 93, 3) := by decide +kernel
theorem dX4_slope_75 : decode cX4_slope 75 = .ok (.i2l, 1) := by decide +kernel
theorem dX4_slope_76 : decode cX4_slope 76 = .ok (.ldc2_w 107, 3) := by decide +kernel
theorem dX4_slope_79 : decode cX4_slope 79 = .ok (.invokestatic 61, 3) := by decide +kernel
theorem dX4_slope_82 : decode cX4_slope 82 = .ok (.lstore 5, 2) := by decide +kernel
theorem dX4_slope_84 : decode cX4_slope 84 = .ok (.aload_n 0, 1) := by decide +kernel
theorem dX4_slope_85 : decode cX4_slope 85 = .ok (.getfield 18, 3) := by decide +kernel
theorem dX4_slope_88 : decode cX4_slope 88 = .ok (.getfield 109, 3) := by decide +kernel
theorem dX4_slope_91 : decode cX4_slope 91 = .ok (.aload_n 3, 1) := by decide +kernel
theorem dX4_slope_92 : decode cX4_slope 92 = .ok (.aload 4, 2) := by decide +kernel
theorem dX4_slope_94 : decode cX4_slope 94 = .ok (.invokestatic 103, 3) := by decide +kernel
theorem dX4_slope_97 : decode cX4_slope 97 = .ok (.iconst 0, 1) := by decide +kernel
theorem dX4_slope_98 : decode cX4_slope 98 = .ok (.istore 7, 2) := by decide +kernel
theorem dX4_slope_100 : decode cX4_slope 100 = .ok (.iload 7, 2) := by decide +kernel
theorem dX4_slope_102 : decode cX4_slope 102 = .ok (.bipush 48, 2) := by decide +kernel
theorem dX4_slope_104 : decode cX4_slope 104 = .ok (.if_icmp .ge 34, 3) := by decide +kernel
theorem dX4_slope_107 : decode cX4_slope 107 = .ok (.aload 4, 2) := by decide +kernel
theorem dX4_slope_109 : decode cX4_slope 109 = .ok (.iload 7, 2) := by decide +kernel
theorem dX4_slope_111 : decode cX4_slope 111 = .ok (.iload 7, 2) := by decide +kernel
theorem dX4_slope_113 : decode cX4_slope 113 = .ok (.i2l, 1) := by decide +kernel
theorem dX4_slope_114 : decode cX4_slope 114 = .ok (.aload_n 3, 1) := by decide +kernel
theorem dX4_slope_115 : decode cX4_slope 115 = .ok (.iload 7, 2) := by decide +kernel
theorem dX4_slope_117 : decode cX4_slope 117 = .ok (.laload, 1) := by decide +kernel
theorem dX4_slope_118 : decode cX4_slope 118 = .ok (.lmul, 1) := by decide +kernel
theorem dX4_slope_119 : decode cX4_slope 119 = .ok (.lload 5, 2) := by decide +kernel
theorem dX4_slope_121 : decode cX4_slope 121 = .ok (.aload 4, 2) := by decide +kernel
theorem dX4_slope_123 : decode cX4_slope 123 = .ok (.iload 7, 2) := by decide +kernel
theorem dX4_slope_125 : decode cX4_slope 125 = .ok (.laload, 1) := by decide +kernel
theorem dX4_slope_126 : decode cX4_slope 126 = .ok (.lmul, 1) := by decide +kernel
theorem dX4_slope_127 : decode cX4_slope 127 = .ok (.lsub, 1) := by decide +kernel
theorem dX4_slope_128 : decode cX4_slope 128 = .ok (.invokestatic 96, 3) := by decide +kernel
theorem dX4_slope_131 : decode cX4_slope 131 = .ok (.lastore, 1) := by decide +kernel
theorem dX4_slope_132 : decode cX4_slope 132 = .ok (.iinc 7 1, 3) := by decide +kernel
theorem dX4_slope_135 : decode cX4_slope 135 = .ok (.goto (-35), 3) := by decide +kernel
theorem dX4_slope_138 : decode cX4_slope 138 = .ok (.aload_n 0, 1) := by decide +kernel
theorem dX4_slope_139 : decode cX4_slope 139 = .ok (.iload_n 2, 1) := by decide +kernel
theorem dX4_slope_140 : decode cX4_slope 140 = .ok (.invokevirtual 100, 3) := by decide +kernel
theorem dX4_slope_143 : decode cX4_slope 143 = .ok (.ireturn, 1) := by decide +kernel
theorem dX4_bracket_0 : decode cX4_bracket 0 = .ok (.aload_n 0, 1) := by decide +kernel
theorem dX4_bracket_1 : decode cX4_bracket 1 = .ok (.iload_n 1, 1) := by decide +kernel
theorem dX4_bracket_2 : decode cX4_bracket 2 = .ok (.invokevirtual 90, 3) := by decide +kernel
theorem dX4_bracket_5 : decode cX4_bracket 5 = .ok (.ifCond .eq 11, 3) := by decide +kernel
theorem dX4_bracket_8 : decode cX4_bracket 8 = .ok (.aload_n 0, 1) := by decide +kernel
theorem dX4_bracket_9 : decode cX4_bracket 9 = .ok (.iload_n 2, 1) := by decide +kernel
theorem dX4_bracket_10 : decode cX4_bracket 10 = .ok (.invokevirtual 90, 3) := by decide +kernel
theorem dX4_bracket_13 : decode cX4_bracket 13 = .ok (.ifCond .ne 10, 3) := by decide +kernel
theorem dX4_bracket_16 : decode cX4_bracket 16 = .ok (.aload_n 0, 1) := by decide +kernel
theorem dX4_bracket_17 : decode cX4_bracket 17 = .ok (.bipush (-3), 2) := by decide +kernel
theorem dX4_bracket_19 : decode cX4_bracket 19 = .ok (.invokevirtual 48, 3) := by decide +kernel
theorem dX4_bracket_22 : decode cX4_bracket 22 = .ok (.ireturn, 1) := by decide +kernel
theorem dX4_bracket_23 : decode cX4_bracket 23 = .ok (.aload_n 0, 1) := by decide +kernel
theorem dX4_bracket_24 : decode cX4_bracket 24 = .ok (.getfield 11, 3) := by decide +kernel
theorem dX4_bracket_27 : decode cX4_bracket 27 = .ok (.iload_n 1, 1) := by decide +kernel
theorem dX4_bracket_28 : decode cX4_bracket 28 = .ok (.aaload, 1) := by decide +kernel
theorem dX4_bracket_29 : decode cX4_bracket 29 = .ok (.getfield 93, 3) := by decide +kernel
theorem dX4_bracket_32 : decode cX4_bracket 32 = .ok (.aload_n 0, 1) := by decide +kernel
theorem dX4_bracket_33 : decode cX4_bracket 33 = .ok (.getfield 11, 3) := by decide +kernel
theorem dX4_bracket_36 : decode cX4_bracket 36 = .ok (.iload_n 2, 1) := by decide +kernel
theorem dX4_bracket_37 : decode cX4_bracket 37 = .ok (.aaload, 1) := by decide +kernel
theorem dX4_bracket_38 : decode cX4_bracket 38 = .ok (.getfield 93, 3) := by decide +kernel
theorem dX4_bracket_41 : decode cX4_bracket 41 = .ok (.iadd, 1) := by decide +kernel
theorem dX4_bracket_42 : decode cX4_bracket 42 = .ok (.iconst 2, 1) := by decide +kernel
theorem dX4_bracket_43 : decode cX4_bracket 43 = .ok (.iadd, 1) := by decide +kernel
theorem dX4_bracket_44 : decode cX4_bracket 44 = .ok (.istore_n 3, 1) := by decide +kernel
theorem dX4_bracket_45 : decode cX4_bracket 45 = .ok (.aload_n 0, 1) := by decide +kernel
theorem dX4_bracket_46 : decode cX4_bracket 46 = .ok (.iload_n 3, 1) := by decide +kernel
theorem dX4_bracket_47 : decode cX4_bracket 47 = .ok (.invokevirtual 51, 3) := by decide +kernel
theorem dX4_bracket_50 : decode cX4_bracket 50 = .ok (.ifCond .ne 10, 3) := by decide +kernel
theorem dX4_bracket_53 : decode cX4_bracket 53 = .ok (.aload_n 0, 1) := by decide +kernel
theorem dX4_bracket_54 : decode cX4_bracket 54 = .ok (.bipush (-8), 2) := by decide +kernel
theorem dX4_bracket_56 : decode cX4_bracket 56 = .ok (.invokevirtual 48, 3) := by decide +kernel
theorem dX4_bracket_59 : decode cX4_bracket 59 = .ok (.ireturn, 1) := by decide +kernel
theorem dX4_bracket_60 : decode cX4_bracket 60 = .ok (.aload_n 0, 1) := by decide +kernel
theorem dX4_bracket_61 : decode cX4_bracket 61 = .ok (.getfield 11, 3) := by decide +kernel
theorem dX4_bracket_64 : decode cX4_bracket 64 = .ok (.iload_n 1, 1) := by decide +kernel
theorem dX4_bracket_65 : decode cX4_bracket 65 = .ok (.aaload, 1) := by decide +kernel
theorem dX4_bracket_66 : decode cX4_bracket 66 = .ok (.aload_n 0, 1) := by decide +kernel
theorem dX4_bracket_67 : decode cX4_bracket 67 = .ok (.getfield 11, 3) := by decide +kernel
theorem dX4_bracket_70 : decode cX4_bracket 70 = .ok (.iload_n 2, 1) := by decide +kernel
theorem dX4_bracket_71 : decode cX4_bracket 71 = .ok (.aaload, 1) := by decide +kernel
theorem dX4_bracket_72 : decode cX4_bracket 72 = .ok (.aload_n 0, 1) := by decide +kernel
theorem dX4_bracket_73 : decode cX4_bracket 73 = .ok (.getfield 11, 3) := by decide +kernel
theorem dX4_bracket_76 : decode cX4_bracket 76 = .ok (.aload_n 0, 1) := by decide +kernel
theorem dX4_bracket_77 : decode cX4_bracket 77 = .ok (.getfield 67, 3) := by decide +kernel
theorem dX4_bracket_80 : decode cX4_bracket 80 = .ok (.aaload, 1) := by decide +kernel
theorem dX4_bracket_81 : decode cX4_bracket 81 = .ok (.getfield 70, 3) := by decide +kernel
theorem dX4_bracket_84 : decode cX4_bracket 84 = .ok (.invokestatic 112, 3) := by decide +kernel
theorem dX4_bracket_87 : decode cX4_bracket 87 = .ok (.aload_n 0, 1) := by decide +kernel
theorem dX4_bracket_88 : decode cX4_bracket 88 = .ok (.iload_n 3, 1) := by decide +kernel
theorem dX4_bracket_89 : decode cX4_bracket 89 = .ok (.invokevirtual 100, 3) := by decide +kernel
theorem dX4_bracket_92 : decode cX4_bracket 92 = .ok (.ireturn, 1) := by decide +kernel
theorem dX4_over_0 : decode cX4_over 0 = .ok (.aload_n 0, 1) := by decide +kernel
theorem dX4_over_1 : decode cX4_over 1 = .ok (.iload_n 1, 1) := by decide +kernel
theorem dX4_over_2 : decode cX4_over 2 = .ok (.invokevirtual 90, 3) := by decide +kernel
theorem dX4_over_5 : decode cX4_over 5 = .ok (.ifCond .ne 10, 3) := by decide +kernel
theorem dX4_over_8 : decode cX4_over 8 = .ok (.aload_n 0, 1) := by decide +kernel
theorem dX4_over_9 : decode cX4_over 9 = .ok (.bipush (-3), 2) := by decide +kernel
theorem dX4_over_11 : decode cX4_over 11 = .ok (.invokevirtual 48, 3) := by decide +kernel
theorem dX4_over_14 : decode cX4_over 14 = .ok (.ireturn, 1) := by decide +kernel
theorem dX4_over_15 : decode cX4_over 15 = .ok (.aload_n 0, 1) := by decide +kernel
theorem dX4_over_16 : decode cX4_over 16 = .ok (.getfield 11, 3) := by decide +kernel
theorem dX4_over_19 : decode cX4_over 19 = .ok (.iload_n 1, 1) := by decide +kernel
theorem dX4_over_20 : decode cX4_over 20 = .ok (.aaload, 1) := by decide +kernel
theorem dX4_over_21 : decode cX4_over 21 = .ok (.getfield 93, 3) := by decide +kernel
theorem dX4_over_24 : decode cX4_over 24 = .ok (.bipush 12, 2) := by decide +kernel
theorem dX4_over_26 : decode cX4_over 26 = .ok (.isub, 1) := by decide +kernel
theorem dX4_over_27 : decode cX4_over 27 = .ok (.istore_n 2, 1) := by decide +kernel
theorem dX4_over_28 : decode cX4_over 28 = .ok (.iload_n 2, 1) := by decide +kernel
theorem dX4_over_29 : decode cX4_over 29 = .ok (.ifCond .lt 19, 3) := by decide +kernel
theorem dX4_over_32 : decode cX4_over 32 = .ok (.aload_n 0, 1) := by decide +kernel
theorem dX4_over_33 : decode cX4_over 33 = .ok (.getfield 11, 3) := by decide +kernel
theorem dX4_over_36 : decode cX4_over 36 = .ok (.iload_n 1, 1) := by decide +kernel
theorem dX4_over_37 : decode cX4_over 37 = .ok (.aaload, 1) := by decide +kernel
theorem dX4_over_38 : decode cX4_over 38 = .ok (.getfield 70, 3) := by decide +kernel
theorem dX4_over_41 : decode cX4_over 41 = .ok (.iconst 0, 1) := by decide +kernel
theorem dX4_over_42 : decode cX4_over 42 = .ok (.laload, 1) := by decide +kernel
theorem dX4_over_43 : decode cX4_over 43 = .ok (.lconst 0, 1) := by decide +kernel
theorem dX4_over_44 : decode cX4_over 44 = .ok (.lcmp, 1) := by decide +kernel
theorem dX4_over_45 : decode cX4_over 45 = .ok (.ifCond .eq 10, 3) := by decide +kernel
theorem dX4_over_48 : decode cX4_over 48 = .ok (.aload_n 0, 1) := by decide +kernel
theorem dX4_over_49 : decode cX4_over 49 = .ok (.bipush (-7), 2) := by decide +kernel
theorem dX4_over_51 : decode cX4_over 51 = .ok (.invokevirtual 48, 3) := by decide +kernel
theorem dX4_over_54 : decode cX4_over 54 = .ok (.ireturn, 1) := by decide +kernel
theorem dX4_over_55 : decode cX4_over 55 = .ok (.aload_n 0, 1) := by decide +kernel
theorem dX4_over_56 : decode cX4_over 56 = .ok (.iload_n 2, 1) := by decide +kernel
theorem dX4_over_57 : decode cX4_over 57 = .ok (.invokevirtual 51, 3) := by decide +kernel
theorem dX4_over_60 : decode cX4_over 60 = .ok (.ifCond .ne 10, 3) := by decide +kernel
theorem dX4_over_63 : decode cX4_over 63 = .ok (.aload_n 0, 1) := by decide +kernel
theorem dX4_over_64 : decode cX4_over 64 = .ok (.bipush (-8), 2) := by decide +kernel
theorem dX4_over_66 : decode cX4_over 66 = .ok (.invokevirtual 48, 3) := by decide +kernel
theorem dX4_over_69 : decode cX4_over 69 = .ok (.ireturn, 1) := by decide +kernel
theorem dX4_over_70 : decode cX4_over 70 = .ok (.aload_n 0, 1) := by decide +kernel
theorem dX4_over_71 : decode cX4_over 71 = .ok (.getfield 18, 3) := by decide +kernel
theorem dX4_over_74 : decode cX4_over 74 = .ok (.aload_n 0, 1) := by decide +kernel
theorem dX4_over_75 : decode cX4_over 75 = .ok (.getfield 11, 3) := by decide +kernel
theorem dX4_over_78 : decode cX4_over 78 = .ok (.iload_n 1, 1) := by decide +kernel
theorem dX4_over_79 : decode cX4_over 79 = .ok (.aaload, 1) := by decide +kernel
theorem dX4_over_80 : decode cX4_over 80 = .ok (.getfield 93, 3) := by decide +kernel
theorem dX4_over_83 : decode cX4_over 83 = .ok (.aload_n 0, 1) := by decide +kernel
theorem dX4_over_84 : decode cX4_over 84 = .ok (.getfield 11, 3) := by decide +kernel
theorem dX4_over_87 : decode cX4_over 87 = .ok (.iload_n 1, 1) := by decide +kernel
theorem dX4_over_88 : decode cX4_over 88 = .ok (.aaload, 1) := by decide +kernel
theorem dX4_over_89 : decode cX4_over 89 = .ok (.getfield 70, 3) := by decide +kernel
theorem dX4_over_92 : decode cX4_over 92 = .ok (.aload_n 0, 1) := by decide +kernel
theorem dX4_over_93 : decode cX4_over 93 = .ok (.getfield 22, 3) := by decide +kernel
theorem dX4_over_96 : decode cX4_over 96 = .ok (.invokevirtual 116, 3) := by decide +kernel
theorem dX4_over_99 : decode cX4_over 99 = .ok (.iconst 1, 1) := by decide +kernel
theorem dX4_over_100 : decode cX4_over 100 = .ok (.istore_n 3, 1) := by decide +kernel
theorem dX4_over_101 : decode cX4_over 101 = .ok (.iload_n 3, 1) := by decide +kernel
theorem dX4_over_102 : decode cX4_over 102 = .ok (.aload_n 0, 1) := by decide +kernel
theorem dX4_over_103 : decode cX4_over 103 = .ok (.getfield 18, 3) := by decide +kernel
theorem dX4_over_106 : decode cX4_over 106 = .ok (.aload_n 0, 1) := by decide +kernel
theorem dX4_over_107 : decode cX4_over 107 = .ok (.getfield 11, 3) := by decide +kernel
theorem dX4_over_110 : decode cX4_over 110 = .ok (.iload_n 1, 1) := by decide +kernel
theorem dX4_over_111 : decode cX4_over 111 = .ok (.aaload, 1) := by decide +kernel
theorem dX4_over_112 : decode cX4_over 112 = .ok (.getfield 93, 3) := by decide +kernel
theorem dX4_over_115 : decode cX4_over 115 = .ok (.invokevirtual 120, 3) := by decide +kernel
theorem dX4_over_118 : decode cX4_over 118 = .ok (.if_icmp .ge 23, 3) := by decide +kernel
theorem dX4_over_121 : decode cX4_over 121 = .ok (.aload_n 0, 1) := by decide +kernel
theorem dX4_over_122 : decode cX4_over 122 = .ok (.getfield 22, 3) := by decide +kernel
theorem dX4_over_125 : decode cX4_over 125 = .ok (.iload_n 3, 1) := by decide +kernel
theorem dX4_over_126 : decode cX4_over 126 = .ok (.iconst 1, 1) := by decide +kernel
theorem dX4_over_127 : decode cX4_over 127 = .ok (.isub, 1) := by decide +kernel
theorem dX4_over_128 : decode cX4_over 128 = .ok (.aload_n 0, 1) := by decide +kernel
theorem dX4_over_129 : decode cX4_over 129 = .ok (.getfield 22, 3) := by decide +kernel
theorem dX4_over_132 : decode cX4_over 132 = .ok (.iload_n 3, 1) := by decide +kernel
theorem dX4_over_133 : decode cX4_over 133 = .ok (.laload, 1) := by decide +kernel
theorem dX4_over_134 : decode cX4_over 134 = .ok (.lastore, 1) := by decide +kernel
theorem dX4_over_135 : decode cX4_over 135 = .ok (.iinc 3 1, 3) := by decide +kernel
theorem dX4_over_138 : decode cX4_over 138 = .ok (.goto (-37), 3) := by decide +kernel
theorem dX4_over_141 : decode cX4_over 141 = .ok (.aload_n 0, 1) := by decide +kernel
theorem dX4_over_142 : decode cX4_over 142 = .ok (.getfield 18, 3) := by decide +kernel
theorem dX4_over_145 : decode cX4_over 145 = .ok (.iload_n 2, 1) := by decide +kernel
theorem dX4_over_146 : decode cX4_over 146 = .ok (.aload_n 0, 1) := by decide +kernel
theorem dX4_over_147 : decode cX4_over 147 = .ok (.getfield 22, 3) := by decide +kernel
theorem dX4_over_150 : decode cX4_over 150 = .ok (.aload_n 0, 1) := by decide +kernel
theorem dX4_over_151 : decode cX4_over 151 = .ok (.getfield 11, 3) := by decide +kernel
theorem dX4_over_154 : decode cX4_over 154 = .ok (.aload_n 0, 1) := by decide +kernel
theorem dX4_over_155 : decode cX4_over 155 = .ok (.getfield 67, 3) := by decide +kernel
theorem dX4_over_158 : decode cX4_over 158 = .ok (.aaload, 1) := by decide +kernel
theorem dX4_over_159 : decode cX4_over 159 = .ok (.getfield 70, 3) := by decide +kernel
theorem dX4_over_162 : decode cX4_over 162 = .ok (.invokevirtual 123, 3) := by decide +kernel
theorem dX4_over_165 : decode cX4_over 165 = .ok (.aload_n 0, 1) := by decide +kernel
theorem dX4_over_166 : decode cX4_over 166 = .ok (.iload_n 2, 1) := by decide +kernel
theorem dX4_over_167 : decode cX4_over 167 = .ok (.invokevirtual 100, 3) := by decide +kernel
theorem dX4_over_170 : decode cX4_over 170 = .ok (.ireturn, 1) := by decide +kernel
theorem dX4_prime_0 : decode cX4_prime 0 = .ok (.aload_n 0, 1) := by decide +kernel
theorem dX4_prime_1 : decode cX4_prime 1 = .ok (.iload_n 1, 1) := by decide +kernel
theorem dX4_prime_2 : decode cX4_prime 2 = .ok (.invokevirtual 90, 3) := by decide +kernel
theorem dX4_prime_5 : decode cX4_prime 5 = .ok (.ifCond .ne 10, 3) := by decide +kernel
theorem dX4_prime_8 : decode cX4_prime 8 = .ok (.aload_n 0, 1) := by decide +kernel
theorem dX4_prime_9 : decode cX4_prime 9 = .ok (.bipush (-3), 2) := by decide +kernel
theorem dX4_prime_11 : decode cX4_prime 11 = .ok (.invokevirtual 48, 3) := by decide +kernel
theorem dX4_prime_14 : decode cX4_prime 14 = .ok (.ireturn, 1) := by decide +kernel
theorem dX4_prime_15 : decode cX4_prime 15 = .ok (.aload_n 0, 1) := by decide +kernel
theorem dX4_prime_16 : decode cX4_prime 16 = .ok (.getfield 11, 3) := by decide +kernel
theorem dX4_prime_19 : decode cX4_prime 19 = .ok (.iload_n 1, 1) := by decide +kernel
theorem dX4_prime_20 : decode cX4_prime 20 = .ok (.aaload, 1) := by decide +kernel
theorem dX4_prime_21 : decode cX4_prime 21 = .ok (.getfield 93, 3) := by decide +kernel
theorem dX4_prime_24 : decode cX4_prime 24 = .ok (.istore_n 3, 1) := by decide +kernel
theorem dX4_prime_25 : decode cX4_prime 25 = .ok (.iload_n 2, 1) := by decide +kernel
theorem dX4_prime_26 : decode cX4_prime 26 = .ok (.invokestatic 126, 3) := by decide +kernel
theorem dX4_prime_29 : decode cX4_prime 29 = .ok (.ifCond .eq 8, 3) := by decide +kernel
theorem dX4_prime_32 : decode cX4_prime 32 = .ok (.iload_n 3, 1) := by decide +kernel
theorem dX4_prime_33 : decode cX4_prime 33 = .ok (.iconst 4, 1) := by decide +kernel
theorem dX4_prime_34 : decode cX4_prime 34 = .ok (.if_icmp .ge 10, 3) := by decide +kernel
theorem dX4_prime_37 : decode cX4_prime 37 = .ok (.aload_n 0, 1) := by decide +kernel
theorem dX4_prime_38 : decode cX4_prime 38 = .ok (.bipush (-7), 2) := by decide +kernel
theorem dX4_prime_40 : decode cX4_prime 40 = .ok (.invokevirtual 48, 3) := by decide +kernel
theorem dX4_prime_43 : decode cX4_prime 43 = .ok (.ireturn, 1) := by decide +kernel
theorem dX4_prime_44 : decode cX4_prime 44 = .ok (.aload_n 0, 1) := by decide +kernel
theorem dX4_prime_45 : decode cX4_prime 45 = .ok (.iload_n 3, 1) := by decide +kernel
theorem dX4_prime_46 : decode cX4_prime 46 = .ok (.invokevirtual 51, 3) := by decide +kernel
theorem dX4_prime_49 : decode cX4_prime 49 = .ok (.ifCond .ne 10, 3) := by decide +kernel
theorem dX4_prime_52 : decode cX4_prime 52 = .ok (.aload_n 0, 1) := by decide +kernel
theorem dX4_prime_53 : decode cX4_prime 53 = .ok (.bipush (-8), 2) := by decide +kernel
theorem dX4_prime_55 : decode cX4_prime 55 = .ok (.invokevirtual 48, 3) := by decide +kernel
theorem dX4_prime_58 : decode cX4_prime 58 = .ok (.ireturn, 1) := by decide +kernel
theorem dX4_prime_59 : decode cX4_prime 59 = .ok (.aload_n 0, 1) := by decide +kernel
theorem dX4_prime_60 : decode cX4_prime 60 = .ok (.getfield 18, 3) := by decide +kernel
theorem dX4_prime_63 : decode cX4_prime 63 = .ok (.iload_n 3, 1) := by decide +kernel
theorem dX4_prime_64 : decode cX4_prime 64 = .ok (.aload_n 0, 1) := by decide +kernel
theorem dX4_prime_65 : decode cX4_prime 65 = .ok (.getfield 11, 3) := by decide +kernel
theorem dX4_prime_68 : decode cX4_prime 68 = .ok (.iload_n 1, 1) := by decide +kernel
theorem dX4_prime_69 : decode cX4_prime 69 = .ok (.aaload, 1) := by decide +kernel
theorem dX4_prime_70 : decode cX4_prime 70 = .ok (.getfield 70, 3) := by decide +kernel
theorem dX4_prime_73 : decode cX4_prime 73 = .ok (.iload_n 2, 1) := by decide +kernel
theorem dX4_prime_74 : decode cX4_prime 74 = .ok (.aload_n 0, 1) := by decide +kernel
theorem dX4_prime_75 : decode cX4_prime 75 = .ok (.getfield 26, 3) := by decide +kernel
theorem dX4_prime_78 : decode cX4_prime 78 = .ok (.invokevirtual 129, 3) := by decide +kernel
theorem dX4_prime_81 : decode cX4_prime 81 = .ok (.aload_n 0, 1) := by decide +kernel
theorem dX4_prime_82 : decode cX4_prime 82 = .ok (.getfield 18, 3) := by decide +kernel
theorem dX4_prime_85 : decode cX4_prime 85 = .ok (.iload_n 3, 1) := by decide +kernel
theorem dX4_prime_86 : decode cX4_prime 86 = .ok (.aload_n 0, 1) := by decide +kernel
theorem dX4_prime_87 : decode cX4_prime 87 = .ok (.getfield 26, 3) := by decide +kernel
theorem dX4_prime_90 : decode cX4_prime 90 = .ok (.aload_n 0, 1) := by decide +kernel
theorem dX4_prime_91 : decode cX4_prime 91 = .ok (.getfield 22, 3) := by decide +kernel
theorem dX4_prime_94 : decode cX4_prime 94 = .ok (.invokevirtual 116, 3) := by decide +kernel
theorem dX4_prime_97 : decode cX4_prime 97 = .ok (.aload_n 0, 1) := by decide +kernel
theorem dX4_prime_98 : decode cX4_prime 98 = .ok (.getfield 18, 3) := by decide +kernel
theorem dX4_prime_101 : decode cX4_prime 101 = .ok (.iload_n 3, 1) := by decide +kernel
theorem dX4_prime_102 : decode cX4_prime 102 = .ok (.aload_n 0, 1) := by decide +kernel
theorem dX4_prime_103 : decode cX4_prime 103 = .ok (.getfield 22, 3) := by decide +kernel
theorem dX4_prime_106 : decode cX4_prime 106 = .ok (.aload_n 0, 1) := by decide +kernel
theorem dX4_prime_107 : decode cX4_prime 107 = .ok (.getfield 11, 3) := by decide +kernel
theorem dX4_prime_110 : decode cX4_prime 110 = .ok (.aload_n 0, 1) := by decide +kernel
theorem dX4_prime_111 : decode cX4_prime 111 = .ok (.getfield 67, 3) := by decide +kernel
theorem dX4_prime_114 : decode cX4_prime 114 = .ok (.aaload, 1) := by decide +kernel
theorem dX4_prime_115 : decode cX4_prime 115 = .ok (.getfield 70, 3) := by decide +kernel
theorem dX4_prime_118 : decode cX4_prime 118 = .ok (.invokevirtual 123, 3) := by decide +kernel
theorem dX4_prime_121 : decode cX4_prime 121 = .ok (.aload_n 0, 1) := by decide +kernel
theorem dX4_prime_122 : decode cX4_prime 122 = .ok (.iload_n 3, 1) := by decide +kernel
theorem dX4_prime_123 : decode cX4_prime 123 = .ok (.invokevirtual 100, 3) := by decide +kernel
theorem dX4_prime_126 : decode cX4_prime 126 = .ok (.ireturn, 1) := by decide +kernel
theorem dX4_basis_0 : decode cX4_basis 0 = .ok (.iload_n 1, 1) := by decide +kernel
theorem dX4_basis_1 : decode cX4_basis 1 = .ok (.invokestatic 133, 3) := by decide +kernel
theorem dX4_basis_4 : decode cX4_basis 4 = .ok (.ifCond .ne 10, 3) := by decide +kernel
theorem dX4_basis_7 : decode cX4_basis 7 = .ok (.aload_n 0, 1) := by decide +kernel
theorem dX4_basis_8 : decode cX4_basis 8 = .ok (.bipush (-7), 2) := by decide +kernel
theorem dX4_basis_10 : decode cX4_basis 10 = .ok (.invokevirtual 48, 3) := by decide +kernel
theorem dX4_basis_13 : decode cX4_basis 13 = .ok (.ireturn, 1) := by decide +kernel
theorem dX4_basis_14 : decode cX4_basis 14 = .ok (.iload_n 2, 1) := by decide +kernel
theorem dX4_basis_15 : decode cX4_basis 15 = .ok (.ifCond .lt 15, 3) := by decide +kernel
theorem dX4_basis_18 : decode cX4_basis 18 = .ok (.iload_n 2, 1) := by decide +kernel
theorem dX4_basis_19 : decode cX4_basis 19 = .ok (.aload_n 0, 1) := by decide +kernel
theorem dX4_basis_20 : decode cX4_basis 20 = .ok (.getfield 18, 3) := by decide +kernel
theorem dX4_basis_23 : decode cX4_basis 23 = .ok (.iload_n 1, 1) := by decide +kernel
theorem dX4_basis_24 : decode cX4_basis 24 = .ok (.invokevirtual 120, 3) := by decide +kernel
theorem dX4_basis_27 : decode cX4_basis 27 = .ok (.if_icmp .lt 10, 3) := by decide +kernel
theorem dX4_basis_30 : decode cX4_basis 30 = .ok (.aload_n 0, 1) := by decide +kernel
theorem dX4_basis_31 : decode cX4_basis 31 = .ok (.bipush (-3), 2) := by decide +kernel
theorem dX4_basis_33 : decode cX4_basis 33 = .ok (.invokevirtual 48, 3) := by decide +kernel
theorem dX4_basis_36 : decode cX4_basis 36 = .ok (.ireturn, 1) := by decide +kernel
theorem dX4_basis_37 : decode cX4_basis 37 = .ok (.aload_n 0, 1) := by decide +kernel
theorem dX4_basis_38 : decode cX4_basis 38 = .ok (.iload_n 1, 1) := by decide +kernel
theorem dX4_basis_39 : decode cX4_basis 39 = .ok (.invokevirtual 51, 3) := by decide +kernel
theorem dX4_basis_42 : decode cX4_basis 42 = .ok (.ifCond .ne 10, 3) := by decide +kernel
theorem dX4_basis_45 : decode cX4_basis 45 = .ok (.aload_n 0, 1) := by decide +kernel
theorem dX4_basis_46 : decode cX4_basis 46 = .ok (.bipush (-8), 2) := by decide +kernel
theorem dX4_basis_48 : decode cX4_basis 48 = .ok (.invokevirtual 48, 3) := by decide +kernel
theorem dX4_basis_51 : decode cX4_basis 51 = .ok (.ireturn, 1) := by decide +kernel
theorem dX4_basis_52 : decode cX4_basis 52 = .ok (.aload_n 0, 1) := by decide +kernel
theorem dX4_basis_53 : decode cX4_basis 53 = .ok (.getfield 18, 3) := by decide +kernel
theorem dX4_basis_56 : decode cX4_basis 56 = .ok (.iload_n 1, 1) := by decide +kernel
theorem dX4_basis_57 : decode cX4_basis 57 = .ok (.iload_n 2, 1) := by decide +kernel
theorem dX4_basis_58 : decode cX4_basis 58 = .ok (.invokevirtual 136, 3) := by decide +kernel
theorem dX4_basis_61 : decode cX4_basis 61 = .ok (.iconst 0, 1) := by decide +kernel
theorem dX4_basis_62 : decode cX4_basis 62 = .ok (.aload_n 0, 1) := by decide +kernel
theorem dX4_basis_63 : decode cX4_basis 63 = .ok (.getfield 11, 3) := by decide +kernel
theorem dX4_basis_66 : decode cX4_basis 66 = .ok (.aload_n 0, 1) := by decide +kernel
theorem dX4_basis_67 : decode cX4_basis 67 = .ok (.getfield 67, 3) := by decide +kernel
theorem dX4_basis_70 : decode cX4_basis 70 = .ok (.aaload, 1) := by decide +kernel
theorem dX4_basis_71 : decode cX4_basis 71 = .ok (.getfield 70, 3) := by decide +kernel
theorem dX4_basis_74 : decode cX4_basis 74 = .ok (.iconst 0, 1) := by decide +kernel
theorem dX4_basis_75 : decode cX4_basis 75 = .ok (.bipush 48, 2) := by decide +kernel
theorem dX4_basis_77 : decode cX4_basis 77 = .ok (.invokestatic 140, 3) := by decide +kernel
theorem dX4_basis_80 : decode cX4_basis 80 = .ok (.aload_n 0, 1) := by decide +kernel
theorem dX4_basis_81 : decode cX4_basis 81 = .ok (.iload_n 1, 1) := by decide +kernel
theorem dX4_basis_82 : decode cX4_basis 82 = .ok (.invokevirtual 100, 3) := by decide +kernel
theorem dX4_basis_85 : decode cX4_basis 85 = .ok (.ireturn, 1) := by decide +kernel
theorem dX4_drop_0 : decode cX4_drop 0 = .ok (.aload_n 0, 1) := by decide +kernel
theorem dX4_drop_1 : decode cX4_drop 1 = .ok (.getfield 67, 3) := by decide +kernel
theorem dX4_drop_4 : decode cX4_drop 4 = .ok (.ifCond .gt 10, 3) := by decide +kernel
theorem dX4_drop_7 : decode cX4_drop 7 = .ok (.aload_n 0, 1) := by decide +kernel
theorem dX4_drop_8 : decode cX4_drop 8 = .ok (.bipush (-2), 2) := by decide +kernel
theorem dX4_drop_10 : decode cX4_drop 10 = .ok (.invokevirtual 48, 3) := by decide +kernel
theorem dX4_drop_13 : decode cX4_drop 13 = .ok (.ireturn, 1) := by decide +kernel
theorem dX4_drop_14 : decode cX4_drop 14 = .ok (.aload_n 0, 1) := by decide +kernel
theorem dX4_drop_15 : decode cX4_drop 15 = .ok (.dup, 1) := by decide +kernel
theorem dX4_drop_16 : decode cX4_drop 16 = .ok (.getfield 67, 3) := by decide +kernel
theorem dX4_drop_19 : decode cX4_drop 19 = .ok (.iconst 1, 1) := by decide +kernel
theorem dX4_drop_20 : decode cX4_drop 20 = .ok (.isub, 1) := by decide +kernel
theorem dX4_drop_21 : decode cX4_drop 21 = .ok (.putfield 67, 3) := by decide +kernel
theorem dX4_drop_24 : decode cX4_drop 24 = .ok (.aload_n 0, 1) := by decide +kernel
theorem dX4_drop_25 : decode cX4_drop 25 = .ok (.getfield 67, 3) := by decide +kernel
theorem dX4_drop_28 : decode cX4_drop 28 = .ok (.ireturn, 1) := by decide +kernel
theorem dX4_look_0 : decode cX4_look 0 = .ok (.aload_n 0, 1) := by decide +kernel
theorem dX4_look_1 : decode cX4_look 1 = .ok (.iload_n 1, 1) := by decide +kernel
theorem dX4_look_2 : decode cX4_look 2 = .ok (.invokevirtual 90, 3) := by decide +kernel
theorem dX4_look_5 : decode cX4_look 5 = .ok (.ifCond .ne 10, 3) := by decide +kernel
theorem dX4_look_8 : decode cX4_look 8 = .ok (.aload_n 0, 1) := by decide +kernel
theorem dX4_look_9 : decode cX4_look 9 = .ok (.bipush (-3), 2) := by decide +kernel
theorem dX4_look_11 : decode cX4_look 11 = .ok (.invokevirtual 48, 3) := by decide +kernel
theorem dX4_look_14 : decode cX4_look 14 = .ok (.ireturn, 1) := by decide +kernel
theorem dX4_look_15 : decode cX4_look 15 = .ok (.aload_n 0, 1) := by decide +kernel
theorem dX4_look_16 : decode cX4_look 16 = .ok (.getfield 11, 3) := by decide +kernel
theorem dX4_look_19 : decode cX4_look 19 = .ok (.iload_n 1, 1) := by decide +kernel
theorem dX4_look_20 : decode cX4_look 20 = .ok (.aaload, 1) := by decide +kernel
theorem dX4_look_21 : decode cX4_look 21 = .ok (.astore_n 3, 1) := by decide +kernel
theorem dX4_look_22 : decode cX4_look 22 = .ok (.iload_n 2, 1) := by decide +kernel
theorem dX4_look_23 : decode cX4_look 23 = .ok (.tableswitch 93 0 4 #[33, 38, 43, 51, 63], 33) := by decide +kernel
theorem dX4_look_56 : decode cX4_look 56 = .ok (.aload_n 3, 1) := by decide +kernel
theorem dX4_look_57 : decode cX4_look 57 = .ok (.getfield 146, 3) := by decide +kernel
theorem dX4_look_60 : decode cX4_look 60 = .ok (.ireturn, 1) := by decide +kernel
theorem dX4_look_61 : decode cX4_look 61 = .ok (.aload_n 3, 1) := by decide +kernel
theorem dX4_look_62 : decode cX4_look 62 = .ok (.getfield 93, 3) := by decide +kernel
theorem dX4_look_65 : decode cX4_look 65 = .ok (.ireturn, 1) := by decide +kernel
theorem dX4_look_66 : decode cX4_look 66 = .ok (.aload_n 3, 1) := by decide +kernel
theorem dX4_look_67 : decode cX4_look 67 = .ok (.getfield 70, 3) := by decide +kernel
theorem dX4_look_70 : decode cX4_look 70 = .ok (.invokestatic 149, 3) := by decide +kernel
theorem dX4_look_73 : decode cX4_look 73 = .ok (.ireturn, 1) := by decide +kernel
theorem dX4_look_74 : decode cX4_look 74 = .ok (.aload_n 0, 1) := by decide +kernel
theorem dX4_look_75 : decode cX4_look 75 = .ok (.getfield 18, 3) := by decide +kernel
theorem dX4_look_78 : decode cX4_look 78 = .ok (.aload_n 3, 1) := by decide +kernel
theorem dX4_look_79 : decode cX4_look 79 = .ok (.getfield 93, 3) := by decide +kernel
theorem dX4_look_82 : decode cX4_look 82 = .ok (.invokevirtual 120, 3) := by decide +kernel
theorem dX4_look_85 : decode cX4_look 85 = .ok (.ireturn, 1) := by decide +kernel
theorem dX4_look_86 : decode cX4_look 86 = .ok (.aload_n 3, 1) := by decide +kernel
theorem dX4_look_87 : decode cX4_look 87 = .ok (.getfield 146, 3) := by decide +kernel
theorem dX4_look_90 : decode cX4_look 90 = .ok (.iconst 1, 1) := by decide +kernel
theorem dX4_look_91 : decode cX4_look 91 = .ok (.if_icmp .eq 11, 3) := by decide +kernel
theorem dX4_look_94 : decode cX4_look 94 = .ok (.aload_n 3, 1) := by decide +kernel
theorem dX4_look_95 : decode cX4_look 95 = .ok (.getfield 146, 3) := by decide +kernel
theorem dX4_look_98 : decode cX4_look 98 = .ok (.iconst 2, 1) := by decide +kernel
theorem dX4_look_99 : decode cX4_look 99 = .ok (.if_icmp .ne 10, 3) := by decide +kernel
theorem dX4_look_102 : decode cX4_look 102 = .ok (.aload_n 3, 1) := by decide +kernel
theorem dX4_look_103 : decode cX4_look 103 = .ok (.getfield 153, 3) := by decide +kernel
theorem dX4_look_106 : decode cX4_look 106 = .ok (.goto 9, 3) := by decide +kernel
theorem dX4_look_109 : decode cX4_look 109 = .ok (.aload_n 0, 1) := by decide +kernel
theorem dX4_look_110 : decode cX4_look 110 = .ok (.bipush (-5), 2) := by decide +kernel
theorem dX4_look_112 : decode cX4_look 112 = .ok (.invokevirtual 48, 3) := by decide +kernel
theorem dX4_look_115 : decode cX4_look 115 = .ok (.ireturn, 1) := by decide +kernel
theorem dX4_look_116 : decode cX4_look 116 = .ok (.aload_n 0, 1) := by decide +kernel
theorem dX4_look_117 : decode cX4_look 117 = .ok (.bipush (-7), 2) := by decide +kernel
theorem dX4_look_119 : decode cX4_look 119 = .ok (.invokevirtual 48, 3) := by decide +kernel
theorem dX4_look_122 : decode cX4_look 122 = .ok (.ireturn, 1) := by decide +kernel
theorem dX4_at_0 : decode cX4_at 0 = .ok (.aload_n 0, 1) := by decide +kernel
theorem dX4_at_1 : decode cX4_at 1 = .ok (.iload_n 1, 1) := by decide +kernel
theorem dX4_at_2 : decode cX4_at 2 = .ok (.invokevirtual 90, 3) := by decide +kernel
theorem dX4_at_5 : decode cX4_at 5 = .ok (.ifCond .eq 13, 3) := by decide +kernel
theorem dX4_at_8 : decode cX4_at 8 = .ok (.iload_n 2, 1) := by decide +kernel
theorem dX4_at_9 : decode cX4_at 9 = .ok (.ifCond .lt 9, 3) := by decide +kernel
theorem dX4_at_12 : decode cX4_at 12 = .ok (.iload_n 2, 1) := by decide +kernel
theorem dX4_at_13 : decode cX4_at 13 = .ok (.bipush 48, 2) := by decide +kernel
theorem dX4_at_15 : decode cX4_at 15 = .ok (.if_icmp .lt 10, 3) := by decide +kernel
theorem dX4_at_18 : decode cX4_at 18 = .ok (.aload_n 0, 1) := by decide +kernel
theorem dX4_at_19 : decode cX4_at 19 = .ok (.bipush (-3), 2) := by decide +kernel
theorem dX4_at_21 : decode cX4_at 21 = .ok (.invokevirtual 48, 3) := by decide +kernel
theorem dX4_at_24 : decode cX4_at 24 = .ok (.ireturn, 1) := by decide +kernel
theorem dX4_at_25 : decode cX4_at 25 = .ok (.aload_n 0, 1) := by decide +kernel
theorem dX4_at_26 : decode cX4_at 26 = .ok (.getfield 11, 3) := by decide +kernel
theorem dX4_at_29 : decode cX4_at 29 = .ok (.iload_n 1, 1) := by decide +kernel
theorem dX4_at_30 : decode cX4_at 30 = .ok (.aaload, 1) := by decide +kernel
theorem dX4_at_31 : decode cX4_at 31 = .ok (.getfield 70, 3) := by decide +kernel
theorem dX4_at_34 : decode cX4_at 34 = .ok (.iload_n 2, 1) := by decide +kernel
end
section
theorem dX4_at_35 : decode cX4_at 35 = .ok (.laload, 1) := by decide +kernel
theorem dX4_at_36 : decode cX4_at 36 = .ok (.l2i, 1) := by decide +kernel
theorem dX4_at_37 : decode cX4_at 37 = .ok (.ireturn, 1) := by decide +kernel
theorem dX4_part_0 : decode cX4_part 0 = .ok (.aload_n 0, 1) := by decide +kernel
theorem dX4_part_1 : decode cX4_part 1 = .ok (.iload_n 1, 1) := by decide +kernel
theorem dX4_part_2 : decode cX4_part 2 = .ok (.invokevirtual 90, 3) := by decide +kernel
theorem dX4_part_5 : decode cX4_part 5 = .ok (.ifCond .eq 27, 3) := by decide +kernel
theorem dX4_part_8 : decode cX4_part 8 = .ok (.iload_n 2, 1) := by decide +kernel
theorem dX4_part_9 : decode cX4_part 9 = .ok (.ifCond .lt 23, 3) := by decide +kernel
theorem dX4_part_12 : decode cX4_part 12 = .ok (.iload_n 2, 1) := by decide +kernel
theorem dX4_part_13 : decode cX4_part 13 = .ok (.aload_n 0, 1) := by decide +kernel
theorem dX4_part_14 : decode cX4_part 14 = .ok (.getfield 18, 3) := by decide +kernel
theorem dX4_part_17 : decode cX4_part 17 = .ok (.aload_n 0, 1) := by decide +kernel
theorem dX4_part_18 : decode cX4_part 18 = .ok (.getfield 11, 3) := by decide +kernel
theorem dX4_part_21 : decode cX4_part 21 = .ok (.iload_n 1, 1) := by decide +kernel
theorem dX4_part_22 : decode cX4_part 22 = .ok (.aaload, 1) := by decide +kernel
theorem dX4_part_23 : decode cX4_part 23 = .ok (.getfield 93, 3) := by decide +kernel
theorem dX4_part_26 : decode cX4_part 26 = .ok (.invokevirtual 120, 3) := by decide +kernel
theorem dX4_part_29 : decode cX4_part 29 = .ok (.if_icmp .lt 10, 3) := by decide +kernel
theorem dX4_part_32 : decode cX4_part 32 = .ok (.aload_n 0, 1) := by decide +kernel
theorem dX4_part_33 : decode cX4_part 33 = .ok (.bipush (-3), 2) := by decide +kernel
theorem dX4_part_35 : decode cX4_part 35 = .ok (.invokevirtual 48, 3) := by decide +kernel
theorem dX4_part_38 : decode cX4_part 38 = .ok (.ireturn, 1) := by decide +kernel
theorem dX4_part_39 : decode cX4_part 39 = .ok (.aload_n 0, 1) := by decide +kernel
theorem dX4_part_40 : decode cX4_part 40 = .ok (.getfield 18, 3) := by decide +kernel
theorem dX4_part_43 : decode cX4_part 43 = .ok (.aload_n 0, 1) := by decide +kernel
theorem dX4_part_44 : decode cX4_part 44 = .ok (.getfield 11, 3) := by decide +kernel
theorem dX4_part_47 : decode cX4_part 47 = .ok (.iload_n 1, 1) := by decide +kernel
theorem dX4_part_48 : decode cX4_part 48 = .ok (.aaload, 1) := by decide +kernel
theorem dX4_part_49 : decode cX4_part 49 = .ok (.getfield 93, 3) := by decide +kernel
theorem dX4_part_52 : decode cX4_part 52 = .ok (.aload_n 0, 1) := by decide +kernel
theorem dX4_part_53 : decode cX4_part 53 = .ok (.getfield 11, 3) := by decide +kernel
theorem dX4_part_56 : decode cX4_part 56 = .ok (.iload_n 1, 1) := by decide +kernel
theorem dX4_part_57 : decode cX4_part 57 = .ok (.aaload, 1) := by decide +kernel
theorem dX4_part_58 : decode cX4_part 58 = .ok (.getfield 70, 3) := by decide +kernel
theorem dX4_part_61 : decode cX4_part 61 = .ok (.aload_n 0, 1) := by decide +kernel
theorem dX4_part_62 : decode cX4_part 62 = .ok (.getfield 22, 3) := by decide +kernel
theorem dX4_part_65 : decode cX4_part 65 = .ok (.invokevirtual 116, 3) := by decide +kernel
theorem dX4_part_68 : decode cX4_part 68 = .ok (.aload_n 0, 1) := by decide +kernel
theorem dX4_part_69 : decode cX4_part 69 = .ok (.getfield 22, 3) := by decide +kernel
theorem dX4_part_72 : decode cX4_part 72 = .ok (.iload_n 2, 1) := by decide +kernel
theorem dX4_part_73 : decode cX4_part 73 = .ok (.laload, 1) := by decide +kernel
theorem dX4_part_74 : decode cX4_part 74 = .ok (.l2i, 1) := by decide +kernel
theorem dX4_part_75 : decode cX4_part 75 = .ok (.ireturn, 1) := by decide +kernel
theorem dX4_same_0 : decode cX4_same 0 = .ok (.aload_n 0, 1) := by decide +kernel
theorem dX4_same_1 : decode cX4_same 1 = .ok (.iload_n 1, 1) := by decide +kernel
theorem dX4_same_2 : decode cX4_same 2 = .ok (.invokevirtual 90, 3) := by decide +kernel
theorem dX4_same_5 : decode cX4_same 5 = .ok (.ifCond .eq 11, 3) := by decide +kernel
theorem dX4_same_8 : decode cX4_same 8 = .ok (.aload_n 0, 1) := by decide +kernel
theorem dX4_same_9 : decode cX4_same 9 = .ok (.iload_n 2, 1) := by decide +kernel
theorem dX4_same_10 : decode cX4_same 10 = .ok (.invokevirtual 90, 3) := by decide +kernel
theorem dX4_same_13 : decode cX4_same 13 = .ok (.ifCond .ne 10, 3) := by decide +kernel
theorem dX4_same_16 : decode cX4_same 16 = .ok (.aload_n 0, 1) := by decide +kernel
theorem dX4_same_17 : decode cX4_same 17 = .ok (.bipush (-3), 2) := by decide +kernel
theorem dX4_same_19 : decode cX4_same 19 = .ok (.invokevirtual 48, 3) := by decide +kernel
theorem dX4_same_22 : decode cX4_same 22 = .ok (.ireturn, 1) := by decide +kernel
theorem dX4_same_23 : decode cX4_same 23 = .ok (.aload_n 0, 1) := by decide +kernel
theorem dX4_same_24 : decode cX4_same 24 = .ok (.getfield 11, 3) := by decide +kernel
theorem dX4_same_27 : decode cX4_same 27 = .ok (.iload_n 1, 1) := by decide +kernel
theorem dX4_same_28 : decode cX4_same 28 = .ok (.aaload, 1) := by decide +kernel
theorem dX4_same_29 : decode cX4_same 29 = .ok (.getfield 70, 3) := by decide +kernel
theorem dX4_same_32 : decode cX4_same 32 = .ok (.astore_n 3, 1) := by decide +kernel
theorem dX4_same_33 : decode cX4_same 33 = .ok (.aload_n 0, 1) := by decide +kernel
theorem dX4_same_34 : decode cX4_same 34 = .ok (.getfield 11, 3) := by decide +kernel
theorem dX4_same_37 : decode cX4_same 37 = .ok (.iload_n 2, 1) := by decide +kernel
theorem dX4_same_38 : decode cX4_same 38 = .ok (.aaload, 1) := by decide +kernel
theorem dX4_same_39 : decode cX4_same 39 = .ok (.getfield 70, 3) := by decide +kernel
theorem dX4_same_42 : decode cX4_same 42 = .ok (.astore 4, 2) := by decide +kernel
theorem dX4_same_44 : decode cX4_same 44 = .ok (.aload_n 0, 1) := by decide +kernel
theorem dX4_same_45 : decode cX4_same 45 = .ok (.getfield 11, 3) := by decide +kernel
theorem dX4_same_48 : decode cX4_same 48 = .ok (.iload_n 1, 1) := by decide +kernel
theorem dX4_same_49 : decode cX4_same 49 = .ok (.aaload, 1) := by decide +kernel
theorem dX4_same_50 : decode cX4_same 50 = .ok (.getfield 93, 3) := by decide +kernel
theorem dX4_same_53 : decode cX4_same 53 = .ok (.aload_n 0, 1) := by decide +kernel
theorem dX4_same_54 : decode cX4_same 54 = .ok (.getfield 11, 3) := by decide +kernel
theorem dX4_same_57 : decode cX4_same 57 = .ok (.iload_n 2, 1) := by decide +kernel
theorem dX4_same_58 : decode cX4_same 58 = .ok (.aaload, 1) := by decide +kernel
theorem dX4_same_59 : decode cX4_same 59 = .ok (.getfield 93, 3) := by decide +kernel
theorem dX4_same_62 : decode cX4_same 62 = .ok (.if_icmp .ne 19, 3) := by decide +kernel
theorem dX4_same_65 : decode cX4_same 65 = .ok (.aload_n 3, 1) := by decide +kernel
theorem dX4_same_66 : decode cX4_same 66 = .ok (.aload 4, 2) := by decide +kernel
theorem dX4_same_68 : decode cX4_same 68 = .ok (.invokestatic 156, 3) := by decide +kernel
theorem dX4_same_71 : decode cX4_same 71 = .ok (.iconst (-1), 1) := by decide +kernel
theorem dX4_same_72 : decode cX4_same 72 = .ok (.if_icmp .ne 7, 3) := by decide +kernel
theorem dX4_same_75 : decode cX4_same 75 = .ok (.iconst 1, 1) := by decide +kernel
theorem dX4_same_76 : decode cX4_same 76 = .ok (.goto 4, 3) := by decide +kernel
theorem dX4_same_79 : decode cX4_same 79 = .ok (.iconst 0, 1) := by decide +kernel
theorem dX4_same_80 : decode cX4_same 80 = .ok (.ireturn, 1) := by decide +kernel
theorem dX4_same_81 : decode cX4_same 81 = .ok (.aload_n 3, 1) := by decide +kernel
theorem dX4_same_82 : decode cX4_same 82 = .ok (.invokestatic 149, 3) := by decide +kernel
theorem dX4_same_85 : decode cX4_same 85 = .ok (.iconst (-1), 1) := by decide +kernel
theorem dX4_same_86 : decode cX4_same 86 = .ok (.if_icmp .ne 16, 3) := by decide +kernel
theorem dX4_same_89 : decode cX4_same 89 = .ok (.aload 4, 2) := by decide +kernel
theorem dX4_same_91 : decode cX4_same 91 = .ok (.invokestatic 149, 3) := by decide +kernel
theorem dX4_same_94 : decode cX4_same 94 = .ok (.iconst (-1), 1) := by decide +kernel
theorem dX4_same_95 : decode cX4_same 95 = .ok (.if_icmp .ne 7, 3) := by decide +kernel
theorem dX4_same_98 : decode cX4_same 98 = .ok (.iconst 1, 1) := by decide +kernel
theorem dX4_same_99 : decode cX4_same 99 = .ok (.goto 4, 3) := by decide +kernel
theorem dX4_same_102 : decode cX4_same 102 = .ok (.iconst 0, 1) := by decide +kernel
theorem dX4_same_103 : decode cX4_same 103 = .ok (.ireturn, 1) := by decide +kernel
theorem dX4_apart_0 : decode cX4_apart 0 = .ok (.aload_n 0, 1) := by decide +kernel
theorem dX4_apart_1 : decode cX4_apart 1 = .ok (.iload_n 1, 1) := by decide +kernel
theorem dX4_apart_2 : decode cX4_apart 2 = .ok (.invokevirtual 90, 3) := by decide +kernel
theorem dX4_apart_5 : decode cX4_apart 5 = .ok (.ifCond .eq 11, 3) := by decide +kernel
theorem dX4_apart_8 : decode cX4_apart 8 = .ok (.aload_n 0, 1) := by decide +kernel
theorem dX4_apart_9 : decode cX4_apart 9 = .ok (.iload_n 2, 1) := by decide +kernel
theorem dX4_apart_10 : decode cX4_apart 10 = .ok (.invokevirtual 90, 3) := by decide +kernel
theorem dX4_apart_13 : decode cX4_apart 13 = .ok (.ifCond .ne 10, 3) := by decide +kernel
theorem dX4_apart_16 : decode cX4_apart 16 = .ok (.aload_n 0, 1) := by decide +kernel
theorem dX4_apart_17 : decode cX4_apart 17 = .ok (.bipush (-3), 2) := by decide +kernel
theorem dX4_apart_19 : decode cX4_apart 19 = .ok (.invokevirtual 48, 3) := by decide +kernel
theorem dX4_apart_22 : decode cX4_apart 22 = .ok (.ireturn, 1) := by decide +kernel
theorem dX4_apart_23 : decode cX4_apart 23 = .ok (.aload_n 0, 1) := by decide +kernel
theorem dX4_apart_24 : decode cX4_apart 24 = .ok (.getfield 11, 3) := by decide +kernel
theorem dX4_apart_27 : decode cX4_apart 27 = .ok (.iload_n 1, 1) := by decide +kernel
theorem dX4_apart_28 : decode cX4_apart 28 = .ok (.aaload, 1) := by decide +kernel
theorem dX4_apart_29 : decode cX4_apart 29 = .ok (.getfield 93, 3) := by decide +kernel
theorem dX4_apart_32 : decode cX4_apart 32 = .ok (.aload_n 0, 1) := by decide +kernel
theorem dX4_apart_33 : decode cX4_apart 33 = .ok (.getfield 11, 3) := by decide +kernel
theorem dX4_apart_36 : decode cX4_apart 36 = .ok (.iload_n 2, 1) := by decide +kernel
theorem dX4_apart_37 : decode cX4_apart 37 = .ok (.aaload, 1) := by decide +kernel
theorem dX4_apart_38 : decode cX4_apart 38 = .ok (.getfield 93, 3) := by decide +kernel
theorem dX4_apart_41 : decode cX4_apart 41 = .ok (.if_icmp .eq 10, 3) := by decide +kernel
theorem dX4_apart_44 : decode cX4_apart 44 = .ok (.aload_n 0, 1) := by decide +kernel
theorem dX4_apart_45 : decode cX4_apart 45 = .ok (.bipush (-7), 2) := by decide +kernel
theorem dX4_apart_47 : decode cX4_apart 47 = .ok (.invokevirtual 48, 3) := by decide +kernel
theorem dX4_apart_50 : decode cX4_apart 50 = .ok (.ireturn, 1) := by decide +kernel
theorem dX4_apart_51 : decode cX4_apart 51 = .ok (.aload_n 0, 1) := by decide +kernel
theorem dX4_apart_52 : decode cX4_apart 52 = .ok (.getfield 11, 3) := by decide +kernel
theorem dX4_apart_55 : decode cX4_apart 55 = .ok (.iload_n 1, 1) := by decide +kernel
theorem dX4_apart_56 : decode cX4_apart 56 = .ok (.aaload, 1) := by decide +kernel
theorem dX4_apart_57 : decode cX4_apart 57 = .ok (.getfield 70, 3) := by decide +kernel
theorem dX4_apart_60 : decode cX4_apart 60 = .ok (.aload_n 0, 1) := by decide +kernel
theorem dX4_apart_61 : decode cX4_apart 61 = .ok (.getfield 11, 3) := by decide +kernel
theorem dX4_apart_64 : decode cX4_apart 64 = .ok (.iload_n 2, 1) := by decide +kernel
theorem dX4_apart_65 : decode cX4_apart 65 = .ok (.aaload, 1) := by decide +kernel
theorem dX4_apart_66 : decode cX4_apart 66 = .ok (.getfield 70, 3) := by decide +kernel
theorem dX4_apart_69 : decode cX4_apart 69 = .ok (.invokestatic 156, 3) := by decide +kernel
theorem dX4_apart_72 : decode cX4_apart 72 = .ok (.ireturn, 1) := by decide +kernel
theorem dX4_size_0 : decode cX4_size 0 = .ok (.iload_n 1, 1) := by decide +kernel
theorem dX4_size_1 : decode cX4_size 1 = .ok (.invokestatic 133, 3) := by decide +kernel
theorem dX4_size_4 : decode cX4_size 4 = .ok (.ifCond .eq 14, 3) := by decide +kernel
theorem dX4_size_7 : decode cX4_size 7 = .ok (.aload_n 0, 1) := by decide +kernel
theorem dX4_size_8 : decode cX4_size 8 = .ok (.getfield 18, 3) := by decide +kernel
theorem dX4_size_11 : decode cX4_size 11 = .ok (.iload_n 1, 1) := by decide +kernel
theorem dX4_size_12 : decode cX4_size 12 = .ok (.invokevirtual 120, 3) := by decide +kernel
theorem dX4_size_15 : decode cX4_size 15 = .ok (.goto 9, 3) := by decide +kernel
theorem dX4_size_18 : decode cX4_size 18 = .ok (.aload_n 0, 1) := by decide +kernel
theorem dX4_size_19 : decode cX4_size 19 = .ok (.bipush (-7), 2) := by decide +kernel
theorem dX4_size_21 : decode cX4_size 21 = .ok (.invokevirtual 48, 3) := by decide +kernel
theorem dX4_size_24 : decode cX4_size 24 = .ok (.ireturn, 1) := by decide +kernel
theorem dX4_own_0 : decode cX4_own 0 = .ok (.aload_n 0, 1) := by decide +kernel
theorem dX4_own_1 : decode cX4_own 1 = .ok (.iload_n 1, 1) := by decide +kernel
theorem dX4_own_2 : decode cX4_own 2 = .ok (.invokevirtual 90, 3) := by decide +kernel
theorem dX4_own_5 : decode cX4_own 5 = .ok (.ifCond .ne 10, 3) := by decide +kernel
theorem dX4_own_8 : decode cX4_own 8 = .ok (.aload_n 0, 1) := by decide +kernel
theorem dX4_own_9 : decode cX4_own 9 = .ok (.bipush (-3), 2) := by decide +kernel
theorem dX4_own_11 : decode cX4_own 11 = .ok (.invokevirtual 48, 3) := by decide +kernel
theorem dX4_own_14 : decode cX4_own 14 = .ok (.ireturn, 1) := by decide +kernel
theorem dX4_own_15 : decode cX4_own 15 = .ok (.aload_n 0, 1) := by decide +kernel
theorem dX4_own_16 : decode cX4_own 16 = .ok (.getfield 11, 3) := by decide +kernel
theorem dX4_own_19 : decode cX4_own 19 = .ok (.iload_n 1, 1) := by decide +kernel
theorem dX4_own_20 : decode cX4_own 20 = .ok (.aaload, 1) := by decide +kernel
theorem dX4_own_21 : decode cX4_own 21 = .ok (.getfield 93, 3) := by decide +kernel
theorem dX4_own_24 : decode cX4_own 24 = .ok (.istore_n 3, 1) := by decide +kernel
theorem dX4_own_25 : decode cX4_own 25 = .ok (.iload_n 2, 1) := by decide +kernel
theorem dX4_own_26 : decode cX4_own 26 = .ok (.invokestatic 126, 3) := by decide +kernel
theorem dX4_own_29 : decode cX4_own 29 = .ok (.ifCond .eq 8, 3) := by decide +kernel
theorem dX4_own_32 : decode cX4_own 32 = .ok (.iload_n 3, 1) := by decide +kernel
theorem dX4_own_33 : decode cX4_own 33 = .ok (.iconst 4, 1) := by decide +kernel
theorem dX4_own_34 : decode cX4_own 34 = .ok (.if_icmp .ge 10, 3) := by decide +kernel
theorem dX4_own_37 : decode cX4_own 37 = .ok (.aload_n 0, 1) := by decide +kernel
theorem dX4_own_38 : decode cX4_own 38 = .ok (.bipush (-7), 2) := by decide +kernel
theorem dX4_own_40 : decode cX4_own 40 = .ok (.invokevirtual 48, 3) := by decide +kernel
theorem dX4_own_43 : decode cX4_own 43 = .ok (.ireturn, 1) := by decide +kernel
theorem dX4_own_44 : decode cX4_own 44 = .ok (.aload_n 0, 1) := by decide +kernel
theorem dX4_own_45 : decode cX4_own 45 = .ok (.getfield 18, 3) := by decide +kernel
theorem dX4_own_48 : decode cX4_own 48 = .ok (.iload_n 3, 1) := by decide +kernel
theorem dX4_own_49 : decode cX4_own 49 = .ok (.aload_n 0, 1) := by decide +kernel
theorem dX4_own_50 : decode cX4_own 50 = .ok (.getfield 11, 3) := by decide +kernel
theorem dX4_own_53 : decode cX4_own 53 = .ok (.iload_n 1, 1) := by decide +kernel
theorem dX4_own_54 : decode cX4_own 54 = .ok (.aaload, 1) := by decide +kernel
theorem dX4_own_55 : decode cX4_own 55 = .ok (.getfield 70, 3) := by decide +kernel
theorem dX4_own_58 : decode cX4_own 58 = .ok (.iload_n 2, 1) := by decide +kernel
theorem dX4_own_59 : decode cX4_own 59 = .ok (.aload_n 0, 1) := by decide +kernel
theorem dX4_own_60 : decode cX4_own 60 = .ok (.getfield 26, 3) := by decide +kernel
theorem dX4_own_63 : decode cX4_own 63 = .ok (.invokevirtual 129, 3) := by decide +kernel
theorem dX4_own_66 : decode cX4_own 66 = .ok (.aload_n 0, 1) := by decide +kernel
theorem dX4_own_67 : decode cX4_own 67 = .ok (.getfield 26, 3) := by decide +kernel
theorem dX4_own_70 : decode cX4_own 70 = .ok (.aload_n 0, 1) := by decide +kernel
theorem dX4_own_71 : decode cX4_own 71 = .ok (.getfield 11, 3) := by decide +kernel
theorem dX4_own_74 : decode cX4_own 74 = .ok (.iload_n 1, 1) := by decide +kernel
theorem dX4_own_75 : decode cX4_own 75 = .ok (.aaload, 1) := by decide +kernel
theorem dX4_own_76 : decode cX4_own 76 = .ok (.getfield 70, 3) := by decide +kernel
theorem dX4_own_79 : decode cX4_own 79 = .ok (.aload_n 0, 1) := by decide +kernel
theorem dX4_own_80 : decode cX4_own 80 = .ok (.getfield 18, 3) := by decide +kernel
theorem dX4_own_83 : decode cX4_own 83 = .ok (.iload_n 3, 1) := by decide +kernel
theorem dX4_own_84 : decode cX4_own 84 = .ok (.invokevirtual 120, 3) := by decide +kernel
theorem dX4_own_87 : decode cX4_own 87 = .ok (.invokestatic 160, 3) := by decide +kernel
theorem dX4_own_90 : decode cX4_own 90 = .ok (.ireturn, 1) := by decide +kernel
theorem dX4_trace_0 : decode cX4_trace 0 = .ok (.iload_n 1, 1) := by decide +kernel
theorem dX4_trace_1 : decode cX4_trace 1 = .ok (.invokestatic 133, 3) := by decide +kernel
theorem dX4_trace_4 : decode cX4_trace 4 = .ok (.ifCond .eq 15, 3) := by decide +kernel
theorem dX4_trace_7 : decode cX4_trace 7 = .ok (.iload_n 1, 1) := by decide +kernel
theorem dX4_trace_8 : decode cX4_trace 8 = .ok (.iconst 4, 1) := by decide +kernel
theorem dX4_trace_9 : decode cX4_trace 9 = .ok (.if_icmp .lt 10, 3) := by decide +kernel
theorem dX4_trace_12 : decode cX4_trace 12 = .ok (.iload_n 2, 1) := by decide +kernel
theorem dX4_trace_13 : decode cX4_trace 13 = .ok (.invokestatic 126, 3) := by decide +kernel
theorem dX4_trace_16 : decode cX4_trace 16 = .ok (.ifCond .ne 10, 3) := by decide +kernel
theorem dX4_trace_19 : decode cX4_trace 19 = .ok (.aload_n 0, 1) := by decide +kernel
theorem dX4_trace_20 : decode cX4_trace 20 = .ok (.bipush (-7), 2) := by decide +kernel
theorem dX4_trace_22 : decode cX4_trace 22 = .ok (.invokevirtual 48, 3) := by decide +kernel
theorem dX4_trace_25 : decode cX4_trace 25 = .ok (.ireturn, 1) := by decide +kernel
theorem dX4_trace_26 : decode cX4_trace 26 = .ok (.lconst 0, 1) := by decide +kernel
theorem dX4_trace_27 : decode cX4_trace 27 = .ok (.lstore 4, 2) := by decide +kernel
theorem dX4_trace_29 : decode cX4_trace 29 = .ok (.iload_n 3, 1) := by decide +kernel
theorem dX4_trace_30 : decode cX4_trace 30 = .ok (.ifCond .eq 7, 3) := by decide +kernel
theorem dX4_trace_33 : decode cX4_trace 33 = .ok (.iconst 1, 1) := by decide +kernel
theorem dX4_trace_34 : decode cX4_trace 34 = .ok (.goto 4, 3) := by decide +kernel
theorem dX4_trace_37 : decode cX4_trace 37 = .ok (.iconst 0, 1) := by decide +kernel
theorem dX4_trace_38 : decode cX4_trace 38 = .ok (.istore 6, 2) := by decide +kernel
theorem dX4_trace_40 : decode cX4_trace 40 = .ok (.iload 6, 2) := by decide +kernel
theorem dX4_trace_42 : decode cX4_trace 42 = .ok (.aload_n 0, 1) := by decide +kernel
theorem dX4_trace_43 : decode cX4_trace 43 = .ok (.getfield 18, 3) := by decide +kernel
theorem dX4_trace_46 : decode cX4_trace 46 = .ok (.iload_n 1, 1) := by decide +kernel
theorem dX4_trace_47 : decode cX4_trace 47 = .ok (.invokevirtual 120, 3) := by decide +kernel
theorem dX4_trace_50 : decode cX4_trace 50 = .ok (.if_icmp .ge 60, 3) := by decide +kernel
theorem dX4_trace_53 : decode cX4_trace 53 = .ok (.aload_n 0, 1) := by decide +kernel
theorem dX4_trace_54 : decode cX4_trace 54 = .ok (.getfield 18, 3) := by decide +kernel
theorem dX4_trace_57 : decode cX4_trace 57 = .ok (.iload_n 1, 1) := by decide +kernel
theorem dX4_trace_58 : decode cX4_trace 58 = .ok (.aload_n 0, 1) := by decide +kernel
theorem dX4_trace_59 : decode cX4_trace 59 = .ok (.getfield 18, 3) := by decide +kernel
theorem dX4_trace_62 : decode cX4_trace 62 = .ok (.iload_n 1, 1) := by decide +kernel
theorem dX4_trace_63 : decode cX4_trace 63 = .ok (.iload 6, 2) := by decide +kernel
theorem dX4_trace_65 : decode cX4_trace 65 = .ok (.invokevirtual 136, 3) := by decide +kernel
theorem dX4_trace_68 : decode cX4_trace 68 = .ok (.iload_n 2, 1) := by decide +kernel
theorem dX4_trace_69 : decode cX4_trace 69 = .ok (.aload_n 0, 1) := by decide +kernel
theorem dX4_trace_70 : decode cX4_trace 70 = .ok (.getfield 26, 3) := by decide +kernel
theorem dX4_trace_73 : decode cX4_trace 73 = .ok (.invokevirtual 129, 3) := by decide +kernel
theorem dX4_trace_76 : decode cX4_trace 76 = .ok (.aload_n 0, 1) := by decide +kernel
theorem dX4_trace_77 : decode cX4_trace 77 = .ok (.getfield 18, 3) := by decide +kernel
theorem dX4_trace_80 : decode cX4_trace 80 = .ok (.iload_n 1, 1) := by decide +kernel
theorem dX4_trace_81 : decode cX4_trace 81 = .ok (.aload_n 0, 1) := by decide +kernel
theorem dX4_trace_82 : decode cX4_trace 82 = .ok (.getfield 26, 3) := by decide +kernel
theorem dX4_trace_85 : decode cX4_trace 85 = .ok (.aload_n 0, 1) := by decide +kernel
theorem dX4_trace_86 : decode cX4_trace 86 = .ok (.getfield 22, 3) := by decide +kernel
theorem dX4_trace_89 : decode cX4_trace 89 = .ok (.invokevirtual 116, 3) := by decide +kernel
theorem dX4_trace_92 : decode cX4_trace 92 = .ok (.lload 4, 2) := by decide +kernel
theorem dX4_trace_94 : decode cX4_trace 94 = .ok (.aload_n 0, 1) := by decide +kernel
theorem dX4_trace_95 : decode cX4_trace 95 = .ok (.getfield 22, 3) := by decide +kernel
theorem dX4_trace_98 : decode cX4_trace 98 = .ok (.iload 6, 2) := by decide +kernel
theorem dX4_trace_100 : decode cX4_trace 100 = .ok (.laload, 1) := by decide +kernel
theorem dX4_trace_101 : decode cX4_trace 101 = .ok (.ladd, 1) := by decide +kernel
theorem dX4_trace_102 : decode cX4_trace 102 = .ok (.lstore 4, 2) := by decide +kernel
theorem dX4_trace_104 : decode cX4_trace 104 = .ok (.iinc 6 1, 3) := by decide +kernel
theorem dX4_trace_107 : decode cX4_trace 107 = .ok (.goto (-67), 3) := by decide +kernel
theorem dX4_trace_110 : decode cX4_trace 110 = .ok (.lload 4, 2) := by decide +kernel
theorem dX4_trace_112 : decode cX4_trace 112 = .ok (.invokestatic 96, 3) := by decide +kernel
theorem dX4_trace_115 : decode cX4_trace 115 = .ok (.l2i, 1) := by decide +kernel
theorem dX4_trace_116 : decode cX4_trace 116 = .ok (.ireturn, 1) := by decide +kernel
theorem dX4_squares_0 : decode cX4_squares 0 = .ok (.iload_n 1, 1) := by decide +kernel
theorem dX4_squares_1 : decode cX4_squares 1 = .ok (.iconst 1, 1) := by decide +kernel
theorem dX4_squares_2 : decode cX4_squares 2 = .ok (.if_icmp .lt 19, 3) := by decide +kernel
theorem dX4_squares_5 : decode cX4_squares 5 = .ok (.iload_n 1, 1) := by decide +kernel
theorem dX4_squares_6 : decode cX4_squares 6 = .ok (.bipush 8, 2) := by decide +kernel
theorem dX4_squares_8 : decode cX4_squares 8 = .ok (.if_icmp .gt 13, 3) := by decide +kernel
theorem dX4_squares_11 : decode cX4_squares 11 = .ok (.iload_n 2, 1) := by decide +kernel
theorem dX4_squares_12 : decode cX4_squares 12 = .ok (.ifCond .lt 9, 3) := by decide +kernel
theorem dX4_squares_15 : decode cX4_squares 15 = .ok (.iload_n 2, 1) := by decide +kernel
theorem dX4_squares_16 : decode cX4_squares 16 = .ok (.bipush 100, 2) := by decide +kernel
theorem dX4_squares_18 : decode cX4_squares 18 = .ok (.if_icmp .lt 10, 3) := by decide +kernel
theorem dX4_squares_21 : decode cX4_squares 21 = .ok (.aload_n 0, 1) := by decide +kernel
theorem dX4_squares_22 : decode cX4_squares 22 = .ok (.bipush (-7), 2) := by decide +kernel
theorem dX4_squares_24 : decode cX4_squares 24 = .ok (.invokevirtual 48, 3) := by decide +kernel
theorem dX4_squares_27 : decode cX4_squares 27 = .ok (.ireturn, 1) := by decide +kernel
theorem dX4_squares_28 : decode cX4_squares 28 = .ok (.iconst 0, 1) := by decide +kernel
theorem dX4_squares_29 : decode cX4_squares 29 = .ok (.istore_n 3, 1) := by decide +kernel
theorem dX4_squares_30 : decode cX4_squares 30 = .ok (.iload_n 3, 1) := by decide +kernel
theorem dX4_squares_31 : decode cX4_squares 31 = .ok (.iload_n 2, 1) := by decide +kernel
theorem dX4_squares_32 : decode cX4_squares 32 = .ok (.if_icmp .gt 24, 3) := by decide +kernel
theorem dX4_squares_35 : decode cX4_squares 35 = .ok (.aload_n 0, 1) := by decide +kernel
theorem dX4_squares_36 : decode cX4_squares 36 = .ok (.getfield 29, 3) := by decide +kernel
theorem dX4_squares_39 : decode cX4_squares 39 = .ok (.iload_n 3, 1) := by decide +kernel
theorem dX4_squares_40 : decode cX4_squares 40 = .ok (.iload_n 3, 1) := by decide +kernel
theorem dX4_squares_41 : decode cX4_squares 41 = .ok (.ifCond .ne 7, 3) := by decide +kernel
theorem dX4_squares_44 : decode cX4_squares 44 = .ok (.iconst 1, 1) := by decide +kernel
theorem dX4_squares_45 : decode cX4_squares 45 = .ok (.goto 4, 3) := by decide +kernel
theorem dX4_squares_48 : decode cX4_squares 48 = .ok (.iconst 0, 1) := by decide +kernel
theorem dX4_squares_49 : decode cX4_squares 49 = .ok (.iastore, 1) := by decide +kernel
theorem dX4_squares_50 : decode cX4_squares 50 = .ok (.iinc 3 1, 3) := by decide +kernel
theorem dX4_squares_53 : decode cX4_squares 53 = .ok (.goto (-23), 3) := by decide +kernel
theorem dX4_squares_56 : decode cX4_squares 56 = .ok (.iconst 0, 1) := by decide +kernel
theorem dX4_squares_57 : decode cX4_squares 57 = .ok (.istore_n 3, 1) := by decide +kernel
theorem dX4_squares_58 : decode cX4_squares 58 = .ok (.iload_n 3, 1) := by decide +kernel
theorem dX4_squares_59 : decode cX4_squares 59 = .ok (.iload_n 1, 1) := by decide +kernel
theorem dX4_squares_60 : decode cX4_squares 60 = .ok (.if_icmp .ge 14, 3) := by decide +kernel
theorem dX4_squares_63 : decode cX4_squares 63 = .ok (.aload_n 0, 1) := by decide +kernel
theorem dX4_squares_64 : decode cX4_squares 64 = .ok (.iload_n 2, 1) := by decide +kernel
theorem dX4_squares_65 : decode cX4_squares 65 = .ok (.invokevirtual 164, 3) := by decide +kernel
theorem dX4_squares_68 : decode cX4_squares 68 = .ok (.iinc 3 1, 3) := by decide +kernel
theorem dX4_squares_71 : decode cX4_squares 71 = .ok (.goto (-13), 3) := by decide +kernel
theorem dX4_squares_74 : decode cX4_squares 74 = .ok (.aload_n 0, 1) := by decide +kernel
theorem dX4_squares_75 : decode cX4_squares 75 = .ok (.getfield 29, 3) := by decide +kernel
theorem dX4_squares_78 : decode cX4_squares 78 = .ok (.iload_n 2, 1) := by decide +kernel
theorem dX4_squares_79 : decode cX4_squares 79 = .ok (.iaload, 1) := by decide +kernel
theorem dX4_squares_80 : decode cX4_squares 80 = .ok (.ireturn, 1) := by decide +kernel
theorem dX4_count_0 : decode cX4_count 0 = .ok (.aload_n 0, 1) := by decide +kernel
theorem dX4_count_1 : decode cX4_count 1 = .ok (.getfield 67, 3) := by decide +kernel
theorem dX4_count_4 : decode cX4_count 4 = .ok (.ireturn, 1) := by decide +kernel
theorem dX4_lay_0 : decode cX4_lay 0 = .ok (.aload_n 0, 1) := by decide +kernel
theorem dX4_lay_1 : decode cX4_lay 1 = .ok (.iload_n 1, 1) := by decide +kernel
theorem dX4_lay_2 : decode cX4_lay 2 = .ok (.invokevirtual 90, 3) := by decide +kernel
theorem dX4_lay_5 : decode cX4_lay 5 = .ok (.ifCond .ne 10, 3) := by decide +kernel
theorem dX4_lay_8 : decode cX4_lay 8 = .ok (.aload_n 0, 1) := by decide +kernel
theorem dX4_lay_9 : decode cX4_lay 9 = .ok (.bipush (-3), 2) := by decide +kernel
theorem dX4_lay_11 : decode cX4_lay 11 = .ok (.invokevirtual 48, 3) := by decide +kernel
theorem dX4_lay_14 : decode cX4_lay 14 = .ok (.ireturn, 1) := by decide +kernel
theorem dX4_lay_15 : decode cX4_lay 15 = .ok (.iload_n 2, 1) := by decide +kernel
theorem dX4_lay_16 : decode cX4_lay 16 = .ok (.ifCond .ge 10, 3) := by decide +kernel
theorem dX4_lay_19 : decode cX4_lay 19 = .ok (.aload_n 0, 1) := by decide +kernel
theorem dX4_lay_20 : decode cX4_lay 20 = .ok (.bipush (-4), 2) := by decide +kernel
theorem dX4_lay_22 : decode cX4_lay 22 = .ok (.invokevirtual 48, 3) := by decide +kernel
theorem dX4_lay_25 : decode cX4_lay 25 = .ok (.ireturn, 1) := by decide +kernel
theorem dX4_lay_26 : decode cX4_lay 26 = .ok (.iload_n 2, 1) := by decide +kernel
theorem dX4_lay_27 : decode cX4_lay 27 = .ok (.bipush 48, 2) := by decide +kernel
theorem dX4_lay_29 : decode cX4_lay 29 = .ok (.if_icmp .le 10, 3) := by decide +kernel
theorem dX4_lay_32 : decode cX4_lay 32 = .ok (.aload_n 0, 1) := by decide +kernel
theorem dX4_lay_33 : decode cX4_lay 33 = .ok (.bipush (-7), 2) := by decide +kernel
theorem dX4_lay_35 : decode cX4_lay 35 = .ok (.invokevirtual 48, 3) := by decide +kernel
theorem dX4_lay_38 : decode cX4_lay 38 = .ok (.ireturn, 1) := by decide +kernel
theorem dX4_lay_39 : decode cX4_lay 39 = .ok (.aload_n 0, 1) := by decide +kernel
theorem dX4_lay_40 : decode cX4_lay 40 = .ok (.getfield 11, 3) := by decide +kernel
theorem dX4_lay_43 : decode cX4_lay 43 = .ok (.iload_n 1, 1) := by decide +kernel
theorem dX4_lay_44 : decode cX4_lay 44 = .ok (.aaload, 1) := by decide +kernel
theorem dX4_lay_45 : decode cX4_lay 45 = .ok (.getfield 70, 3) := by decide +kernel
theorem dX4_lay_48 : decode cX4_lay 48 = .ok (.iconst 0, 1) := by decide +kernel
theorem dX4_lay_49 : decode cX4_lay 49 = .ok (.aload_n 0, 1) := by decide +kernel
theorem dX4_lay_50 : decode cX4_lay 50 = .ok (.getfield 33, 3) := by decide +kernel
theorem dX4_lay_53 : decode cX4_lay 53 = .ok (.iconst 0, 1) := by decide +kernel
theorem dX4_lay_54 : decode cX4_lay 54 = .ok (.iload_n 2, 1) := by decide +kernel
theorem dX4_lay_55 : decode cX4_lay 55 = .ok (.invokestatic 140, 3) := by decide +kernel
theorem dX4_lay_58 : decode cX4_lay 58 = .ok (.aload_n 0, 1) := by decide +kernel
theorem dX4_lay_59 : decode cX4_lay 59 = .ok (.iload_n 2, 1) := by decide +kernel
theorem dX4_lay_60 : decode cX4_lay 60 = .ok (.putfield 36, 3) := by decide +kernel
theorem dX4_lay_63 : decode cX4_lay 63 = .ok (.iload_n 2, 1) := by decide +kernel
theorem dX4_lay_64 : decode cX4_lay 64 = .ok (.ireturn, 1) := by decide +kernel
theorem dX4_tell_0 : decode cX4_tell 0 = .ok (.aload_n 0, 1) := by decide +kernel
theorem dX4_tell_1 : decode cX4_tell 1 = .ok (.getfield 36, 3) := by decide +kernel
theorem dX4_tell_4 : decode cX4_tell 4 = .ok (.iconst (-1), 1) := by decide +kernel
theorem dX4_tell_5 : decode cX4_tell 5 = .ok (.if_icmp .ne 10, 3) := by decide +kernel
theorem dX4_tell_8 : decode cX4_tell 8 = .ok (.aload_n 0, 1) := by decide +kernel
theorem dX4_tell_9 : decode cX4_tell 9 = .ok (.bipush (-2), 2) := by decide +kernel
theorem dX4_tell_11 : decode cX4_tell 11 = .ok (.invokevirtual 48, 3) := by decide +kernel
theorem dX4_tell_14 : decode cX4_tell 14 = .ok (.ireturn, 1) := by decide +kernel
theorem dX4_tell_15 : decode cX4_tell 15 = .ok (.iload_n 1, 1) := by decide +kernel
theorem dX4_tell_16 : decode cX4_tell 16 = .ok (.ifCond .lt 11, 3) := by decide +kernel
theorem dX4_tell_19 : decode cX4_tell 19 = .ok (.iload_n 1, 1) := by decide +kernel
theorem dX4_tell_20 : decode cX4_tell 20 = .ok (.aload_n 0, 1) := by decide +kernel
theorem dX4_tell_21 : decode cX4_tell 21 = .ok (.getfield 36, 3) := by decide +kernel
theorem dX4_tell_24 : decode cX4_tell 24 = .ok (.if_icmp .lt 10, 3) := by decide +kernel
theorem dX4_tell_27 : decode cX4_tell 27 = .ok (.aload_n 0, 1) := by decide +kernel
theorem dX4_tell_28 : decode cX4_tell 28 = .ok (.bipush (-3), 2) := by decide +kernel
theorem dX4_tell_30 : decode cX4_tell 30 = .ok (.invokevirtual 48, 3) := by decide +kernel
theorem dX4_tell_33 : decode cX4_tell 33 = .ok (.ireturn, 1) := by decide +kernel
theorem dX4_tell_34 : decode cX4_tell 34 = .ok (.aload_n 0, 1) := by decide +kernel
theorem dX4_tell_35 : decode cX4_tell 35 = .ok (.getfield 33, 3) := by decide +kernel
theorem dX4_tell_38 : decode cX4_tell 38 = .ok (.iload_n 1, 1) := by decide +kernel
theorem dX4_tell_39 : decode cX4_tell 39 = .ok (.laload, 1) := by decide +kernel
theorem dX4_tell_40 : decode cX4_tell 40 = .ok (.lstore_n 3, 1) := by decide +kernel
theorem dX4_tell_41 : decode cX4_tell 41 = .ok (.aload_n 0, 1) := by decide +kernel
theorem dX4_tell_42 : decode cX4_tell 42 = .ok (.getfield 33, 3) := by decide +kernel
theorem dX4_tell_45 : decode cX4_tell 45 = .ok (.iload_n 1, 1) := by decide +kernel
theorem dX4_tell_46 : decode cX4_tell 46 = .ok (.iload_n 2, 1) := by decide +kernel
theorem dX4_tell_47 : decode cX4_tell 47 = .ok (.i2l, 1) := by decide +kernel
theorem dX4_tell_48 : decode cX4_tell 48 = .ok (.invokestatic 96, 3) := by decide +kernel
theorem dX4_tell_51 : decode cX4_tell 51 = .ok (.lastore, 1) := by decide +kernel
theorem dX4_tell_52 : decode cX4_tell 52 = .ok (.aload_n 0, 1) := by decide +kernel
theorem dX4_tell_53 : decode cX4_tell 53 = .ok (.getfield 33, 3) := by decide +kernel
theorem dX4_tell_56 : decode cX4_tell 56 = .ok (.iload_n 1, 1) := by decide +kernel
theorem dX4_tell_57 : decode cX4_tell 57 = .ok (.laload, 1) := by decide +kernel
theorem dX4_tell_58 : decode cX4_tell 58 = .ok (.lload_n 3, 1) := by decide +kernel
theorem dX4_tell_59 : decode cX4_tell 59 = .ok (.lcmp, 1) := by decide +kernel
theorem dX4_tell_60 : decode cX4_tell 60 = .ok (.ifCond .eq 7, 3) := by decide +kernel
theorem dX4_tell_63 : decode cX4_tell 63 = .ok (.iconst 1, 1) := by decide +kernel
theorem dX4_tell_64 : decode cX4_tell 64 = .ok (.goto 4, 3) := by decide +kernel
theorem dX4_tell_67 : decode cX4_tell 67 = .ok (.iconst 0, 1) := by decide +kernel
theorem dX4_tell_68 : decode cX4_tell 68 = .ok (.ireturn, 1) := by decide +kernel
theorem dX4_give_0 : decode cX4_give 0 = .ok (.aload_n 0, 1) := by decide +kernel
theorem dX4_give_1 : decode cX4_give 1 = .ok (.getfield 36, 3) := by decide +kernel
theorem dX4_give_4 : decode cX4_give 4 = .ok (.iconst (-1), 1) := by decide +kernel
theorem dX4_give_5 : decode cX4_give 5 = .ok (.if_icmp .ne 10, 3) := by decide +kernel
theorem dX4_give_8 : decode cX4_give 8 = .ok (.aload_n 0, 1) := by decide +kernel
theorem dX4_give_9 : decode cX4_give 9 = .ok (.bipush (-2), 2) := by decide +kernel
theorem dX4_give_11 : decode cX4_give 11 = .ok (.invokevirtual 48, 3) := by decide +kernel
theorem dX4_give_14 : decode cX4_give 14 = .ok (.ireturn, 1) := by decide +kernel
theorem dX4_give_15 : decode cX4_give 15 = .ok (.iload_n 1, 1) := by decide +kernel
theorem dX4_give_16 : decode cX4_give 16 = .ok (.invokestatic 133, 3) := by decide +kernel
theorem dX4_give_19 : decode cX4_give 19 = .ok (.ifCond .eq 18, 3) := by decide +kernel
theorem dX4_give_22 : decode cX4_give 22 = .ok (.aload_n 0, 1) := by decide +kernel
theorem dX4_give_23 : decode cX4_give 23 = .ok (.getfield 36, 3) := by decide +kernel
theorem dX4_give_26 : decode cX4_give 26 = .ok (.aload_n 0, 1) := by decide +kernel
theorem dX4_give_27 : decode cX4_give 27 = .ok (.getfield 18, 3) := by decide +kernel
theorem dX4_give_30 : decode cX4_give 30 = .ok (.iload_n 1, 1) := by decide +kernel
theorem dX4_give_31 : decode cX4_give 31 = .ok (.invokevirtual 120, 3) := by decide +kernel
theorem dX4_give_34 : decode cX4_give 34 = .ok (.if_icmp .ge 10, 3) := by decide +kernel
theorem dX4_give_37 : decode cX4_give 37 = .ok (.aload_n 0, 1) := by decide +kernel
theorem dX4_give_38 : decode cX4_give 38 = .ok (.bipush (-7), 2) := by decide +kernel
theorem dX4_give_40 : decode cX4_give 40 = .ok (.invokevirtual 48, 3) := by decide +kernel
theorem dX4_give_43 : decode cX4_give 43 = .ok (.ireturn, 1) := by decide +kernel
theorem dX4_give_44 : decode cX4_give 44 = .ok (.aload_n 0, 1) := by decide +kernel
theorem dX4_give_45 : decode cX4_give 45 = .ok (.iload_n 1, 1) := by decide +kernel
theorem dX4_give_46 : decode cX4_give 46 = .ok (.invokevirtual 51, 3) := by decide +kernel
theorem dX4_give_49 : decode cX4_give 49 = .ok (.ifCond .ne 10, 3) := by decide +kernel
theorem dX4_give_52 : decode cX4_give 52 = .ok (.aload_n 0, 1) := by decide +kernel
theorem dX4_give_53 : decode cX4_give 53 = .ok (.bipush (-8), 2) := by decide +kernel
theorem dX4_give_55 : decode cX4_give 55 = .ok (.invokevirtual 48, 3) := by decide +kernel
theorem dX4_give_58 : decode cX4_give 58 = .ok (.ireturn, 1) := by decide +kernel
theorem dX4_give_59 : decode cX4_give 59 = .ok (.aload_n 0, 1) := by decide +kernel
theorem dX4_give_60 : decode cX4_give 60 = .ok (.getfield 18, 3) := by decide +kernel
theorem dX4_give_63 : decode cX4_give 63 = .ok (.iload_n 1, 1) := by decide +kernel
theorem dX4_give_64 : decode cX4_give 64 = .ok (.aload_n 0, 1) := by decide +kernel
theorem dX4_give_65 : decode cX4_give 65 = .ok (.getfield 33, 3) := by decide +kernel
theorem dX4_give_68 : decode cX4_give 68 = .ok (.aload_n 0, 1) := by decide +kernel
theorem dX4_give_69 : decode cX4_give 69 = .ok (.getfield 22, 3) := by decide +kernel
theorem dX4_give_72 : decode cX4_give 72 = .ok (.invokevirtual 116, 3) := by decide +kernel
theorem dX4_give_75 : decode cX4_give 75 = .ok (.aload_n 0, 1) := by decide +kernel
theorem dX4_give_76 : decode cX4_give 76 = .ok (.getfield 18, 3) := by decide +kernel
theorem dX4_give_79 : decode cX4_give 79 = .ok (.iload_n 1, 1) := by decide +kernel
theorem dX4_give_80 : decode cX4_give 80 = .ok (.aload_n 0, 1) := by decide +kernel
theorem dX4_give_81 : decode cX4_give 81 = .ok (.getfield 22, 3) := by decide +kernel
theorem dX4_give_84 : decode cX4_give 84 = .ok (.aload_n 0, 1) := by decide +kernel
theorem dX4_give_85 : decode cX4_give 85 = .ok (.getfield 11, 3) := by decide +kernel
theorem dX4_give_88 : decode cX4_give 88 = .ok (.aload_n 0, 1) := by decide +kernel
theorem dX4_give_89 : decode cX4_give 89 = .ok (.getfield 67, 3) := by decide +kernel
theorem dX4_give_92 : decode cX4_give 92 = .ok (.aaload, 1) := by decide +kernel
theorem dX4_give_93 : decode cX4_give 93 = .ok (.getfield 70, 3) := by decide +kernel
theorem dX4_give_96 : decode cX4_give 96 = .ok (.invokevirtual 123, 3) := by decide +kernel
theorem dX4_give_99 : decode cX4_give 99 = .ok (.aload_n 0, 1) := by decide +kernel
theorem dX4_give_100 : decode cX4_give 100 = .ok (.iload_n 1, 1) := by decide +kernel
theorem dX4_give_101 : decode cX4_give 101 = .ok (.invokevirtual 100, 3) := by decide +kernel
theorem dX4_give_104 : decode cX4_give 104 = .ok (.ireturn, 1) := by decide +kernel
theorem dX4_tear_0 : decode cX4_tear 0 = .ok (.aload_n 0, 1) := by decide +kernel
theorem dX4_tear_1 : decode cX4_tear 1 = .ok (.getfield 36, 3) := by decide +kernel
theorem dX4_tear_4 : decode cX4_tear 4 = .ok (.iconst (-1), 1) := by decide +kernel
theorem dX4_tear_5 : decode cX4_tear 5 = .ok (.if_icmp .ne 7, 3) := by decide +kernel
theorem dX4_tear_8 : decode cX4_tear 8 = .ok (.iconst 0, 1) := by decide +kernel
theorem dX4_tear_9 : decode cX4_tear 9 = .ok (.goto 4, 3) := by decide +kernel
theorem dX4_tear_12 : decode cX4_tear 12 = .ok (.iconst 1, 1) := by decide +kernel
theorem dX4_tear_13 : decode cX4_tear 13 = .ok (.istore_n 1, 1) := by decide +kernel
theorem dX4_tear_14 : decode cX4_tear 14 = .ok (.aload_n 0, 1) := by decide +kernel
theorem dX4_tear_15 : decode cX4_tear 15 = .ok (.iconst (-1), 1) := by decide +kernel
theorem dX4_tear_16 : decode cX4_tear 16 = .ok (.putfield 36, 3) := by decide +kernel
theorem dX4_tear_19 : decode cX4_tear 19 = .ok (.iload_n 1, 1) := by decide +kernel
theorem dX4_tear_20 : decode cX4_tear 20 = .ok (.ireturn, 1) := by decide +kernel
theorem dX4_row_0 : decode cX4_row 0 = .ok (.aload_n 0, 1) := by decide +kernel
theorem dX4_row_1 : decode cX4_row 1 = .ok (.getfield 36, 3) := by decide +kernel
theorem dX4_row_4 : decode cX4_row 4 = .ok (.iconst (-1), 1) := by decide +kernel
theorem dX4_row_5 : decode cX4_row 5 = .ok (.if_icmp .ne 10, 3) := by decide +kernel
theorem dX4_row_8 : decode cX4_row 8 = .ok (.aload_n 0, 1) := by decide +kernel
theorem dX4_row_9 : decode cX4_row 9 = .ok (.bipush (-2), 2) := by decide +kernel
theorem dX4_row_11 : decode cX4_row 11 = .ok (.invokevirtual 48, 3) := by decide +kernel
theorem dX4_row_14 : decode cX4_row 14 = .ok (.ireturn, 1) := by decide +kernel
theorem dX4_row_15 : decode cX4_row 15 = .ok (.iload_n 1, 1) := by decide +kernel
theorem dX4_row_16 : decode cX4_row 16 = .ok (.ifCond .lt 11, 3) := by decide +kernel
theorem dX4_row_19 : decode cX4_row 19 = .ok (.iload_n 1, 1) := by decide +kernel
theorem dX4_row_20 : decode cX4_row 20 = .ok (.aload_n 0, 1) := by decide +kernel
theorem dX4_row_21 : decode cX4_row 21 = .ok (.getfield 36, 3) := by decide +kernel
theorem dX4_row_24 : decode cX4_row 24 = .ok (.if_icmp .lt 10, 3) := by decide +kernel
theorem dX4_row_27 : decode cX4_row 27 = .ok (.aload_n 0, 1) := by decide +kernel
theorem dX4_row_28 : decode cX4_row 28 = .ok (.bipush (-3), 2) := by decide +kernel
theorem dX4_row_30 : decode cX4_row 30 = .ok (.invokevirtual 48, 3) := by decide +kernel
theorem dX4_row_33 : decode cX4_row 33 = .ok (.ireturn, 1) := by decide +kernel
theorem dX4_row_34 : decode cX4_row 34 = .ok (.aload_n 0, 1) := by decide +kernel
theorem dX4_row_35 : decode cX4_row 35 = .ok (.getfield 33, 3) := by decide +kernel
theorem dX4_row_38 : decode cX4_row 38 = .ok (.iload_n 1, 1) := by decide +kernel
theorem dX4_row_39 : decode cX4_row 39 = .ok (.laload, 1) := by decide +kernel
theorem dX4_row_40 : decode cX4_row 40 = .ok (.l2i, 1) := by decide +kernel
theorem dX4_row_41 : decode cX4_row 41 = .ok (.ireturn, 1) := by decide +kernel
theorem dX4_copy_0 : decode cX4_copy 0 = .ok (.aload_n 0, 1) := by decide +kernel
theorem dX4_copy_1 : decode cX4_copy 1 = .ok (.getfield 36, 3) := by decide +kernel
theorem dX4_copy_4 : decode cX4_copy 4 = .ok (.iconst (-1), 1) := by decide +kernel
theorem dX4_copy_5 : decode cX4_copy 5 = .ok (.if_icmp .ne 10, 3) := by decide +kernel
theorem dX4_copy_8 : decode cX4_copy 8 = .ok (.aload_n 0, 1) := by decide +kernel
theorem dX4_copy_9 : decode cX4_copy 9 = .ok (.bipush (-2), 2) := by decide +kernel
theorem dX4_copy_11 : decode cX4_copy 11 = .ok (.invokevirtual 48, 3) := by decide +kernel
theorem dX4_copy_14 : decode cX4_copy 14 = .ok (.ireturn, 1) := by decide +kernel
theorem dX4_copy_15 : decode cX4_copy 15 = .ok (.iload_n 3, 1) := by decide +kernel
theorem dX4_copy_16 : decode cX4_copy 16 = .ok (.ifCond .ge 10, 3) := by decide +kernel
theorem dX4_copy_19 : decode cX4_copy 19 = .ok (.aload_n 0, 1) := by decide +kernel
theorem dX4_copy_20 : decode cX4_copy 20 = .ok (.bipush (-4), 2) := by decide +kernel
theorem dX4_copy_22 : decode cX4_copy 22 = .ok (.invokevirtual 48, 3) := by decide +kernel
theorem dX4_copy_25 : decode cX4_copy 25 = .ok (.ireturn, 1) := by decide +kernel
theorem dX4_copy_26 : decode cX4_copy 26 = .ok (.iload_n 1, 1) := by decide +kernel
theorem dX4_copy_27 : decode cX4_copy 27 = .ok (.ifCond .lt 27, 3) := by decide +kernel
theorem dX4_copy_30 : decode cX4_copy 30 = .ok (.iload_n 2, 1) := by decide +kernel
theorem dX4_copy_31 : decode cX4_copy 31 = .ok (.ifCond .lt 23, 3) := by decide +kernel
theorem dX4_copy_34 : decode cX4_copy 34 = .ok (.iload_n 1, 1) := by decide +kernel
theorem dX4_copy_35 : decode cX4_copy 35 = .ok (.aload_n 0, 1) := by decide +kernel
theorem dX4_copy_36 : decode cX4_copy 36 = .ok (.getfield 36, 3) := by decide +kernel
theorem dX4_copy_39 : decode cX4_copy 39 = .ok (.iload_n 3, 1) := by decide +kernel
theorem dX4_copy_40 : decode cX4_copy 40 = .ok (.isub, 1) := by decide +kernel
theorem dX4_copy_41 : decode cX4_copy 41 = .ok (.if_icmp .gt 13, 3) := by decide +kernel
theorem dX4_copy_44 : decode cX4_copy 44 = .ok (.iload_n 2, 1) := by decide +kernel
theorem dX4_copy_45 : decode cX4_copy 45 = .ok (.aload_n 0, 1) := by decide +kernel
theorem dX4_copy_46 : decode cX4_copy 46 = .ok (.getfield 36, 3) := by decide +kernel
theorem dX4_copy_49 : decode cX4_copy 49 = .ok (.iload_n 3, 1) := by decide +kernel
theorem dX4_copy_50 : decode cX4_copy 50 = .ok (.isub, 1) := by decide +kernel
theorem dX4_copy_51 : decode cX4_copy 51 = .ok (.if_icmp .le 10, 3) := by decide +kernel
theorem dX4_copy_54 : decode cX4_copy 54 = .ok (.aload_n 0, 1) := by decide +kernel
theorem dX4_copy_55 : decode cX4_copy 55 = .ok (.bipush (-6), 2) := by decide +kernel
theorem dX4_copy_57 : decode cX4_copy 57 = .ok (.invokevirtual 48, 3) := by decide +kernel
theorem dX4_copy_60 : decode cX4_copy 60 = .ok (.ireturn, 1) := by decide +kernel
theorem dX4_copy_61 : decode cX4_copy 61 = .ok (.aload_n 0, 1) := by decide +kernel
theorem dX4_copy_62 : decode cX4_copy 62 = .ok (.getfield 33, 3) := by decide +kernel
theorem dX4_copy_65 : decode cX4_copy 65 = .ok (.iload_n 1, 1) := by decide +kernel
theorem dX4_copy_66 : decode cX4_copy 66 = .ok (.aload_n 0, 1) := by decide +kernel
theorem dX4_copy_67 : decode cX4_copy 67 = .ok (.getfield 33, 3) := by decide +kernel
theorem dX4_copy_70 : decode cX4_copy 70 = .ok (.iload_n 2, 1) := by decide +kernel
theorem dX4_copy_71 : decode cX4_copy 71 = .ok (.iload_n 3, 1) := by decide +kernel
theorem dX4_copy_72 : decode cX4_copy 72 = .ok (.invokestatic 140, 3) := by decide +kernel
theorem dX4_copy_75 : decode cX4_copy 75 = .ok (.iload_n 3, 1) := by decide +kernel
theorem dX4_copy_76 : decode cX4_copy 76 = .ok (.ireturn, 1) := by decide +kernel
theorem dX4_status_0 : decode cX4_status 0 = .ok (.iload_n 1, 1) := by decide +kernel
theorem dX4_status_1 : decode cX4_status 1 = .ok (.invokestatic 168, 3) := by decide +kernel
theorem dX4_status_4 : decode cX4_status 4 = .ok (.ifCond .eq 13, 3) := by decide +kernel
theorem dX4_status_7 : decode cX4_status 7 = .ok (.aload_n 0, 1) := by decide +kernel
theorem dX4_status_8 : decode cX4_status 8 = .ok (.getfield 40, 3) := by decide +kernel
theorem dX4_status_11 : decode cX4_status 11 = .ok (.iload_n 1, 1) := by decide +kernel
theorem dX4_status_12 : decode cX4_status 12 = .ok (.ineg, 1) := by decide +kernel
theorem dX4_status_13 : decode cX4_status 13 = .ok (.iaload, 1) := by decide +kernel
theorem dX4_status_14 : decode cX4_status 14 = .ok (.goto 9, 3) := by decide +kernel
theorem dX4_status_17 : decode cX4_status 17 = .ok (.aload_n 0, 1) := by decide +kernel
theorem dX4_status_18 : decode cX4_status 18 = .ok (.bipush (-7), 2) := by decide +kernel
theorem dX4_status_20 : decode cX4_status 20 = .ok (.invokevirtual 48, 3) := by decide +kernel
theorem dX4_status_23 : decode cX4_status 23 = .ok (.ireturn, 1) := by decide +kernel
theorem dX4_refuse_0 : decode cX4_refuse 0 = .ok (.iload_n 1, 1) := by decide +kernel
theorem dX4_refuse_1 : decode cX4_refuse 1 = .ok (.invokestatic 168, 3) := by decide +kernel
theorem dX4_refuse_4 : decode cX4_refuse 4 = .ok (.ifCond .eq 14, 3) := by decide +kernel
theorem dX4_refuse_7 : decode cX4_refuse 7 = .ok (.aload_n 0, 1) := by decide +kernel
theorem dX4_refuse_8 : decode cX4_refuse 8 = .ok (.getfield 40, 3) := by decide +kernel
theorem dX4_refuse_11 : decode cX4_refuse 11 = .ok (.iload_n 1, 1) := by decide +kernel
theorem dX4_refuse_12 : decode cX4_refuse 12 = .ok (.ineg, 1) := by decide +kernel
theorem dX4_refuse_13 : decode cX4_refuse 13 = .ok (.dup2, 1) := by decide +kernel
theorem dX4_refuse_14 : decode cX4_refuse 14 = .ok (.iaload, 1) := by decide +kernel
theorem dX4_refuse_15 : decode cX4_refuse 15 = .ok (.iconst 1, 1) := by decide +kernel
theorem dX4_refuse_16 : decode cX4_refuse 16 = .ok (.iadd, 1) := by decide +kernel
theorem dX4_refuse_17 : decode cX4_refuse 17 = .ok (.iastore, 1) := by decide +kernel
theorem dX4_refuse_18 : decode cX4_refuse 18 = .ok (.iload_n 1, 1) := by decide +kernel
theorem dX4_refuse_19 : decode cX4_refuse 19 = .ok (.ireturn, 1) := by decide +kernel
theorem dX4_isRefusal_0 : decode cX4_isRefusal 0 = .ok (.iload_n 0, 1) := by decide +kernel
theorem dX4_isRefusal_1 : decode cX4_isRefusal 1 = .ok (.bipush (-2), 2) := by decide +kernel
theorem dX4_isRefusal_3 : decode cX4_isRefusal 3 = .ok (.if_icmp .gt 13, 3) := by decide +kernel
theorem dX4_isRefusal_6 : decode cX4_isRefusal 6 = .ok (.iload_n 0, 1) := by decide +kernel
theorem dX4_isRefusal_7 : decode cX4_isRefusal 7 = .ok (.bipush (-8), 2) := by decide +kernel
theorem dX4_isRefusal_9 : decode cX4_isRefusal 9 = .ok (.if_icmp .lt 7, 3) := by decide +kernel
theorem dX4_isRefusal_12 : decode cX4_isRefusal 12 = .ok (.iconst 1, 1) := by decide +kernel
theorem dX4_isRefusal_13 : decode cX4_isRefusal 13 = .ok (.goto 4, 3) := by decide +kernel
theorem dX4_isRefusal_16 : decode cX4_isRefusal 16 = .ok (.iconst 0, 1) := by decide +kernel
theorem dX4_isRefusal_17 : decode cX4_isRefusal 17 = .ok (.ireturn, 1) := by decide +kernel
theorem dX4_isForm_0 : decode cX4_isForm 0 = .ok (.iload_n 1, 1) := by decide +kernel
theorem dX4_isForm_1 : decode cX4_isForm 1 = .ok (.ifCond .lt 15, 3) := by decide +kernel
theorem dX4_isForm_4 : decode cX4_isForm 4 = .ok (.iload_n 1, 1) := by decide +kernel
theorem dX4_isForm_5 : decode cX4_isForm 5 = .ok (.aload_n 0, 1) := by decide +kernel
theorem dX4_isForm_6 : decode cX4_isForm 6 = .ok (.getfield 67, 3) := by decide +kernel
theorem dX4_isForm_9 : decode cX4_isForm 9 = .ok (.if_icmp .ge 7, 3) := by decide +kernel
theorem dX4_isForm_12 : decode cX4_isForm 12 = .ok (.iconst 1, 1) := by decide +kernel
theorem dX4_isForm_13 : decode cX4_isForm 13 = .ok (.goto 4, 3) := by decide +kernel
theorem dX4_isForm_16 : decode cX4_isForm 16 = .ok (.iconst 0, 1) := by decide +kernel
theorem dX4_isForm_17 : decode cX4_isForm 17 = .ok (.ireturn, 1) := by decide +kernel
theorem dX4_isWeight_0 : decode cX4_isWeight 0 = .ok (.iload_n 0, 1) := by decide +kernel
theorem dX4_isWeight_1 : decode cX4_isWeight 1 = .ok (.ifCond .lt 19, 3) := by decide +kernel
theorem dX4_isWeight_4 : decode cX4_isWeight 4 = .ok (.iload_n 0, 1) := by decide +kernel
theorem dX4_isWeight_5 : decode cX4_isWeight 5 = .ok (.bipush 40, 2) := by decide +kernel
theorem dX4_isWeight_7 : decode cX4_isWeight 7 = .ok (.if_icmp .gt 13, 3) := by decide +kernel
theorem dX4_isWeight_10 : decode cX4_isWeight 10 = .ok (.iload_n 0, 1) := by decide +kernel
theorem dX4_isWeight_11 : decode cX4_isWeight 11 = .ok (.iconst 2, 1) := by decide +kernel
theorem dX4_isWeight_12 : decode cX4_isWeight 12 = .ok (.irem, 1) := by decide +kernel
theorem dX4_isWeight_13 : decode cX4_isWeight 13 = .ok (.ifCond .ne 7, 3) := by decide +kernel
theorem dX4_isWeight_16 : decode cX4_isWeight 16 = .ok (.iconst 1, 1) := by decide +kernel
theorem dX4_isWeight_17 : decode cX4_isWeight 17 = .ok (.goto 4, 3) := by decide +kernel
theorem dX4_isWeight_20 : decode cX4_isWeight 20 = .ok (.iconst 0, 1) := by decide +kernel
theorem dX4_isWeight_21 : decode cX4_isWeight 21 = .ok (.ireturn, 1) := by decide +kernel
theorem dX4_isPrime_0 : decode cX4_isPrime 0 = .ok (.iload_n 0, 1) := by decide +kernel
theorem dX4_isPrime_1 : decode cX4_isPrime 1 = .ok (.iconst 2, 1) := by decide +kernel
theorem dX4_isPrime_2 : decode cX4_isPrime 2 = .ok (.if_icmp .eq 25, 3) := by decide +kernel
theorem dX4_isPrime_5 : decode cX4_isPrime 5 = .ok (.iload_n 0, 1) := by decide +kernel
theorem dX4_isPrime_6 : decode cX4_isPrime 6 = .ok (.iconst 3, 1) := by decide +kernel
theorem dX4_isPrime_7 : decode cX4_isPrime 7 = .ok (.if_icmp .eq 20, 3) := by decide +kernel
theorem dX4_isPrime_10 : decode cX4_isPrime 10 = .ok (.iload_n 0, 1) := by decide +kernel
theorem dX4_isPrime_11 : decode cX4_isPrime 11 = .ok (.iconst 5, 1) := by decide +kernel
theorem dX4_isPrime_12 : decode cX4_isPrime 12 = .ok (.if_icmp .eq 15, 3) := by decide +kernel
theorem dX4_isPrime_15 : decode cX4_isPrime 15 = .ok (.iload_n 0, 1) := by decide +kernel
theorem dX4_isPrime_16 : decode cX4_isPrime 16 = .ok (.bipush 7, 2) := by decide +kernel
theorem dX4_isPrime_18 : decode cX4_isPrime 18 = .ok (.if_icmp .eq 9, 3) := by decide +kernel
theorem dX4_isPrime_21 : decode cX4_isPrime 21 = .ok (.iload_n 0, 1) := by decide +kernel
theorem dX4_isPrime_22 : decode cX4_isPrime 22 = .ok (.bipush 11, 2) := by decide +kernel
theorem dX4_isPrime_24 : decode cX4_isPrime 24 = .ok (.if_icmp .ne 7, 3) := by decide +kernel
theorem dX4_isPrime_27 : decode cX4_isPrime 27 = .ok (.iconst 1, 1) := by decide +kernel
theorem dX4_isPrime_28 : decode cX4_isPrime 28 = .ok (.goto 4, 3) := by decide +kernel
theorem dX4_isPrime_31 : decode cX4_isPrime 31 = .ok (.iconst 0, 1) := by decide +kernel
theorem dX4_isPrime_32 : decode cX4_isPrime 32 = .ok (.ireturn, 1) := by decide +kernel
theorem dX4_hasRoom_0 : decode cX4_hasRoom 0 = .ok (.aload_n 0, 1) := by decide +kernel
theorem dX4_hasRoom_1 : decode cX4_hasRoom 1 = .ok (.getfield 67, 3) := by decide +kernel
theorem dX4_hasRoom_4 : decode cX4_hasRoom 4 = .ok (.bipush 16, 2) := by decide +kernel
theorem dX4_hasRoom_6 : decode cX4_hasRoom 6 = .ok (.if_icmp .ge 13, 3) := by decide +kernel
theorem dX4_hasRoom_9 : decode cX4_hasRoom 9 = .ok (.iload_n 1, 1) := by decide +kernel
theorem dX4_hasRoom_10 : decode cX4_hasRoom 10 = .ok (.bipush 40, 2) := by decide +kernel
theorem dX4_hasRoom_12 : decode cX4_hasRoom 12 = .ok (.if_icmp .gt 7, 3) := by decide +kernel
theorem dX4_hasRoom_15 : decode cX4_hasRoom 15 = .ok (.iconst 1, 1) := by decide +kernel
theorem dX4_hasRoom_16 : decode cX4_hasRoom 16 = .ok (.goto 4, 3) := by decide +kernel
theorem dX4_hasRoom_19 : decode cX4_hasRoom 19 = .ok (.iconst 0, 1) := by decide +kernel
theorem dX4_hasRoom_20 : decode cX4_hasRoom 20 = .ok (.ireturn, 1) := by decide +kernel
theorem dX4_sumsIndex_0 : decode cX4_sumsIndex 0 = .ok (.iconst 0, 1) := by decide +kernel
theorem dX4_sumsIndex_1 : decode cX4_sumsIndex 1 = .ok (.istore_n 1, 1) := by decide +kernel
theorem dX4_sumsIndex_2 : decode cX4_sumsIndex 2 = .ok (.iload_n 1, 1) := by decide +kernel
theorem dX4_sumsIndex_3 : decode cX4_sumsIndex 3 = .ok (.getstatic 171, 3) := by decide +kernel
theorem dX4_sumsIndex_6 : decode cX4_sumsIndex 6 = .ok (.arraylength, 1) := by decide +kernel
theorem dX4_sumsIndex_7 : decode cX4_sumsIndex 7 = .ok (.if_icmp .ge 20, 3) := by decide +kernel
theorem dX4_sumsIndex_10 : decode cX4_sumsIndex 10 = .ok (.getstatic 171, 3) := by decide +kernel
theorem dX4_sumsIndex_13 : decode cX4_sumsIndex 13 = .ok (.iload_n 1, 1) := by decide +kernel
theorem dX4_sumsIndex_14 : decode cX4_sumsIndex 14 = .ok (.iaload, 1) := by decide +kernel
theorem dX4_sumsIndex_15 : decode cX4_sumsIndex 15 = .ok (.iload_n 0, 1) := by decide +kernel
theorem dX4_sumsIndex_16 : decode cX4_sumsIndex 16 = .ok (.if_icmp .ne 5, 3) := by decide +kernel
theorem dX4_sumsIndex_19 : decode cX4_sumsIndex 19 = .ok (.iload_n 1, 1) := by decide +kernel
theorem dX4_sumsIndex_20 : decode cX4_sumsIndex 20 = .ok (.ireturn, 1) := by decide +kernel
theorem dX4_sumsIndex_21 : decode cX4_sumsIndex 21 = .ok (.iinc 1 1, 3) := by decide +kernel
theorem dX4_sumsIndex_24 : decode cX4_sumsIndex 24 = .ok (.goto (-22), 3) := by decide +kernel
theorem dX4_sumsIndex_27 : decode cX4_sumsIndex 27 = .ok (.iconst (-1), 1) := by decide +kernel
theorem dX4_sumsIndex_28 : decode cX4_sumsIndex 28 = .ok (.ireturn, 1) := by decide +kernel
theorem dX4_comeAsTold_0 : decode cX4_comeAsTold 0 = .ok (.aload_n 0, 1) := by decide +kernel
theorem dX4_comeAsTold_1 : decode cX4_comeAsTold 1 = .ok (.getfield 11, 3) := by decide +kernel
theorem dX4_comeAsTold_4 : decode cX4_comeAsTold 4 = .ok (.aload_n 0, 1) := by decide +kernel
theorem dX4_comeAsTold_5 : decode cX4_comeAsTold 5 = .ok (.getfield 67, 3) := by decide +kernel
theorem dX4_comeAsTold_8 : decode cX4_comeAsTold 8 = .ok (.aaload, 1) := by decide +kernel
theorem dX4_comeAsTold_9 : decode cX4_comeAsTold 9 = .ok (.astore 4, 2) := by decide +kernel
theorem dX4_comeAsTold_11 : decode cX4_comeAsTold 11 = .ok (.aload 4, 2) := by decide +kernel
theorem dX4_comeAsTold_13 : decode cX4_comeAsTold 13 = .ok (.iload_n 1, 1) := by decide +kernel
theorem dX4_comeAsTold_14 : decode cX4_comeAsTold 14 = .ok (.putfield 146, 3) := by decide +kernel
theorem dX4_comeAsTold_17 : decode cX4_comeAsTold 17 = .ok (.aload 4, 2) := by decide +kernel
theorem dX4_comeAsTold_19 : decode cX4_comeAsTold 19 = .ok (.iload_n 2, 1) := by decide +kernel
theorem dX4_comeAsTold_20 : decode cX4_comeAsTold 20 = .ok (.putfield 93, 3) := by decide +kernel
theorem dX4_comeAsTold_23 : decode cX4_comeAsTold 23 = .ok (.aload 4, 2) := by decide +kernel
theorem dX4_comeAsTold_25 : decode cX4_comeAsTold 25 = .ok (.iload_n 3, 1) := by decide +kernel
theorem dX4_comeAsTold_26 : decode cX4_comeAsTold 26 = .ok (.putfield 153, 3) := by decide +kernel
theorem dX4_comeAsTold_29 : decode cX4_comeAsTold 29 = .ok (.aload_n 0, 1) := by decide +kernel
theorem dX4_comeAsTold_30 : decode cX4_comeAsTold 30 = .ok (.dup, 1) := by decide +kernel
theorem dX4_comeAsTold_31 : decode cX4_comeAsTold 31 = .ok (.getfield 67, 3) := by decide +kernel
theorem dX4_comeAsTold_34 : decode cX4_comeAsTold 34 = .ok (.iconst 1, 1) := by decide +kernel
theorem dX4_comeAsTold_35 : decode cX4_comeAsTold 35 = .ok (.iadd, 1) := by decide +kernel
theorem dX4_comeAsTold_36 : decode cX4_comeAsTold 36 = .ok (.putfield 67, 3) := by decide +kernel
theorem dX4_comeAsTold_39 : decode cX4_comeAsTold 39 = .ok (.aload_n 0, 1) := by decide +kernel
theorem dX4_comeAsTold_40 : decode cX4_comeAsTold 40 = .ok (.getfield 67, 3) := by decide +kernel
theorem dX4_comeAsTold_43 : decode cX4_comeAsTold 43 = .ok (.iconst 1, 1) := by decide +kernel
theorem dX4_comeAsTold_44 : decode cX4_comeAsTold 44 = .ok (.isub, 1) := by decide +kernel
theorem dX4_comeAsTold_45 : decode cX4_comeAsTold 45 = .ok (.ireturn, 1) := by decide +kernel
theorem dX4_comeOfOthers_0 : decode cX4_comeOfOthers 0 = .ok (.iload_n 1, 1) := by decide +kernel
theorem dX4_comeOfOthers_1 : decode cX4_comeOfOthers 1 = .ok (.ifCond .ne 7, 3) := by decide +kernel
theorem dX4_comeOfOthers_4 : decode cX4_comeOfOthers 4 = .ok (.iconst 3, 1) := by decide +kernel
theorem dX4_comeOfOthers_5 : decode cX4_comeOfOthers 5 = .ok (.goto 27, 3) := by decide +kernel
theorem dX4_comeOfOthers_8 : decode cX4_comeOfOthers 8 = .ok (.aload_n 0, 1) := by decide +kernel
theorem dX4_comeOfOthers_9 : decode cX4_comeOfOthers 9 = .ok (.getfield 11, 3) := by decide +kernel
theorem dX4_comeOfOthers_12 : decode cX4_comeOfOthers 12 = .ok (.aload_n 0, 1) := by decide +kernel
theorem dX4_comeOfOthers_13 : decode cX4_comeOfOthers 13 = .ok (.getfield 67, 3) := by decide +kernel
theorem dX4_comeOfOthers_16 : decode cX4_comeOfOthers 16 = .ok (.aaload, 1) := by decide +kernel
theorem dX4_comeOfOthers_17 : decode cX4_comeOfOthers 17 = .ok (.getfield 70, 3) := by decide +kernel
theorem dX4_comeOfOthers_20 : decode cX4_comeOfOthers 20 = .ok (.iconst 0, 1) := by decide +kernel
theorem dX4_comeOfOthers_21 : decode cX4_comeOfOthers 21 = .ok (.laload, 1) := by decide +kernel
theorem dX4_comeOfOthers_22 : decode cX4_comeOfOthers 22 = .ok (.lconst 0, 1) := by decide +kernel
theorem dX4_comeOfOthers_23 : decode cX4_comeOfOthers 23 = .ok (.lcmp, 1) := by decide +kernel
theorem dX4_comeOfOthers_24 : decode cX4_comeOfOthers 24 = .ok (.ifCond .ne 7, 3) := by decide +kernel
theorem dX4_comeOfOthers_27 : decode cX4_comeOfOthers 27 = .ok (.iconst 4, 1) := by decide +kernel
theorem dX4_comeOfOthers_28 : decode cX4_comeOfOthers 28 = .ok (.goto 4, 3) := by decide +kernel
theorem dX4_comeOfOthers_31 : decode cX4_comeOfOthers 31 = .ok (.iconst 0, 1) := by decide +kernel
theorem dX4_comeOfOthers_32 : decode cX4_comeOfOthers 32 = .ok (.istore_n 2, 1) := by decide +kernel
theorem dX4_comeOfOthers_33 : decode cX4_comeOfOthers 33 = .ok (.aload_n 0, 1) := by decide +kernel
theorem dX4_comeOfOthers_34 : decode cX4_comeOfOthers 34 = .ok (.iload_n 2, 1) := by decide +kernel
theorem dX4_comeOfOthers_35 : decode cX4_comeOfOthers 35 = .ok (.iload_n 1, 1) := by decide +kernel
theorem dX4_comeOfOthers_36 : decode cX4_comeOfOthers 36 = .ok (.iconst 0, 1) := by decide +kernel
theorem dX4_comeOfOthers_37 : decode cX4_comeOfOthers 37 = .ok (.invokevirtual 79, 3) := by decide +kernel
theorem dX4_comeOfOthers_40 : decode cX4_comeOfOthers 40 = .ok (.ireturn, 1) := by decide +kernel
theorem dX4_takeOneSquareMore_0 : decode cX4_takeOneSquareMore 0 = .ok (.iload_n 1, 1) := by decide +kernel
theorem dX4_takeOneSquareMore_1 : decode cX4_takeOneSquareMore 1 = .ok (.istore_n 2, 1) := by decide +kernel
theorem dX4_takeOneSquareMore_2 : decode cX4_takeOneSquareMore 2 = .ok (.iload_n 2, 1) := by decide +kernel
theorem dX4_takeOneSquareMore_3 : decode cX4_takeOneSquareMore 3 = .ok (.ifCond .le 56, 3) := by decide +kernel
theorem dX4_takeOneSquareMore_6 : decode cX4_takeOneSquareMore 6 = .ok (.iconst 0, 1) := by decide +kernel
theorem dX4_takeOneSquareMore_7 : decode cX4_takeOneSquareMore 7 = .ok (.istore_n 3, 1) := by decide +kernel
theorem dX4_takeOneSquareMore_8 : decode cX4_takeOneSquareMore 8 = .ok (.iconst 1, 1) := by decide +kernel
theorem dX4_takeOneSquareMore_9 : decode cX4_takeOneSquareMore 9 = .ok (.istore 4, 2) := by decide +kernel
theorem dX4_takeOneSquareMore_11 : decode cX4_takeOneSquareMore 11 = .ok (.iload 4, 2) := by decide +kernel
theorem dX4_takeOneSquareMore_13 : decode cX4_takeOneSquareMore 13 = .ok (.iload 4, 2) := by decide +kernel
theorem dX4_takeOneSquareMore_15 : decode cX4_takeOneSquareMore 15 = .ok (.imul, 1) := by decide +kernel
theorem dX4_takeOneSquareMore_16 : decode cX4_takeOneSquareMore 16 = .ok (.iload_n 2, 1) := by decide +kernel
theorem dX4_takeOneSquareMore_17 : decode cX4_takeOneSquareMore 17 = .ok (.if_icmp .gt 24, 3) := by decide +kernel
theorem dX4_takeOneSquareMore_20 : decode cX4_takeOneSquareMore 20 = .ok (.iload_n 3, 1) := by decide +kernel
theorem dX4_takeOneSquareMore_21 : decode cX4_takeOneSquareMore 21 = .ok (.aload_n 0, 1) := by decide +kernel
theorem dX4_takeOneSquareMore_22 : decode cX4_takeOneSquareMore 22 = .ok (.getfield 29, 3) := by decide +kernel
theorem dX4_takeOneSquareMore_25 : decode cX4_takeOneSquareMore 25 = .ok (.iload_n 2, 1) := by decide +kernel
theorem dX4_takeOneSquareMore_26 : decode cX4_takeOneSquareMore 26 = .ok (.iload 4, 2) := by decide +kernel
theorem dX4_takeOneSquareMore_28 : decode cX4_takeOneSquareMore 28 = .ok (.iload 4, 2) := by decide +kernel
theorem dX4_takeOneSquareMore_30 : decode cX4_takeOneSquareMore 30 = .ok (.imul, 1) := by decide +kernel
theorem dX4_takeOneSquareMore_31 : decode cX4_takeOneSquareMore 31 = .ok (.isub, 1) := by decide +kernel
theorem dX4_takeOneSquareMore_32 : decode cX4_takeOneSquareMore 32 = .ok (.iaload, 1) := by decide +kernel
theorem dX4_takeOneSquareMore_33 : decode cX4_takeOneSquareMore 33 = .ok (.iadd, 1) := by decide +kernel
theorem dX4_takeOneSquareMore_34 : decode cX4_takeOneSquareMore 34 = .ok (.istore_n 3, 1) := by decide +kernel
theorem dX4_takeOneSquareMore_35 : decode cX4_takeOneSquareMore 35 = .ok (.iinc 4 1, 3) := by decide +kernel
theorem dX4_takeOneSquareMore_38 : decode cX4_takeOneSquareMore 38 = .ok (.goto (-27), 3) := by decide +kernel
theorem dX4_takeOneSquareMore_41 : decode cX4_takeOneSquareMore 41 = .ok (.aload_n 0, 1) := by decide +kernel
theorem dX4_takeOneSquareMore_42 : decode cX4_takeOneSquareMore 42 = .ok (.getfield 29, 3) := by decide +kernel
theorem dX4_takeOneSquareMore_45 : decode cX4_takeOneSquareMore 45 = .ok (.iload_n 2, 1) := by decide +kernel
theorem dX4_takeOneSquareMore_46 : decode cX4_takeOneSquareMore 46 = .ok (.dup2, 1) := by decide +kernel
theorem dX4_takeOneSquareMore_47 : decode cX4_takeOneSquareMore 47 = .ok (.iaload, 1) := by decide +kernel
theorem dX4_takeOneSquareMore_48 : decode cX4_takeOneSquareMore 48 = .ok (.iconst 2, 1) := by decide +kernel
theorem dX4_takeOneSquareMore_49 : decode cX4_takeOneSquareMore 49 = .ok (.iload_n 3, 1) := by decide +kernel
theorem dX4_takeOneSquareMore_50 : decode cX4_takeOneSquareMore 50 = .ok (.imul, 1) := by decide +kernel
theorem dX4_takeOneSquareMore_51 : decode cX4_takeOneSquareMore 51 = .ok (.iadd, 1) := by decide +kernel
theorem dX4_takeOneSquareMore_52 : decode cX4_takeOneSquareMore 52 = .ok (.iastore, 1) := by decide +kernel
theorem dX4_takeOneSquareMore_53 : decode cX4_takeOneSquareMore 53 = .ok (.iinc 2 (-1), 3) := by decide +kernel
theorem dX4_takeOneSquareMore_56 : decode cX4_takeOneSquareMore 56 = .ok (.goto (-54), 3) := by decide +kernel
theorem dX4_takeOneSquareMore_59 : decode cX4_takeOneSquareMore 59 = .ok (.return_, 1) := by decide +kernel
end
section
theorem dX5_init_0 : decode cX5_init 0 = .ok (.aload_n 0, 1) := by decide +kernel
theorem dX5_init_1 : decode cX5_init 1 = .ok (.invokespecial 1, 3) := by decide +kernel
theorem dX5_init_4 : decode cX5_init 4 = .ok (.aload_n 0, 1) := by decide +kernel
theorem dX5_init_5 : decode cX5_init 5 = .ok (.sipush 768, 3) := by decide +kernel
theorem dX5_init_8 : decode cX5_init 8 = .ok (.newarray .long, 2) := by decide +kernel
theorem dX5_init_10 : decode cX5_init 10 = .ok (.putfield 7, 3) := by decide +kernel
theorem dX5_init_13 : decode cX5_init 13 = .ok (.aload_n 0, 1) := by decide +kernel
theorem dX5_init_14 : decode cX5_init 14 = .ok (.bipush 16, 2) := by decide +kernel
theorem dX5_init_16 : decode cX5_init 16 = .ok (.newarray .int, 2) := by decide +kernel
theorem dX5_init_18 : decode cX5_init 18 = .ok (.putfield 13, 3) := by decide +kernel
theorem dX5_init_21 : decode cX5_init 21 = .ok (.aload_n 0, 1) := by decide +kernel
theorem dX5_init_22 : decode cX5_init 22 = .ok (.bipush 16, 2) := by decide +kernel
theorem dX5_init_24 : decode cX5_init 24 = .ok (.newarray .int, 2) := by decide +kernel
theorem dX5_init_26 : decode cX5_init 26 = .ok (.putfield 17, 3) := by decide +kernel
theorem dX5_init_29 : decode cX5_init 29 = .ok (.aload_n 0, 1) := by decide +kernel
theorem dX5_init_30 : decode cX5_init 30 = .ok (.bipush 16, 2) := by decide +kernel
theorem dX5_init_32 : decode cX5_init 32 = .ok (.newarray .int, 2) := by decide +kernel
theorem dX5_init_34 : decode cX5_init 34 = .ok (.putfield 20, 3) := by decide +kernel
theorem dX5_init_37 : decode cX5_init 37 = .ok (.aload_n 0, 1) := by decide +kernel
theorem dX5_init_38 : decode cX5_init 38 = .ok (.bipush 9, 2) := by decide +kernel
theorem dX5_init_40 : decode cX5_init 40 = .ok (.newarray .int, 2) := by decide +kernel
theorem dX5_init_42 : decode cX5_init 42 = .ok (.putfield 23, 3) := by decide +kernel
theorem dX5_init_45 : decode cX5_init 45 = .ok (.aload_n 0, 1) := by decide +kernel
theorem dX5_init_46 : decode cX5_init 46 = .ok (.bipush 48, 2) := by decide +kernel
theorem dX5_init_48 : decode cX5_init 48 = .ok (.newarray .long, 2) := by decide +kernel
theorem dX5_init_50 : decode cX5_init 50 = .ok (.putfield 26, 3) := by decide +kernel
theorem dX5_init_53 : decode cX5_init 53 = .ok (.aload_n 0, 1) := by decide +kernel
theorem dX5_init_54 : decode cX5_init 54 = .ok (.bipush 48, 2) := by decide +kernel
theorem dX5_init_56 : decode cX5_init 56 = .ok (.newarray .long, 2) := by decide +kernel
theorem dX5_init_58 : decode cX5_init 58 = .ok (.putfield 29, 3) := by decide +kernel
theorem dX5_init_61 : decode cX5_init 61 = .ok (.aload_n 0, 1) := by decide +kernel
theorem dX5_init_62 : decode cX5_init 62 = .ok (.bipush 48, 2) := by decide +kernel
theorem dX5_init_64 : decode cX5_init 64 = .ok (.newarray .long, 2) := by decide +kernel
theorem dX5_init_66 : decode cX5_init 66 = .ok (.putfield 32, 3) := by decide +kernel
theorem dX5_init_69 : decode cX5_init 69 = .ok (.aload_n 0, 1) := by decide +kernel
theorem dX5_init_70 : decode cX5_init 70 = .ok (.bipush 48, 2) := by decide +kernel
theorem dX5_init_72 : decode cX5_init 72 = .ok (.newarray .long, 2) := by decide +kernel
theorem dX5_init_74 : decode cX5_init 74 = .ok (.putfield 35, 3) := by decide +kernel
theorem dX5_init_77 : decode cX5_init 77 = .ok (.aload_n 0, 1) := by decide +kernel
theorem dX5_init_78 : decode cX5_init 78 = .ok (.bipush 48, 2) := by decide +kernel
theorem dX5_init_80 : decode cX5_init 80 = .ok (.newarray .long, 2) := by decide +kernel
theorem dX5_init_82 : decode cX5_init 82 = .ok (.putfield 38, 3) := by decide +kernel
theorem dX5_init_85 : decode cX5_init 85 = .ok (.aload_n 0, 1) := by decide +kernel
theorem dX5_init_86 : decode cX5_init 86 = .ok (.bipush 48, 2) := by decide +kernel
theorem dX5_init_88 : decode cX5_init 88 = .ok (.newarray .long, 2) := by decide +kernel
theorem dX5_init_90 : decode cX5_init 90 = .ok (.putfield 41, 3) := by decide +kernel
theorem dX5_init_93 : decode cX5_init 93 = .ok (.aload_n 0, 1) := by decide +kernel
theorem dX5_init_94 : decode cX5_init 94 = .ok (.bipush 48, 2) := by decide +kernel
theorem dX5_init_96 : decode cX5_init 96 = .ok (.newarray .long, 2) := by decide +kernel
theorem dX5_init_98 : decode cX5_init 98 = .ok (.putfield 44, 3) := by decide +kernel
theorem dX5_init_101 : decode cX5_init 101 = .ok (.aload_n 0, 1) := by decide +kernel
theorem dX5_init_102 : decode cX5_init 102 = .ok (.iconst 4, 1) := by decide +kernel
theorem dX5_init_103 : decode cX5_init 103 = .ok (.newarray .long, 2) := by decide +kernel
theorem dX5_init_105 : decode cX5_init 105 = .ok (.putfield 47, 3) := by decide +kernel
theorem dX5_init_108 : decode cX5_init 108 = .ok (.aload_n 0, 1) := by decide +kernel
theorem dX5_init_109 : decode cX5_init 109 = .ok (.bipush 48, 2) := by decide +kernel
theorem dX5_init_111 : decode cX5_init 111 = .ok (.newarray .long, 2) := by decide +kernel
theorem dX5_init_113 : decode cX5_init 113 = .ok (.putfield 50, 3) := by decide +kernel
theorem dX5_init_116 : decode cX5_init 116 = .ok (.aload_n 0, 1) := by decide +kernel
theorem dX5_init_117 : decode cX5_init 117 = .ok (.bipush 100, 2) := by decide +kernel
theorem dX5_init_119 : decode cX5_init 119 = .ok (.newarray .long, 2) := by decide +kernel
theorem dX5_init_121 : decode cX5_init 121 = .ok (.putfield 53, 3) := by decide +kernel
theorem dX5_init_124 : decode cX5_init 124 = .ok (.aload_n 0, 1) := by decide +kernel
theorem dX5_init_125 : decode cX5_init 125 = .ok (.bipush 100, 2) := by decide +kernel
theorem dX5_init_127 : decode cX5_init 127 = .ok (.newarray .long, 2) := by decide +kernel
theorem dX5_init_129 : decode cX5_init 129 = .ok (.putfield 56, 3) := by decide +kernel
theorem dX5_init_132 : decode cX5_init 132 = .ok (.aload_n 0, 1) := by decide +kernel
theorem dX5_init_133 : decode cX5_init 133 = .ok (.bipush 48, 2) := by decide +kernel
theorem dX5_init_135 : decode cX5_init 135 = .ok (.newarray .int, 2) := by decide +kernel
theorem dX5_init_137 : decode cX5_init 137 = .ok (.putfield 59, 3) := by decide +kernel
theorem dX5_init_140 : decode cX5_init 140 = .ok (.aload_n 0, 1) := by decide +kernel
theorem dX5_init_141 : decode cX5_init 141 = .ok (.bipush 48, 2) := by decide +kernel
theorem dX5_init_143 : decode cX5_init 143 = .ok (.newarray .int, 2) := by decide +kernel
theorem dX5_init_145 : decode cX5_init 145 = .ok (.putfield 62, 3) := by decide +kernel
theorem dX5_init_148 : decode cX5_init 148 = .ok (.aload_n 0, 1) := by decide +kernel
theorem dX5_init_149 : decode cX5_init 149 = .ok (.iconst (-1), 1) := by decide +kernel
theorem dX5_init_150 : decode cX5_init 150 = .ok (.putfield 65, 3) := by decide +kernel
theorem dX5_init_153 : decode cX5_init 153 = .ok (.aload_n 0, 1) := by decide +kernel
theorem dX5_init_154 : decode cX5_init 154 = .ok (.getfield 26, 3) := by decide +kernel
theorem dX5_init_157 : decode cX5_init 157 = .ok (.iconst 2, 1) := by decide +kernel
theorem dX5_init_158 : decode cX5_init 158 = .ok (.ldc2_w 69, 3) := by decide +kernel
theorem dX5_init_161 : decode cX5_init 161 = .ok (.invokestatic 71, 3) := by decide +kernel
theorem dX5_init_164 : decode cX5_init 164 = .ok (.aload_n 0, 1) := by decide +kernel
theorem dX5_init_165 : decode cX5_init 165 = .ok (.getfield 29, 3) := by decide +kernel
theorem dX5_init_168 : decode cX5_init 168 = .ok (.iconst 4, 1) := by decide +kernel
theorem dX5_init_169 : decode cX5_init 169 = .ok (.ldc2_w 75, 3) := by decide +kernel
theorem dX5_init_172 : decode cX5_init 172 = .ok (.invokestatic 71, 3) := by decide +kernel
theorem dX5_init_175 : decode cX5_init 175 = .ok (.aload_n 0, 1) := by decide +kernel
theorem dX5_init_176 : decode cX5_init 176 = .ok (.getfield 32, 3) := by decide +kernel
theorem dX5_init_179 : decode cX5_init 179 = .ok (.bipush 6, 2) := by decide +kernel
theorem dX5_init_181 : decode cX5_init 181 = .ok (.ldc2_w 77, 3) := by decide +kernel
theorem dX5_init_184 : decode cX5_init 184 = .ok (.invokestatic 71, 3) := by decide +kernel
theorem dX5_init_187 : decode cX5_init 187 = .ok (.iconst 0, 1) := by decide +kernel
theorem dX5_init_188 : decode cX5_init 188 = .ok (.istore_n 1, 1) := by decide +kernel
theorem dX5_init_189 : decode cX5_init 189 = .ok (.iload_n 1, 1) := by decide +kernel
theorem dX5_init_190 : decode cX5_init 190 = .ok (.bipush 48, 2) := by decide +kernel
theorem dX5_init_192 : decode cX5_init 192 = .ok (.if_icmp .ge 25, 3) := by decide +kernel
theorem dX5_init_195 : decode cX5_init 195 = .ok (.aload_n 0, 1) := by decide +kernel
theorem dX5_init_196 : decode cX5_init 196 = .ok (.getfield 35, 3) := by decide +kernel
theorem dX5_init_199 : decode cX5_init 199 = .ok (.iload_n 1, 1) := by decide +kernel
theorem dX5_init_200 : decode cX5_init 200 = .ok (.iload_n 1, 1) := by decide +kernel
theorem dX5_init_201 : decode cX5_init 201 = .ok (.iconst 1, 1) := by decide +kernel
theorem dX5_init_202 : decode cX5_init 202 = .ok (.if_icmp .ne 7, 3) := by decide +kernel
theorem dX5_init_205 : decode cX5_init 205 = .ok (.lconst 1, 1) := by decide +kernel
theorem dX5_init_206 : decode cX5_init 206 = .ok (.goto 4, 3) := by decide +kernel
theorem dX5_init_209 : decode cX5_init 209 = .ok (.lconst 0, 1) := by decide +kernel
theorem dX5_init_210 : decode cX5_init 210 = .ok (.lastore, 1) := by decide +kernel
theorem dX5_init_211 : decode cX5_init 211 = .ok (.iinc 1 1, 3) := by decide +kernel
theorem dX5_init_214 : decode cX5_init 214 = .ok (.goto (-25), 3) := by decide +kernel
theorem dX5_init_217 : decode cX5_init 217 = .ok (.iconst 1, 1) := by decide +kernel
theorem dX5_init_218 : decode cX5_init 218 = .ok (.istore_n 1, 1) := by decide +kernel
theorem dX5_init_219 : decode cX5_init 219 = .ok (.iload_n 1, 1) := by decide +kernel
theorem dX5_init_220 : decode cX5_init 220 = .ok (.bipush 48, 2) := by decide +kernel
theorem dX5_init_222 : decode cX5_init 222 = .ok (.if_icmp .ge 66, 3) := by decide +kernel
theorem dX5_init_225 : decode cX5_init 225 = .ok (.iconst 0, 1) := by decide +kernel
theorem dX5_init_226 : decode cX5_init 226 = .ok (.istore_n 2, 1) := by decide +kernel
theorem dX5_init_227 : decode cX5_init 227 = .ok (.iload_n 2, 1) := by decide +kernel
theorem dX5_init_228 : decode cX5_init 228 = .ok (.bipush 24, 2) := by decide +kernel
theorem dX5_init_230 : decode cX5_init 230 = .ok (.if_icmp .ge 52, 3) := by decide +kernel
theorem dX5_init_233 : decode cX5_init 233 = .ok (.bipush 47, 2) := by decide +kernel
theorem dX5_init_235 : decode cX5_init 235 = .ok (.istore_n 3, 1) := by decide +kernel
theorem dX5_init_236 : decode cX5_init 236 = .ok (.iload_n 3, 1) := by decide +kernel
theorem dX5_init_237 : decode cX5_init 237 = .ok (.iload_n 1, 1) := by decide +kernel
theorem dX5_init_238 : decode cX5_init 238 = .ok (.if_icmp .lt 38, 3) := by decide +kernel
theorem dX5_init_241 : decode cX5_init 241 = .ok (.aload_n 0, 1) := by decide +kernel
theorem dX5_init_242 : decode cX5_init 242 = .ok (.getfield 35, 3) := by decide +kernel
theorem dX5_init_245 : decode cX5_init 245 = .ok (.iload_n 3, 1) := by decide +kernel
theorem dX5_init_246 : decode cX5_init 246 = .ok (.aload_n 0, 1) := by decide +kernel
theorem dX5_init_247 : decode cX5_init 247 = .ok (.getfield 35, 3) := by decide +kernel
theorem dX5_init_250 : decode cX5_init 250 = .ok (.iload_n 3, 1) := by decide +kernel
theorem dX5_init_251 : decode cX5_init 251 = .ok (.laload, 1) := by decide +kernel
theorem dX5_init_252 : decode cX5_init 252 = .ok (.ldc2_w 79, 3) := by decide +kernel
theorem dX5_init_255 : decode cX5_init 255 = .ok (.ladd, 1) := by decide +kernel
theorem dX5_init_256 : decode cX5_init 256 = .ok (.aload_n 0, 1) := by decide +kernel
theorem dX5_init_257 : decode cX5_init 257 = .ok (.getfield 35, 3) := by decide +kernel
theorem dX5_init_260 : decode cX5_init 260 = .ok (.iload_n 3, 1) := by decide +kernel
theorem dX5_init_261 : decode cX5_init 261 = .ok (.iload_n 1, 1) := by decide +kernel
theorem dX5_init_262 : decode cX5_init 262 = .ok (.isub, 1) := by decide +kernel
theorem dX5_init_263 : decode cX5_init 263 = .ok (.laload, 1) := by decide +kernel
theorem dX5_init_264 : decode cX5_init 264 = .ok (.lsub, 1) := by decide +kernel
theorem dX5_init_265 : decode cX5_init 265 = .ok (.ldc2_w 79, 3) := by decide +kernel
theorem dX5_init_268 : decode cX5_init 268 = .ok (.lrem, 1) := by decide +kernel
theorem dX5_init_269 : decode cX5_init 269 = .ok (.lastore, 1) := by decide +kernel
theorem dX5_init_270 : decode cX5_init 270 = .ok (.iinc 3 (-1), 3) := by decide +kernel
theorem dX5_init_273 : decode cX5_init 273 = .ok (.goto (-37), 3) := by decide +kernel
theorem dX5_init_276 : decode cX5_init 276 = .ok (.iinc 2 1, 3) := by decide +kernel
theorem dX5_init_279 : decode cX5_init 279 = .ok (.goto (-52), 3) := by decide +kernel
theorem dX5_init_282 : decode cX5_init 282 = .ok (.iinc 1 1, 3) := by decide +kernel
theorem dX5_init_285 : decode cX5_init 285 = .ok (.goto (-66), 3) := by decide +kernel
theorem dX5_init_288 : decode cX5_init 288 = .ok (.return_, 1) := by decide +kernel
theorem dX5_raised_0 : decode cX5_raised 0 = .ok (.lconst 1, 1) := by decide +kernel
theorem dX5_raised_1 : decode cX5_raised 1 = .ok (.lstore_n 3, 1) := by decide +kernel
theorem dX5_raised_2 : decode cX5_raised 2 = .ok (.iconst 0, 1) := by decide +kernel
theorem dX5_raised_3 : decode cX5_raised 3 = .ok (.istore 5, 2) := by decide +kernel
theorem dX5_raised_5 : decode cX5_raised 5 = .ok (.iload 5, 2) := by decide +kernel
theorem dX5_raised_7 : decode cX5_raised 7 = .ok (.iload_n 2, 1) := by decide +kernel
theorem dX5_raised_8 : decode cX5_raised 8 = .ok (.if_icmp .ge 17, 3) := by decide +kernel
theorem dX5_raised_11 : decode cX5_raised 11 = .ok (.lload_n 3, 1) := by decide +kernel
theorem dX5_raised_12 : decode cX5_raised 12 = .ok (.lload_n 0, 1) := by decide +kernel
theorem dX5_raised_13 : decode cX5_raised 13 = .ok (.lmul, 1) := by decide +kernel
theorem dX5_raised_14 : decode cX5_raised 14 = .ok (.ldc2_w 79, 3) := by decide +kernel
theorem dX5_raised_17 : decode cX5_raised 17 = .ok (.lrem, 1) := by decide +kernel
theorem dX5_raised_18 : decode cX5_raised 18 = .ok (.lstore_n 3, 1) := by decide +kernel
theorem dX5_raised_19 : decode cX5_raised 19 = .ok (.iinc 5 1, 3) := by decide +kernel
theorem dX5_raised_22 : decode cX5_raised 22 = .ok (.goto (-17), 3) := by decide +kernel
theorem dX5_raised_25 : decode cX5_raised 25 = .ok (.lload_n 3, 1) := by decide +kernel
theorem dX5_raised_26 : decode cX5_raised 26 = .ok (.lreturn, 1) := by decide +kernel
theorem dX5_inverse_0 : decode cX5_inverse 0 = .ok (.lconst 1, 1) := by decide +kernel
theorem dX5_inverse_1 : decode cX5_inverse 1 = .ok (.lstore_n 2, 1) := by decide +kernel
theorem dX5_inverse_2 : decode cX5_inverse 2 = .ok (.lload_n 0, 1) := by decide +kernel
theorem dX5_inverse_3 : decode cX5_inverse 3 = .ok (.ldc2_w 79, 3) := by decide +kernel
theorem dX5_inverse_6 : decode cX5_inverse 6 = .ok (.lrem, 1) := by decide +kernel
theorem dX5_inverse_7 : decode cX5_inverse 7 = .ok (.lstore 4, 2) := by decide +kernel
theorem dX5_inverse_9 : decode cX5_inverse 9 = .ok (.ldc2_w 81, 3) := by decide +kernel
theorem dX5_inverse_12 : decode cX5_inverse 12 = .ok (.lstore 6, 2) := by decide +kernel
theorem dX5_inverse_14 : decode cX5_inverse 14 = .ok (.lload 6, 2) := by decide +kernel
theorem dX5_inverse_16 : decode cX5_inverse 16 = .ok (.lconst 0, 1) := by decide +kernel
theorem dX5_inverse_17 : decode cX5_inverse 17 = .ok (.lcmp, 1) := by decide +kernel
theorem dX5_inverse_18 : decode cX5_inverse 18 = .ok (.ifCond .le 45, 3) := by decide +kernel
theorem dX5_inverse_21 : decode cX5_inverse 21 = .ok (.lload 6, 2) := by decide +kernel
theorem dX5_inverse_23 : decode cX5_inverse 23 = .ok (.ldc2_w 83, 3) := by decide +kernel
theorem dX5_inverse_26 : decode cX5_inverse 26 = .ok (.lrem, 1) := by decide +kernel
theorem dX5_inverse_27 : decode cX5_inverse 27 = .ok (.lconst 1, 1) := by decide +kernel
theorem dX5_inverse_28 : decode cX5_inverse 28 = .ok (.lcmp, 1) := by decide +kernel
theorem dX5_inverse_29 : decode cX5_inverse 29 = .ok (.ifCond .ne 12, 3) := by decide +kernel
theorem dX5_inverse_32 : decode cX5_inverse 32 = .ok (.lload_n 2, 1) := by decide +kernel
theorem dX5_inverse_33 : decode cX5_inverse 33 = .ok (.lload 4, 2) := by decide +kernel
theorem dX5_inverse_35 : decode cX5_inverse 35 = .ok (.lmul, 1) := by decide +kernel
theorem dX5_inverse_36 : decode cX5_inverse 36 = .ok (.ldc2_w 79, 3) := by decide +kernel
theorem dX5_inverse_39 : decode cX5_inverse 39 = .ok (.lrem, 1) := by decide +kernel
theorem dX5_inverse_40 : decode cX5_inverse 40 = .ok (.lstore_n 2, 1) := by decide +kernel
theorem dX5_inverse_41 : decode cX5_inverse 41 = .ok (.lload 4, 2) := by decide +kernel
theorem dX5_inverse_43 : decode cX5_inverse 43 = .ok (.lload 4, 2) := by decide +kernel
theorem dX5_inverse_45 : decode cX5_inverse 45 = .ok (.lmul, 1) := by decide +kernel
theorem dX5_inverse_46 : decode cX5_inverse 46 = .ok (.ldc2_w 79, 3) := by decide +kernel
theorem dX5_inverse_49 : decode cX5_inverse 49 = .ok (.lrem, 1) := by decide +kernel
theorem dX5_inverse_50 : decode cX5_inverse 50 = .ok (.lstore 4, 2) := by decide +kernel
theorem dX5_inverse_52 : decode cX5_inverse 52 = .ok (.lload 6, 2) := by decide +kernel
theorem dX5_inverse_54 : decode cX5_inverse 54 = .ok (.ldc2_w 83, 3) := by decide +kernel
theorem dX5_inverse_57 : decode cX5_inverse 57 = .ok (.ldiv, 1) := by decide +kernel
theorem dX5_inverse_58 : decode cX5_inverse 58 = .ok (.lstore 6, 2) := by decide +kernel
theorem dX5_inverse_60 : decode cX5_inverse 60 = .ok (.goto (-46), 3) := by decide +kernel
theorem dX5_inverse_63 : decode cX5_inverse 63 = .ok (.lload_n 2, 1) := by decide +kernel
theorem dX5_inverse_64 : decode cX5_inverse 64 = .ok (.lreturn, 1) := by decide +kernel
theorem dX5_fillSums_0 : decode cX5_fillSums 0 = .ok (.aload_n 0, 1) := by decide +kernel
theorem dX5_fillSums_1 : decode cX5_fillSums 1 = .ok (.iconst 0, 1) := by decide +kernel
theorem dX5_fillSums_2 : decode cX5_fillSums 2 = .ok (.lconst 1, 1) := by decide +kernel
theorem dX5_fillSums_3 : decode cX5_fillSums 3 = .ok (.lastore, 1) := by decide +kernel
theorem dX5_fillSums_4 : decode cX5_fillSums 4 = .ok (.iconst 1, 1) := by decide +kernel
theorem dX5_fillSums_5 : decode cX5_fillSums 5 = .ok (.istore 4, 2) := by decide +kernel
theorem dX5_fillSums_7 : decode cX5_fillSums 7 = .ok (.iload 4, 2) := by decide +kernel
theorem dX5_fillSums_9 : decode cX5_fillSums 9 = .ok (.bipush 48, 2) := by decide +kernel
theorem dX5_fillSums_11 : decode cX5_fillSums 11 = .ok (.if_icmp .ge 70, 3) := by decide +kernel
theorem dX5_fillSums_14 : decode cX5_fillSums 14 = .ok (.lconst 0, 1) := by decide +kernel
theorem dX5_fillSums_15 : decode cX5_fillSums 15 = .ok (.lstore 5, 2) := by decide +kernel
theorem dX5_fillSums_17 : decode cX5_fillSums 17 = .ok (.iconst 1, 1) := by decide +kernel
theorem dX5_fillSums_18 : decode cX5_fillSums 18 = .ok (.istore 7, 2) := by decide +kernel
theorem dX5_fillSums_20 : decode cX5_fillSums 20 = .ok (.iload 7, 2) := by decide +kernel
theorem dX5_fillSums_22 : decode cX5_fillSums 22 = .ok (.iload 4, 2) := by decide +kernel
theorem dX5_fillSums_24 : decode cX5_fillSums 24 = .ok (.if_icmp .gt 35, 3) := by decide +kernel
theorem dX5_fillSums_27 : decode cX5_fillSums 27 = .ok (.lload 5, 2) := by decide +kernel
theorem dX5_fillSums_29 : decode cX5_fillSums 29 = .ok (.iload 4, 2) := by decide +kernel
theorem dX5_fillSums_31 : decode cX5_fillSums 31 = .ok (.iload 7, 2) := by decide +kernel
theorem dX5_fillSums_33 : decode cX5_fillSums 33 = .ok (.irem, 1) := by decide +kernel
theorem dX5_fillSums_34 : decode cX5_fillSums 34 = .ok (.ifCond .ne 15, 3) := by decide +kernel
theorem dX5_fillSums_37 : decode cX5_fillSums 37 = .ok (.iload 7, 2) := by decide +kernel
theorem dX5_fillSums_39 : decode cX5_fillSums 39 = .ok (.i2l, 1) := by decide +kernel
theorem dX5_fillSums_40 : decode cX5_fillSums 40 = .ok (.iload_n 1, 1) := by decide +kernel
theorem dX5_fillSums_41 : decode cX5_fillSums 41 = .ok (.iconst 1, 1) := by decide +kernel
theorem dX5_fillSums_42 : decode cX5_fillSums 42 = .ok (.isub, 1) := by decide +kernel
theorem dX5_fillSums_43 : decode cX5_fillSums 43 = .ok (.invokestatic 85, 3) := by decide +kernel
theorem dX5_fillSums_46 : decode cX5_fillSums 46 = .ok (.goto 4, 3) := by decide +kernel
theorem dX5_fillSums_49 : decode cX5_fillSums 49 = .ok (.lconst 0, 1) := by decide +kernel
theorem dX5_fillSums_50 : decode cX5_fillSums 50 = .ok (.ladd, 1) := by decide +kernel
theorem dX5_fillSums_51 : decode cX5_fillSums 51 = .ok (.lstore 5, 2) := by decide +kernel
theorem dX5_fillSums_53 : decode cX5_fillSums 53 = .ok (.iinc 7 1, 3) := by decide +kernel
theorem dX5_fillSums_56 : decode cX5_fillSums 56 = .ok (.goto (-36), 3) := by decide +kernel
theorem dX5_fillSums_59 : decode cX5_fillSums 59 = .ok (.aload_n 0, 1) := by decide +kernel
theorem dX5_fillSums_60 : decode cX5_fillSums 60 = .ok (.iload 4, 2) := by decide +kernel
theorem dX5_fillSums_62 : decode cX5_fillSums 62 = .ok (.lload 5, 2) := by decide +kernel
theorem dX5_fillSums_64 : decode cX5_fillSums 64 = .ok (.ldc2_w 79, 3) := by decide +kernel
theorem dX5_fillSums_67 : decode cX5_fillSums 67 = .ok (.lrem, 1) := by decide +kernel
theorem dX5_fillSums_68 : decode cX5_fillSums 68 = .ok (.lload_n 2, 1) := by decide +kernel
theorem dX5_fillSums_69 : decode cX5_fillSums 69 = .ok (.lmul, 1) := by decide +kernel
theorem dX5_fillSums_70 : decode cX5_fillSums 70 = .ok (.ldc2_w 79, 3) := by decide +kernel
theorem dX5_fillSums_73 : decode cX5_fillSums 73 = .ok (.lrem, 1) := by decide +kernel
theorem dX5_fillSums_74 : decode cX5_fillSums 74 = .ok (.lastore, 1) := by decide +kernel
theorem dX5_fillSums_75 : decode cX5_fillSums 75 = .ok (.iinc 4 1, 3) := by decide +kernel
theorem dX5_fillSums_78 : decode cX5_fillSums 78 = .ok (.goto (-71), 3) := by decide +kernel
theorem dX5_fillSums_81 : decode cX5_fillSums 81 = .ok (.return_, 1) := by decide +kernel
theorem dX5_isIn_0 : decode cX5_isIn 0 = .ok (.lload_n 0, 1) := by decide +kernel
theorem dX5_isIn_1 : decode cX5_isIn 1 = .ok (.lload_n 2, 1) := by decide +kernel
theorem dX5_isIn_2 : decode cX5_isIn 2 = .ok (.lcmp, 1) := by decide +kernel
theorem dX5_isIn_3 : decode cX5_isIn 3 = .ok (.ifCond .lt 14, 3) := by decide +kernel
theorem dX5_isIn_6 : decode cX5_isIn 6 = .ok (.lload_n 0, 1) := by decide +kernel
theorem dX5_isIn_7 : decode cX5_isIn 7 = .ok (.lload 4, 2) := by decide +kernel
theorem dX5_isIn_9 : decode cX5_isIn 9 = .ok (.lcmp, 1) := by decide +kernel
theorem dX5_isIn_10 : decode cX5_isIn 10 = .ok (.ifCond .gt 7, 3) := by decide +kernel
theorem dX5_isIn_13 : decode cX5_isIn 13 = .ok (.iconst 1, 1) := by decide +kernel
theorem dX5_isIn_14 : decode cX5_isIn 14 = .ok (.goto 4, 3) := by decide +kernel
theorem dX5_isIn_17 : decode cX5_isIn 17 = .ok (.iconst 0, 1) := by decide +kernel
theorem dX5_isIn_18 : decode cX5_isIn 18 = .ok (.ireturn, 1) := by decide +kernel
theorem dX5_no_0 : decode cX5_no 0 = .ok (.aload_n 0, 1) := by decide +kernel
theorem dX5_no_1 : decode cX5_no 1 = .ok (.getfield 23, 3) := by decide +kernel
theorem dX5_no_4 : decode cX5_no 4 = .ok (.iload_n 1, 1) := by decide +kernel
theorem dX5_no_5 : decode cX5_no 5 = .ok (.ineg, 1) := by decide +kernel
theorem dX5_no_6 : decode cX5_no 6 = .ok (.dup2, 1) := by decide +kernel
theorem dX5_no_7 : decode cX5_no 7 = .ok (.iaload, 1) := by decide +kernel
theorem dX5_no_8 : decode cX5_no 8 = .ok (.iconst 1, 1) := by decide +kernel
theorem dX5_no_9 : decode cX5_no 9 = .ok (.iadd, 1) := by decide +kernel
theorem dX5_no_10 : decode cX5_no 10 = .ok (.iastore, 1) := by decide +kernel
theorem dX5_no_11 : decode cX5_no 11 = .ok (.iload_n 1, 1) := by decide +kernel
theorem dX5_no_12 : decode cX5_no 12 = .ok (.ireturn, 1) := by decide +kernel
theorem dX5_isForm_0 : decode cX5_isForm 0 = .ok (.iload_n 1, 1) := by decide +kernel
theorem dX5_isForm_1 : decode cX5_isForm 1 = .ok (.ifCond .lt 15, 3) := by decide +kernel
theorem dX5_isForm_4 : decode cX5_isForm 4 = .ok (.iload_n 1, 1) := by decide +kernel
theorem dX5_isForm_5 : decode cX5_isForm 5 = .ok (.aload_n 0, 1) := by decide +kernel
theorem dX5_isForm_6 : decode cX5_isForm 6 = .ok (.getfield 89, 3) := by decide +kernel
theorem dX5_isForm_9 : decode cX5_isForm 9 = .ok (.if_icmp .ge 7, 3) := by decide +kernel
theorem dX5_isForm_12 : decode cX5_isForm 12 = .ok (.iconst 1, 1) := by decide +kernel
theorem dX5_isForm_13 : decode cX5_isForm 13 = .ok (.goto 4, 3) := by decide +kernel
theorem dX5_isForm_16 : decode cX5_isForm 16 = .ok (.iconst 0, 1) := by decide +kernel
theorem dX5_isForm_17 : decode cX5_isForm 17 = .ok (.ireturn, 1) := by decide +kernel
theorem dX5_takes_0 : decode cX5_takes 0 = .ok (.iconst 0, 1) := by decide +kernel
theorem dX5_takes_1 : decode cX5_takes 1 = .ok (.istore_n 3, 1) := by decide +kernel
theorem dX5_takes_2 : decode cX5_takes 2 = .ok (.iload_n 3, 1) := by decide +kernel
theorem dX5_takes_3 : decode cX5_takes 3 = .ok (.bipush 48, 2) := by decide +kernel
theorem dX5_takes_5 : decode cX5_takes 5 = .ok (.if_icmp .ge 23, 3) := by decide +kernel
theorem dX5_takes_8 : decode cX5_takes 8 = .ok (.aload_n 1, 1) := by decide +kernel
theorem dX5_takes_9 : decode cX5_takes 9 = .ok (.iload_n 3, 1) := by decide +kernel
theorem dX5_takes_10 : decode cX5_takes 10 = .ok (.aload_n 0, 1) := by decide +kernel
theorem dX5_takes_11 : decode cX5_takes 11 = .ok (.getfield 7, 3) := by decide +kernel
theorem dX5_takes_14 : decode cX5_takes 14 = .ok (.bipush 48, 2) := by decide +kernel
theorem dX5_takes_16 : decode cX5_takes 16 = .ok (.iload_n 2, 1) := by decide +kernel
theorem dX5_takes_17 : decode cX5_takes 17 = .ok (.imul, 1) := by decide +kernel
theorem dX5_takes_18 : decode cX5_takes 18 = .ok (.iload_n 3, 1) := by decide +kernel
theorem dX5_takes_19 : decode cX5_takes 19 = .ok (.iadd, 1) := by decide +kernel
theorem dX5_takes_20 : decode cX5_takes 20 = .ok (.laload, 1) := by decide +kernel
theorem dX5_takes_21 : decode cX5_takes 21 = .ok (.lastore, 1) := by decide +kernel
theorem dX5_takes_22 : decode cX5_takes 22 = .ok (.iinc 3 1, 3) := by decide +kernel
theorem dX5_takes_25 : decode cX5_takes 25 = .ok (.goto (-23), 3) := by decide +kernel
theorem dX5_takes_28 : decode cX5_takes 28 = .ok (.return_, 1) := by decide +kernel
theorem dX5_multiplies_0 : decode cX5_multiplies 0 = .ok (.bipush 47, 2) := by decide +kernel
theorem dX5_multiplies_2 : decode cX5_multiplies 2 = .ok (.istore_n 3, 1) := by decide +kernel
theorem dX5_multiplies_3 : decode cX5_multiplies 3 = .ok (.iload_n 3, 1) := by decide +kernel
theorem dX5_multiplies_4 : decode cX5_multiplies 4 = .ok (.ifCond .lt 52, 3) := by decide +kernel
theorem dX5_multiplies_7 : decode cX5_multiplies 7 = .ok (.lconst 0, 1) := by decide +kernel
theorem dX5_multiplies_8 : decode cX5_multiplies 8 = .ok (.lstore 4, 2) := by decide +kernel
theorem dX5_multiplies_10 : decode cX5_multiplies 10 = .ok (.iconst 0, 1) := by decide +kernel
theorem dX5_multiplies_11 : decode cX5_multiplies 11 = .ok (.istore 6, 2) := by decide +kernel
theorem dX5_multiplies_13 : decode cX5_multiplies 13 = .ok (.iload 6, 2) := by decide +kernel
theorem dX5_multiplies_15 : decode cX5_multiplies 15 = .ok (.iload_n 3, 1) := by decide +kernel
theorem dX5_multiplies_16 : decode cX5_multiplies 16 = .ok (.if_icmp .gt 29, 3) := by decide +kernel
theorem dX5_multiplies_19 : decode cX5_multiplies 19 = .ok (.lload 4, 2) := by decide +kernel
theorem dX5_multiplies_21 : decode cX5_multiplies 21 = .ok (.aload_n 1, 1) := by decide +kernel
theorem dX5_multiplies_22 : decode cX5_multiplies 22 = .ok (.iload 6, 2) := by decide +kernel
theorem dX5_multiplies_24 : decode cX5_multiplies 24 = .ok (.laload, 1) := by decide +kernel
theorem dX5_multiplies_25 : decode cX5_multiplies 25 = .ok (.aload_n 2, 1) := by decide +kernel
theorem dX5_multiplies_26 : decode cX5_multiplies 26 = .ok (.iload_n 3, 1) := by decide +kernel
theorem dX5_multiplies_27 : decode cX5_multiplies 27 = .ok (.iload 6, 2) := by decide +kernel
theorem dX5_multiplies_29 : decode cX5_multiplies 29 = .ok (.isub, 1) := by decide +kernel
theorem dX5_multiplies_30 : decode cX5_multiplies 30 = .ok (.laload, 1) := by decide +kernel
theorem dX5_multiplies_31 : decode cX5_multiplies 31 = .ok (.lmul, 1) := by decide +kernel
theorem dX5_multiplies_32 : decode cX5_multiplies 32 = .ok (.ladd, 1) := by decide +kernel
theorem dX5_multiplies_33 : decode cX5_multiplies 33 = .ok (.ldc2_w 79, 3) := by decide +kernel
theorem dX5_multiplies_36 : decode cX5_multiplies 36 = .ok (.lrem, 1) := by decide +kernel
theorem dX5_multiplies_37 : decode cX5_multiplies 37 = .ok (.lstore 4, 2) := by decide +kernel
theorem dX5_multiplies_39 : decode cX5_multiplies 39 = .ok (.iinc 6 1, 3) := by decide +kernel
theorem dX5_multiplies_42 : decode cX5_multiplies 42 = .ok (.goto (-29), 3) := by decide +kernel
theorem dX5_multiplies_45 : decode cX5_multiplies 45 = .ok (.aload_n 1, 1) := by decide +kernel
theorem dX5_multiplies_46 : decode cX5_multiplies 46 = .ok (.iload_n 3, 1) := by decide +kernel
theorem dX5_multiplies_47 : decode cX5_multiplies 47 = .ok (.lload 4, 2) := by decide +kernel
theorem dX5_multiplies_49 : decode cX5_multiplies 49 = .ok (.lastore, 1) := by decide +kernel
theorem dX5_multiplies_50 : decode cX5_multiplies 50 = .ok (.iinc 3 (-1), 3) := by decide +kernel
theorem dX5_multiplies_53 : decode cX5_multiplies 53 = .ok (.goto (-50), 3) := by decide +kernel
theorem dX5_multiplies_56 : decode cX5_multiplies 56 = .ok (.return_, 1) := by decide +kernel
theorem dX5_isRest_0 : decode cX5_isRest 0 = .ok (.iload_n 0, 1) := by decide +kernel
theorem dX5_isRest_1 : decode cX5_isRest 1 = .ok (.ifCond .lt 12, 3) := by decide +kernel
theorem dX5_isRest_4 : decode cX5_isRest 4 = .ok (.iload_n 0, 1) := by decide +kernel
theorem dX5_isRest_5 : decode cX5_isRest 5 = .ok (.iconst 2, 1) := by decide +kernel
theorem dX5_isRest_6 : decode cX5_isRest 6 = .ok (.if_icmp .eq 7, 3) := by decide +kernel
theorem dX5_isRest_9 : decode cX5_isRest 9 = .ok (.iconst 1, 1) := by decide +kernel
theorem dX5_isRest_10 : decode cX5_isRest 10 = .ok (.goto 4, 3) := by decide +kernel
theorem dX5_isRest_13 : decode cX5_isRest 13 = .ok (.iconst 0, 1) := by decide +kernel
theorem dX5_isRest_14 : decode cX5_isRest 14 = .ok (.ireturn, 1) := by decide +kernel
theorem dX5_sizeOf_0 : decode cX5_sizeOf 0 = .ok (.iconst 0, 1) := by decide +kernel
theorem dX5_sizeOf_1 : decode cX5_sizeOf 1 = .ok (.istore_n 1, 1) := by decide +kernel
theorem dX5_sizeOf_2 : decode cX5_sizeOf 2 = .ok (.iload_n 0, 1) := by decide +kernel
theorem dX5_sizeOf_3 : decode cX5_sizeOf 3 = .ok (.bipush 12, 2) := by decide +kernel
theorem dX5_sizeOf_5 : decode cX5_sizeOf 5 = .ok (.iload_n 1, 1) := by decide +kernel
theorem dX5_sizeOf_6 : decode cX5_sizeOf 6 = .ok (.imul, 1) := by decide +kernel
theorem dX5_sizeOf_7 : decode cX5_sizeOf 7 = .ok (.isub, 1) := by decide +kernel
theorem dX5_sizeOf_8 : decode cX5_sizeOf 8 = .ok (.invokestatic 92, 3) := by decide +kernel
theorem dX5_sizeOf_11 : decode cX5_sizeOf 11 = .ok (.ifCond .eq 9, 3) := by decide +kernel
theorem dX5_sizeOf_14 : decode cX5_sizeOf 14 = .ok (.iinc 1 1, 3) := by decide +kernel
theorem dX5_sizeOf_17 : decode cX5_sizeOf 17 = .ok (.goto (-15), 3) := by decide +kernel
theorem dX5_sizeOf_20 : decode cX5_sizeOf 20 = .ok (.iload_n 1, 1) := by decide +kernel
theorem dX5_sizeOf_21 : decode cX5_sizeOf 21 = .ok (.ireturn, 1) := by decide +kernel
theorem dX5_isWeight_0 : decode cX5_isWeight 0 = .ok (.iload_n 0, 1) := by decide +kernel
theorem dX5_isWeight_1 : decode cX5_isWeight 1 = .ok (.i2l, 1) := by decide +kernel
theorem dX5_isWeight_2 : decode cX5_isWeight 2 = .ok (.lconst 0, 1) := by decide +kernel
theorem dX5_isWeight_3 : decode cX5_isWeight 3 = .ok (.ldc2_w 96, 3) := by decide +kernel
theorem dX5_isWeight_6 : decode cX5_isWeight 6 = .ok (.invokestatic 98, 3) := by decide +kernel
theorem dX5_isWeight_9 : decode cX5_isWeight 9 = .ok (.ifCond .eq 13, 3) := by decide +kernel
theorem dX5_isWeight_12 : decode cX5_isWeight 12 = .ok (.iload_n 0, 1) := by decide +kernel
theorem dX5_isWeight_13 : decode cX5_isWeight 13 = .ok (.iconst 2, 1) := by decide +kernel
theorem dX5_isWeight_14 : decode cX5_isWeight 14 = .ok (.irem, 1) := by decide +kernel
theorem dX5_isWeight_15 : decode cX5_isWeight 15 = .ok (.ifCond .ne 7, 3) := by decide +kernel
theorem dX5_isWeight_18 : decode cX5_isWeight 18 = .ok (.iconst 1, 1) := by decide +kernel
theorem dX5_isWeight_19 : decode cX5_isWeight 19 = .ok (.goto 4, 3) := by decide +kernel
theorem dX5_isWeight_22 : decode cX5_isWeight 22 = .ok (.iconst 0, 1) := by decide +kernel
theorem dX5_isWeight_23 : decode cX5_isWeight 23 = .ok (.ireturn, 1) := by decide +kernel
theorem dX5_fillBasis_0 : decode cX5_fillBasis 0 = .ok (.iload_n 1, 1) := by decide +kernel
theorem dX5_fillBasis_1 : decode cX5_fillBasis 1 = .ok (.bipush 12, 2) := by decide +kernel
theorem dX5_fillBasis_3 : decode cX5_fillBasis 3 = .ok (.iload_n 2, 1) := by decide +kernel
theorem dX5_fillBasis_4 : decode cX5_fillBasis 4 = .ok (.imul, 1) := by decide +kernel
theorem dX5_fillBasis_5 : decode cX5_fillBasis 5 = .ok (.isub, 1) := by decide +kernel
theorem dX5_fillBasis_6 : decode cX5_fillBasis 6 = .ok (.istore_n 3, 1) := by decide +kernel
theorem dX5_fillBasis_7 : decode cX5_fillBasis 7 = .ok (.iload_n 3, 1) := by decide +kernel
theorem dX5_fillBasis_8 : decode cX5_fillBasis 8 = .ok (.iconst 4, 1) := by decide +kernel
theorem dX5_fillBasis_9 : decode cX5_fillBasis 9 = .ok (.irem, 1) := by decide +kernel
theorem dX5_fillBasis_10 : decode cX5_fillBasis 10 = .ok (.iconst 2, 1) := by decide +kernel
theorem dX5_fillBasis_11 : decode cX5_fillBasis 11 = .ok (.if_icmp .ne 7, 3) := by decide +kernel
theorem dX5_fillBasis_14 : decode cX5_fillBasis 14 = .ok (.iconst 1, 1) := by decide +kernel
theorem dX5_fillBasis_15 : decode cX5_fillBasis 15 = .ok (.goto 4, 3) := by decide +kernel
theorem dX5_fillBasis_18 : decode cX5_fillBasis 18 = .ok (.iconst 0, 1) := by decide +kernel
theorem dX5_fillBasis_19 : decode cX5_fillBasis 19 = .ok (.istore 4, 2) := by decide +kernel
theorem dX5_fillBasis_21 : decode cX5_fillBasis 21 = .ok (.iconst 0, 1) := by decide +kernel
theorem dX5_fillBasis_22 : decode cX5_fillBasis 22 = .ok (.istore 5, 2) := by decide +kernel
theorem dX5_fillBasis_24 : decode cX5_fillBasis 24 = .ok (.iload 5, 2) := by decide +kernel
theorem dX5_fillBasis_26 : decode cX5_fillBasis 26 = .ok (.bipush 48, 2) := by decide +kernel
theorem dX5_fillBasis_28 : decode cX5_fillBasis 28 = .ok (.if_icmp .ge 26, 3) := by decide +kernel
theorem dX5_fillBasis_31 : decode cX5_fillBasis 31 = .ok (.aload_n 0, 1) := by decide +kernel
theorem dX5_fillBasis_32 : decode cX5_fillBasis 32 = .ok (.getfield 44, 3) := by decide +kernel
theorem dX5_fillBasis_35 : decode cX5_fillBasis 35 = .ok (.iload 5, 2) := by decide +kernel
theorem dX5_fillBasis_37 : decode cX5_fillBasis 37 = .ok (.iload 5, 2) := by decide +kernel
theorem dX5_fillBasis_39 : decode cX5_fillBasis 39 = .ok (.ifCond .ne 7, 3) := by decide +kernel
theorem dX5_fillBasis_42 : decode cX5_fillBasis 42 = .ok (.lconst 1, 1) := by decide +kernel
theorem dX5_fillBasis_43 : decode cX5_fillBasis 43 = .ok (.goto 4, 3) := by decide +kernel
theorem dX5_fillBasis_46 : decode cX5_fillBasis 46 = .ok (.lconst 0, 1) := by decide +kernel
theorem dX5_fillBasis_47 : decode cX5_fillBasis 47 = .ok (.lastore, 1) := by decide +kernel
theorem dX5_fillBasis_48 : decode cX5_fillBasis 48 = .ok (.iinc 5 1, 3) := by decide +kernel
theorem dX5_fillBasis_51 : decode cX5_fillBasis 51 = .ok (.goto (-27), 3) := by decide +kernel
theorem dX5_fillBasis_54 : decode cX5_fillBasis 54 = .ok (.iconst 0, 1) := by decide +kernel
theorem dX5_fillBasis_55 : decode cX5_fillBasis 55 = .ok (.istore 5, 2) := by decide +kernel
theorem dX5_fillBasis_57 : decode cX5_fillBasis 57 = .ok (.iload 5, 2) := by decide +kernel
theorem dX5_fillBasis_59 : decode cX5_fillBasis 59 = .ok (.iload_n 2, 1) := by decide +kernel
theorem dX5_fillBasis_60 : decode cX5_fillBasis 60 = .ok (.if_icmp .ge 21, 3) := by decide +kernel
theorem dX5_fillBasis_63 : decode cX5_fillBasis 63 = .ok (.aload_n 0, 1) := by decide +kernel
theorem dX5_fillBasis_64 : decode cX5_fillBasis 64 = .ok (.aload_n 0, 1) := by decide +kernel
theorem dX5_fillBasis_65 : decode cX5_fillBasis 65 = .ok (.getfield 44, 3) := by decide +kernel
theorem dX5_fillBasis_68 : decode cX5_fillBasis 68 = .ok (.aload_n 0, 1) := by decide +kernel
theorem dX5_fillBasis_69 : decode cX5_fillBasis 69 = .ok (.getfield 35, 3) := by decide +kernel
theorem dX5_fillBasis_72 : decode cX5_fillBasis 72 = .ok (.invokevirtual 102, 3) := by decide +kernel
theorem dX5_fillBasis_75 : decode cX5_fillBasis 75 = .ok (.iinc 5 1, 3) := by decide +kernel
theorem dX5_fillBasis_78 : decode cX5_fillBasis 78 = .ok (.goto (-21), 3) := by decide +kernel
theorem dX5_fillBasis_81 : decode cX5_fillBasis 81 = .ok (.iconst 0, 1) := by decide +kernel
theorem dX5_fillBasis_82 : decode cX5_fillBasis 82 = .ok (.istore 5, 2) := by decide +kernel
theorem dX5_fillBasis_84 : decode cX5_fillBasis 84 = .ok (.iload 5, 2) := by decide +kernel
theorem dX5_fillBasis_86 : decode cX5_fillBasis 86 = .ok (.iload_n 3, 1) := by decide +kernel
theorem dX5_fillBasis_87 : decode cX5_fillBasis 87 = .ok (.bipush 6, 2) := by decide +kernel
theorem dX5_fillBasis_89 : decode cX5_fillBasis 89 = .ok (.iload 4, 2) := by decide +kernel
theorem dX5_fillBasis_91 : decode cX5_fillBasis 91 = .ok (.imul, 1) := by decide +kernel
theorem dX5_fillBasis_92 : decode cX5_fillBasis 92 = .ok (.isub, 1) := by decide +kernel
theorem dX5_fillBasis_93 : decode cX5_fillBasis 93 = .ok (.iconst 4, 1) := by decide +kernel
theorem dX5_fillBasis_94 : decode cX5_fillBasis 94 = .ok (.idiv, 1) := by decide +kernel
theorem dX5_fillBasis_95 : decode cX5_fillBasis 95 = .ok (.if_icmp .ge 21, 3) := by decide +kernel
theorem dX5_fillBasis_98 : decode cX5_fillBasis 98 = .ok (.aload_n 0, 1) := by decide +kernel
theorem dX5_fillBasis_99 : decode cX5_fillBasis 99 = .ok (.aload_n 0, 1) := by decide +kernel
theorem dX5_fillBasis_100 : decode cX5_fillBasis 100 = .ok (.getfield 44, 3) := by decide +kernel
theorem dX5_fillBasis_103 : decode cX5_fillBasis 103 = .ok (.aload_n 0, 1) := by decide +kernel
theorem dX5_fillBasis_104 : decode cX5_fillBasis 104 = .ok (.getfield 29, 3) := by decide +kernel
theorem dX5_fillBasis_107 : decode cX5_fillBasis 107 = .ok (.invokevirtual 102, 3) := by decide +kernel
theorem dX5_fillBasis_110 : decode cX5_fillBasis 110 = .ok (.iinc 5 1, 3) := by decide +kernel
theorem dX5_fillBasis_113 : decode cX5_fillBasis 113 = .ok (.goto (-29), 3) := by decide +kernel
theorem dX5_fillBasis_116 : decode cX5_fillBasis 116 = .ok (.iload 4, 2) := by decide +kernel
theorem dX5_fillBasis_118 : decode cX5_fillBasis 118 = .ok (.iconst 1, 1) := by decide +kernel
theorem dX5_fillBasis_119 : decode cX5_fillBasis 119 = .ok (.if_icmp .ne 15, 3) := by decide +kernel
theorem dX5_fillBasis_122 : decode cX5_fillBasis 122 = .ok (.aload_n 0, 1) := by decide +kernel
theorem dX5_fillBasis_123 : decode cX5_fillBasis 123 = .ok (.aload_n 0, 1) := by decide +kernel
theorem dX5_fillBasis_124 : decode cX5_fillBasis 124 = .ok (.getfield 44, 3) := by decide +kernel
theorem dX5_fillBasis_127 : decode cX5_fillBasis 127 = .ok (.aload_n 0, 1) := by decide +kernel
theorem dX5_fillBasis_128 : decode cX5_fillBasis 128 = .ok (.getfield 32, 3) := by decide +kernel
theorem dX5_fillBasis_131 : decode cX5_fillBasis 131 = .ok (.invokevirtual 102, 3) := by decide +kernel
theorem dX5_fillBasis_134 : decode cX5_fillBasis 134 = .ok (.return_, 1) := by decide +kernel
theorem dX5_finds_0 : decode cX5_finds 0 = .ok (.iload_n 2, 1) := by decide +kernel
theorem dX5_finds_1 : decode cX5_finds 1 = .ok (.invokestatic 106, 3) := by decide +kernel
theorem dX5_finds_4 : decode cX5_finds 4 = .ok (.istore_n 3, 1) := by decide +kernel
theorem dX5_finds_5 : decode cX5_finds 5 = .ok (.iconst 0, 1) := by decide +kernel
theorem dX5_finds_6 : decode cX5_finds 6 = .ok (.istore 4, 2) := by decide +kernel
theorem dX5_finds_8 : decode cX5_finds 8 = .ok (.iload 4, 2) := by decide +kernel
theorem dX5_finds_10 : decode cX5_finds 10 = .ok (.iload_n 3, 1) := by decide +kernel
theorem dX5_finds_11 : decode cX5_finds 11 = .ok (.if_icmp .ge 20, 3) := by decide +kernel
theorem dX5_finds_14 : decode cX5_finds 14 = .ok (.aload_n 0, 1) := by decide +kernel
theorem dX5_finds_15 : decode cX5_finds 15 = .ok (.getfield 41, 3) := by decide +kernel
theorem dX5_finds_18 : decode cX5_finds 18 = .ok (.iload 4, 2) := by decide +kernel
theorem dX5_finds_20 : decode cX5_finds 20 = .ok (.aload_n 1, 1) := by decide +kernel
theorem dX5_finds_21 : decode cX5_finds 21 = .ok (.iload 4, 2) := by decide +kernel
theorem dX5_finds_23 : decode cX5_finds 23 = .ok (.laload, 1) := by decide +kernel
theorem dX5_finds_24 : decode cX5_finds 24 = .ok (.lastore, 1) := by decide +kernel
theorem dX5_finds_25 : decode cX5_finds 25 = .ok (.iinc 4 1, 3) := by decide +kernel
theorem dX5_finds_28 : decode cX5_finds 28 = .ok (.goto (-20), 3) := by decide +kernel
theorem dX5_finds_31 : decode cX5_finds 31 = .ok (.iconst 0, 1) := by decide +kernel
theorem dX5_finds_32 : decode cX5_finds 32 = .ok (.istore 4, 2) := by decide +kernel
theorem dX5_finds_34 : decode cX5_finds 34 = .ok (.iload 4, 2) := by decide +kernel
theorem dX5_finds_36 : decode cX5_finds 36 = .ok (.iload_n 3, 1) := by decide +kernel
theorem dX5_finds_37 : decode cX5_finds 37 = .ok (.if_icmp .ge 83, 3) := by decide +kernel
theorem dX5_finds_40 : decode cX5_finds 40 = .ok (.aload_n 0, 1) := by decide +kernel
theorem dX5_finds_41 : decode cX5_finds 41 = .ok (.getfield 47, 3) := by decide +kernel
theorem dX5_finds_44 : decode cX5_finds 44 = .ok (.iload 4, 2) := by decide +kernel
theorem dX5_finds_46 : decode cX5_finds 46 = .ok (.aload_n 0, 1) := by decide +kernel
theorem dX5_finds_47 : decode cX5_finds 47 = .ok (.getfield 41, 3) := by decide +kernel
theorem dX5_finds_50 : decode cX5_finds 50 = .ok (.iload 4, 2) := by decide +kernel
theorem dX5_finds_52 : decode cX5_finds 52 = .ok (.laload, 1) := by decide +kernel
theorem dX5_finds_53 : decode cX5_finds 53 = .ok (.lastore, 1) := by decide +kernel
theorem dX5_finds_54 : decode cX5_finds 54 = .ok (.aload_n 0, 1) := by decide +kernel
theorem dX5_finds_55 : decode cX5_finds 55 = .ok (.iload_n 2, 1) := by decide +kernel
theorem dX5_finds_56 : decode cX5_finds 56 = .ok (.iload 4, 2) := by decide +kernel
theorem dX5_finds_58 : decode cX5_finds 58 = .ok (.invokevirtual 110, 3) := by decide +kernel
theorem dX5_finds_61 : decode cX5_finds 61 = .ok (.iconst 0, 1) := by decide +kernel
theorem dX5_finds_62 : decode cX5_finds 62 = .ok (.istore 5, 2) := by decide +kernel
theorem dX5_finds_64 : decode cX5_finds 64 = .ok (.iload 5, 2) := by decide +kernel
theorem dX5_finds_66 : decode cX5_finds 66 = .ok (.iload_n 3, 1) := by decide +kernel
theorem dX5_finds_67 : decode cX5_finds 67 = .ok (.if_icmp .ge 47, 3) := by decide +kernel
theorem dX5_finds_70 : decode cX5_finds 70 = .ok (.aload_n 0, 1) := by decide +kernel
theorem dX5_finds_71 : decode cX5_finds 71 = .ok (.getfield 41, 3) := by decide +kernel
theorem dX5_finds_74 : decode cX5_finds 74 = .ok (.iload 5, 2) := by decide +kernel
theorem dX5_finds_76 : decode cX5_finds 76 = .ok (.aload_n 0, 1) := by decide +kernel
theorem dX5_finds_77 : decode cX5_finds 77 = .ok (.getfield 41, 3) := by decide +kernel
theorem dX5_finds_80 : decode cX5_finds 80 = .ok (.iload 5, 2) := by decide +kernel
theorem dX5_finds_82 : decode cX5_finds 82 = .ok (.laload, 1) := by decide +kernel
theorem dX5_finds_83 : decode cX5_finds 83 = .ok (.ldc2_w 79, 3) := by decide +kernel
theorem dX5_finds_86 : decode cX5_finds 86 = .ok (.aload_n 0, 1) := by decide +kernel
theorem dX5_finds_87 : decode cX5_finds 87 = .ok (.getfield 47, 3) := by decide +kernel
theorem dX5_finds_90 : decode cX5_finds 90 = .ok (.iload 4, 2) := by decide +kernel
theorem dX5_finds_92 : decode cX5_finds 92 = .ok (.laload, 1) := by decide +kernel
theorem dX5_finds_93 : decode cX5_finds 93 = .ok (.lsub, 1) := by decide +kernel
theorem dX5_finds_94 : decode cX5_finds 94 = .ok (.aload_n 0, 1) := by decide +kernel
theorem dX5_finds_95 : decode cX5_finds 95 = .ok (.getfield 44, 3) := by decide +kernel
theorem dX5_finds_98 : decode cX5_finds 98 = .ok (.iload 5, 2) := by decide +kernel
theorem dX5_finds_100 : decode cX5_finds 100 = .ok (.laload, 1) := by decide +kernel
theorem dX5_finds_101 : decode cX5_finds 101 = .ok (.lmul, 1) := by decide +kernel
theorem dX5_finds_102 : decode cX5_finds 102 = .ok (.ladd, 1) := by decide +kernel
theorem dX5_finds_103 : decode cX5_finds 103 = .ok (.ldc2_w 79, 3) := by decide +kernel
theorem dX5_finds_106 : decode cX5_finds 106 = .ok (.lrem, 1) := by decide +kernel
theorem dX5_finds_107 : decode cX5_finds 107 = .ok (.lastore, 1) := by decide +kernel
theorem dX5_finds_108 : decode cX5_finds 108 = .ok (.iinc 5 1, 3) := by decide +kernel
theorem dX5_finds_111 : decode cX5_finds 111 = .ok (.goto (-47), 3) := by decide +kernel
theorem dX5_finds_114 : decode cX5_finds 114 = .ok (.iinc 4 1, 3) := by decide +kernel
theorem dX5_finds_117 : decode cX5_finds 117 = .ok (.goto (-83), 3) := by decide +kernel
theorem dX5_finds_120 : decode cX5_finds 120 = .ok (.return_, 1) := by decide +kernel
theorem dX5_builds_0 : decode cX5_builds 0 = .ok (.iconst 0, 1) := by decide +kernel
theorem dX5_builds_1 : decode cX5_builds 1 = .ok (.istore_n 3, 1) := by decide +kernel
theorem dX5_builds_2 : decode cX5_builds 2 = .ok (.iload_n 3, 1) := by decide +kernel
theorem dX5_builds_3 : decode cX5_builds 3 = .ok (.bipush 48, 2) := by decide +kernel
theorem dX5_builds_5 : decode cX5_builds 5 = .ok (.if_icmp .ge 16, 3) := by decide +kernel
theorem dX5_builds_8 : decode cX5_builds 8 = .ok (.aload_n 0, 1) := by decide +kernel
theorem dX5_builds_9 : decode cX5_builds 9 = .ok (.getfield 38, 3) := by decide +kernel
theorem dX5_builds_12 : decode cX5_builds 12 = .ok (.iload_n 3, 1) := by decide +kernel
theorem dX5_builds_13 : decode cX5_builds 13 = .ok (.lconst 0, 1) := by decide +kernel
theorem dX5_builds_14 : decode cX5_builds 14 = .ok (.lastore, 1) := by decide +kernel
theorem dX5_builds_15 : decode cX5_builds 15 = .ok (.iinc 3 1, 3) := by decide +kernel
theorem dX5_builds_18 : decode cX5_builds 18 = .ok (.goto (-16), 3) := by decide +kernel
theorem dX5_builds_21 : decode cX5_builds 21 = .ok (.iconst 0, 1) := by decide +kernel
theorem dX5_builds_22 : decode cX5_builds 22 = .ok (.istore_n 3, 1) := by decide +kernel
theorem dX5_builds_23 : decode cX5_builds 23 = .ok (.iload_n 3, 1) := by decide +kernel
theorem dX5_builds_24 : decode cX5_builds 24 = .ok (.iload_n 1, 1) := by decide +kernel
theorem dX5_builds_25 : decode cX5_builds 25 = .ok (.invokestatic 106, 3) := by decide +kernel
theorem dX5_builds_28 : decode cX5_builds 28 = .ok (.if_icmp .ge 66, 3) := by decide +kernel
theorem dX5_builds_31 : decode cX5_builds 31 = .ok (.aload_n 0, 1) := by decide +kernel
theorem dX5_builds_32 : decode cX5_builds 32 = .ok (.iload_n 1, 1) := by decide +kernel
theorem dX5_builds_33 : decode cX5_builds 33 = .ok (.iload_n 3, 1) := by decide +kernel
theorem dX5_builds_34 : decode cX5_builds 34 = .ok (.invokevirtual 110, 3) := by decide +kernel
theorem dX5_builds_37 : decode cX5_builds 37 = .ok (.iconst 0, 1) := by decide +kernel
theorem dX5_builds_38 : decode cX5_builds 38 = .ok (.istore 4, 2) := by decide +kernel
theorem dX5_builds_40 : decode cX5_builds 40 = .ok (.iload 4, 2) := by decide +kernel
theorem dX5_builds_42 : decode cX5_builds 42 = .ok (.bipush 48, 2) := by decide +kernel
theorem dX5_builds_44 : decode cX5_builds 44 = .ok (.if_icmp .ge 44, 3) := by decide +kernel
theorem dX5_builds_47 : decode cX5_builds 47 = .ok (.aload_n 0, 1) := by decide +kernel
theorem dX5_builds_48 : decode cX5_builds 48 = .ok (.getfield 38, 3) := by decide +kernel
theorem dX5_builds_51 : decode cX5_builds 51 = .ok (.iload 4, 2) := by decide +kernel
theorem dX5_builds_53 : decode cX5_builds 53 = .ok (.aload_n 0, 1) := by decide +kernel
theorem dX5_builds_54 : decode cX5_builds 54 = .ok (.getfield 38, 3) := by decide +kernel
theorem dX5_builds_57 : decode cX5_builds 57 = .ok (.iload 4, 2) := by decide +kernel
theorem dX5_builds_59 : decode cX5_builds 59 = .ok (.laload, 1) := by decide +kernel
theorem dX5_builds_60 : decode cX5_builds 60 = .ok (.aload_n 0, 1) := by decide +kernel
theorem dX5_builds_61 : decode cX5_builds 61 = .ok (.getfield 47, 3) := by decide +kernel
theorem dX5_builds_64 : decode cX5_builds 64 = .ok (.iload_n 3, 1) := by decide +kernel
theorem dX5_builds_65 : decode cX5_builds 65 = .ok (.iload_n 2, 1) := by decide +kernel
theorem dX5_builds_66 : decode cX5_builds 66 = .ok (.iadd, 1) := by decide +kernel
theorem dX5_builds_67 : decode cX5_builds 67 = .ok (.laload, 1) := by decide +kernel
theorem dX5_builds_68 : decode cX5_builds 68 = .ok (.aload_n 0, 1) := by decide +kernel
theorem dX5_builds_69 : decode cX5_builds 69 = .ok (.getfield 44, 3) := by decide +kernel
theorem dX5_builds_72 : decode cX5_builds 72 = .ok (.iload 4, 2) := by decide +kernel
theorem dX5_builds_74 : decode cX5_builds 74 = .ok (.laload, 1) := by decide +kernel
theorem dX5_builds_75 : decode cX5_builds 75 = .ok (.lmul, 1) := by decide +kernel
theorem dX5_builds_76 : decode cX5_builds 76 = .ok (.ladd, 1) := by decide +kernel
theorem dX5_builds_77 : decode cX5_builds 77 = .ok (.ldc2_w 79, 3) := by decide +kernel
theorem dX5_builds_80 : decode cX5_builds 80 = .ok (.lrem, 1) := by decide +kernel
theorem dX5_builds_81 : decode cX5_builds 81 = .ok (.lastore, 1) := by decide +kernel
theorem dX5_builds_82 : decode cX5_builds 82 = .ok (.iinc 4 1, 3) := by decide +kernel
theorem dX5_builds_85 : decode cX5_builds 85 = .ok (.goto (-45), 3) := by decide +kernel
theorem dX5_builds_88 : decode cX5_builds 88 = .ok (.iinc 3 1, 3) := by decide +kernel
theorem dX5_builds_91 : decode cX5_builds 91 = .ok (.goto (-68), 3) := by decide +kernel
theorem dX5_builds_94 : decode cX5_builds 94 = .ok (.return_, 1) := by decide +kernel
theorem dX5_comes_0 : decode cX5_comes 0 = .ok (.iload_n 1, 1) := by decide +kernel
theorem dX5_comes_1 : decode cX5_comes 1 = .ok (.bipush 40, 2) := by decide +kernel
theorem dX5_comes_3 : decode cX5_comes 3 = .ok (.if_icmp .gt 12, 3) := by decide +kernel
theorem dX5_comes_6 : decode cX5_comes 6 = .ok (.aload_n 0, 1) := by decide +kernel
theorem dX5_comes_7 : decode cX5_comes 7 = .ok (.getfield 89, 3) := by decide +kernel
theorem dX5_comes_10 : decode cX5_comes 10 = .ok (.bipush 16, 2) := by decide +kernel
theorem dX5_comes_12 : decode cX5_comes 12 = .ok (.if_icmp .ne 10, 3) := by decide +kernel
theorem dX5_comes_15 : decode cX5_comes 15 = .ok (.aload_n 0, 1) := by decide +kernel
theorem dX5_comes_16 : decode cX5_comes 16 = .ok (.bipush (-8), 2) := by decide +kernel
theorem dX5_comes_18 : decode cX5_comes 18 = .ok (.invokevirtual 114, 3) := by decide +kernel
theorem dX5_comes_21 : decode cX5_comes 21 = .ok (.ireturn, 1) := by decide +kernel
theorem dX5_comes_22 : decode cX5_comes 22 = .ok (.iconst 0, 1) := by decide +kernel
theorem dX5_comes_23 : decode cX5_comes 23 = .ok (.istore 4, 2) := by decide +kernel
theorem dX5_comes_25 : decode cX5_comes 25 = .ok (.iload 4, 2) := by decide +kernel
theorem dX5_comes_27 : decode cX5_comes 27 = .ok (.bipush 48, 2) := by decide +kernel
theorem dX5_comes_29 : decode cX5_comes 29 = .ok (.if_icmp .ge 31, 3) := by decide +kernel
theorem dX5_comes_32 : decode cX5_comes 32 = .ok (.aload_n 0, 1) := by decide +kernel
theorem dX5_comes_33 : decode cX5_comes 33 = .ok (.getfield 7, 3) := by decide +kernel
theorem dX5_comes_36 : decode cX5_comes 36 = .ok (.bipush 48, 2) := by decide +kernel
theorem dX5_comes_38 : decode cX5_comes 38 = .ok (.aload_n 0, 1) := by decide +kernel
theorem dX5_comes_39 : decode cX5_comes 39 = .ok (.getfield 89, 3) := by decide +kernel
theorem dX5_comes_42 : decode cX5_comes 42 = .ok (.imul, 1) := by decide +kernel
theorem dX5_comes_43 : decode cX5_comes 43 = .ok (.iload 4, 2) := by decide +kernel
theorem dX5_comes_45 : decode cX5_comes 45 = .ok (.iadd, 1) := by decide +kernel
theorem dX5_comes_46 : decode cX5_comes 46 = .ok (.aload_n 0, 1) := by decide +kernel
theorem dX5_comes_47 : decode cX5_comes 47 = .ok (.getfield 38, 3) := by decide +kernel
theorem dX5_comes_50 : decode cX5_comes 50 = .ok (.iload 4, 2) := by decide +kernel
theorem dX5_comes_52 : decode cX5_comes 52 = .ok (.laload, 1) := by decide +kernel
theorem dX5_comes_53 : decode cX5_comes 53 = .ok (.lastore, 1) := by decide +kernel
theorem dX5_comes_54 : decode cX5_comes 54 = .ok (.iinc 4 1, 3) := by decide +kernel
theorem dX5_comes_57 : decode cX5_comes 57 = .ok (.goto (-32), 3) := by decide +kernel
theorem dX5_comes_60 : decode cX5_comes 60 = .ok (.aload_n 0, 1) := by decide +kernel
theorem dX5_comes_61 : decode cX5_comes 61 = .ok (.getfield 17, 3) := by decide +kernel
theorem dX5_comes_64 : decode cX5_comes 64 = .ok (.aload_n 0, 1) := by decide +kernel
theorem dX5_comes_65 : decode cX5_comes 65 = .ok (.getfield 89, 3) := by decide +kernel
theorem dX5_comes_68 : decode cX5_comes 68 = .ok (.iload_n 1, 1) := by decide +kernel
theorem dX5_comes_69 : decode cX5_comes 69 = .ok (.iastore, 1) := by decide +kernel
theorem dX5_comes_70 : decode cX5_comes 70 = .ok (.aload_n 0, 1) := by decide +kernel
theorem dX5_comes_71 : decode cX5_comes 71 = .ok (.getfield 13, 3) := by decide +kernel
theorem dX5_comes_74 : decode cX5_comes 74 = .ok (.aload_n 0, 1) := by decide +kernel
theorem dX5_comes_75 : decode cX5_comes 75 = .ok (.getfield 89, 3) := by decide +kernel
theorem dX5_comes_78 : decode cX5_comes 78 = .ok (.iload_n 2, 1) := by decide +kernel
theorem dX5_comes_79 : decode cX5_comes 79 = .ok (.iastore, 1) := by decide +kernel
theorem dX5_comes_80 : decode cX5_comes 80 = .ok (.aload_n 0, 1) := by decide +kernel
theorem dX5_comes_81 : decode cX5_comes 81 = .ok (.getfield 20, 3) := by decide +kernel
theorem dX5_comes_84 : decode cX5_comes 84 = .ok (.aload_n 0, 1) := by decide +kernel
theorem dX5_comes_85 : decode cX5_comes 85 = .ok (.getfield 89, 3) := by decide +kernel
theorem dX5_comes_88 : decode cX5_comes 88 = .ok (.iload_n 3, 1) := by decide +kernel
theorem dX5_comes_89 : decode cX5_comes 89 = .ok (.iastore, 1) := by decide +kernel
theorem dX5_comes_90 : decode cX5_comes 90 = .ok (.aload_n 0, 1) := by decide +kernel
theorem dX5_comes_91 : decode cX5_comes 91 = .ok (.dup, 1) := by decide +kernel
theorem dX5_comes_92 : decode cX5_comes 92 = .ok (.getfield 89, 3) := by decide +kernel
theorem dX5_comes_95 : decode cX5_comes 95 = .ok (.iconst 1, 1) := by decide +kernel
theorem dX5_comes_96 : decode cX5_comes 96 = .ok (.iadd, 1) := by decide +kernel
theorem dX5_comes_97 : decode cX5_comes 97 = .ok (.putfield 89, 3) := by decide +kernel
theorem dX5_comes_100 : decode cX5_comes 100 = .ok (.aload_n 0, 1) := by decide +kernel
theorem dX5_comes_101 : decode cX5_comes 101 = .ok (.getfield 89, 3) := by decide +kernel
theorem dX5_comes_104 : decode cX5_comes 104 = .ok (.iconst 1, 1) := by decide +kernel
theorem dX5_comes_105 : decode cX5_comes 105 = .ok (.isub, 1) := by decide +kernel
theorem dX5_comes_106 : decode cX5_comes 106 = .ok (.ireturn, 1) := by decide +kernel
theorem dX5_made_0 : decode cX5_made 0 = .ok (.aload_n 0, 1) := by decide +kernel
theorem dX5_made_1 : decode cX5_made 1 = .ok (.iload_n 1, 1) := by decide +kernel
theorem dX5_made_2 : decode cX5_made 2 = .ok (.iload_n 1, 1) := by decide +kernel
theorem dX5_made_3 : decode cX5_made 3 = .ok (.ifCond .ne 7, 3) := by decide +kernel
theorem dX5_made_6 : decode cX5_made 6 = .ok (.iconst 3, 1) := by decide +kernel
theorem dX5_made_7 : decode cX5_made 7 = .ok (.goto 19, 3) := by decide +kernel
theorem dX5_made_10 : decode cX5_made 10 = .ok (.aload_n 0, 1) := by decide +kernel
theorem dX5_made_11 : decode cX5_made 11 = .ok (.getfield 38, 3) := by decide +kernel
theorem dX5_made_14 : decode cX5_made 14 = .ok (.iconst 0, 1) := by decide +kernel
theorem dX5_made_15 : decode cX5_made 15 = .ok (.laload, 1) := by decide +kernel
theorem dX5_made_16 : decode cX5_made 16 = .ok (.lconst 0, 1) := by decide +kernel
theorem dX5_made_17 : decode cX5_made 17 = .ok (.lcmp, 1) := by decide +kernel
theorem dX5_made_18 : decode cX5_made 18 = .ok (.ifCond .ne 7, 3) := by decide +kernel
theorem dX5_made_21 : decode cX5_made 21 = .ok (.iconst 4, 1) := by decide +kernel
theorem dX5_made_22 : decode cX5_made 22 = .ok (.goto 4, 3) := by decide +kernel
theorem dX5_made_25 : decode cX5_made 25 = .ok (.iconst 0, 1) := by decide +kernel
theorem dX5_made_26 : decode cX5_made 26 = .ok (.iconst 0, 1) := by decide +kernel
theorem dX5_made_27 : decode cX5_made 27 = .ok (.invokevirtual 117, 3) := by decide +kernel
theorem dX5_made_30 : decode cX5_made 30 = .ok (.ireturn, 1) := by decide +kernel
theorem dX5_sums_0 : decode cX5_sums 0 = .ok (.iload_n 1, 1) := by decide +kernel
theorem dX5_sums_1 : decode cX5_sums 1 = .ok (.iconst 4, 1) := by decide +kernel
theorem dX5_sums_2 : decode cX5_sums 2 = .ok (.if_icmp .ne 9, 3) := by decide +kernel
theorem dX5_sums_5 : decode cX5_sums 5 = .ok (.ldc2_w 75, 3) := by decide +kernel
theorem dX5_sums_8 : decode cX5_sums 8 = .ok (.goto 75, 3) := by decide +kernel
theorem dX5_sums_11 : decode cX5_sums 11 = .ok (.iload_n 1, 1) := by decide +kernel
theorem dX5_sums_12 : decode cX5_sums 12 = .ok (.bipush 6, 2) := by decide +kernel
theorem dX5_sums_14 : decode cX5_sums 14 = .ok (.if_icmp .ne 9, 3) := by decide +kernel
theorem dX5_sums_17 : decode cX5_sums 17 = .ok (.ldc2_w 77, 3) := by decide +kernel
theorem dX5_sums_20 : decode cX5_sums 20 = .ok (.goto 63, 3) := by decide +kernel
theorem dX5_sums_23 : decode cX5_sums 23 = .ok (.iload_n 1, 1) := by decide +kernel
theorem dX5_sums_24 : decode cX5_sums 24 = .ok (.bipush 8, 2) := by decide +kernel
theorem dX5_sums_26 : decode cX5_sums 26 = .ok (.if_icmp .ne 9, 3) := by decide +kernel
theorem dX5_sums_29 : decode cX5_sums 29 = .ok (.ldc2_w 121, 3) := by decide +kernel
theorem dX5_sums_32 : decode cX5_sums 32 = .ok (.goto 51, 3) := by decide +kernel
theorem dX5_sums_35 : decode cX5_sums 35 = .ok (.iload_n 1, 1) := by decide +kernel
theorem dX5_sums_36 : decode cX5_sums 36 = .ok (.bipush 10, 2) := by decide +kernel
theorem dX5_sums_38 : decode cX5_sums 38 = .ok (.if_icmp .ne 9, 3) := by decide +kernel
theorem dX5_sums_41 : decode cX5_sums 41 = .ok (.ldc2_w 123, 3) := by decide +kernel
theorem dX5_sums_44 : decode cX5_sums 44 = .ok (.goto 39, 3) := by decide +kernel
theorem dX5_sums_47 : decode cX5_sums 47 = .ok (.iload_n 1, 1) := by decide +kernel
theorem dX5_sums_48 : decode cX5_sums 48 = .ok (.bipush 12, 2) := by decide +kernel
theorem dX5_sums_50 : decode cX5_sums 50 = .ok (.if_icmp .ne 20, 3) := by decide +kernel
theorem dX5_sums_53 : decode cX5_sums 53 = .ok (.ldc2_w 125, 3) := by decide +kernel
theorem dX5_sums_56 : decode cX5_sums 56 = .ok (.ldc2_w 127, 3) := by decide +kernel
theorem dX5_sums_59 : decode cX5_sums 59 = .ok (.invokestatic 129, 3) := by decide +kernel
theorem dX5_sums_62 : decode cX5_sums 62 = .ok (.lmul, 1) := by decide +kernel
theorem dX5_sums_63 : decode cX5_sums 63 = .ok (.ldc2_w 79, 3) := by decide +kernel
theorem dX5_sums_66 : decode cX5_sums 66 = .ok (.lrem, 1) := by decide +kernel
theorem dX5_sums_67 : decode cX5_sums 67 = .ok (.goto 16, 3) := by decide +kernel
theorem dX5_sums_70 : decode cX5_sums 70 = .ok (.iload_n 1, 1) := by decide +kernel
theorem dX5_sums_71 : decode cX5_sums 71 = .ok (.bipush 14, 2) := by decide +kernel
theorem dX5_sums_73 : decode cX5_sums 73 = .ok (.if_icmp .ne 9, 3) := by decide +kernel
theorem dX5_sums_76 : decode cX5_sums 76 = .ok (.ldc2_w 69, 3) := by decide +kernel
theorem dX5_sums_79 : decode cX5_sums 79 = .ok (.goto 4, 3) := by decide +kernel
theorem dX5_sums_82 : decode cX5_sums 82 = .ok (.lconst 0, 1) := by decide +kernel
theorem dX5_sums_83 : decode cX5_sums 83 = .ok (.lstore_n 2, 1) := by decide +kernel
theorem dX5_sums_84 : decode cX5_sums 84 = .ok (.lload_n 2, 1) := by decide +kernel
theorem dX5_sums_85 : decode cX5_sums 85 = .ok (.lconst 0, 1) := by decide +kernel
theorem dX5_sums_86 : decode cX5_sums 86 = .ok (.lcmp, 1) := by decide +kernel
theorem dX5_sums_87 : decode cX5_sums 87 = .ok (.ifCond .ne 10, 3) := by decide +kernel
theorem dX5_sums_90 : decode cX5_sums 90 = .ok (.aload_n 0, 1) := by decide +kernel
theorem dX5_sums_91 : decode cX5_sums 91 = .ok (.bipush (-7), 2) := by decide +kernel
theorem dX5_sums_93 : decode cX5_sums 93 = .ok (.invokevirtual 114, 3) := by decide +kernel
theorem dX5_sums_96 : decode cX5_sums 96 = .ok (.ireturn, 1) := by decide +kernel
theorem dX5_sums_97 : decode cX5_sums 97 = .ok (.aload_n 0, 1) := by decide +kernel
theorem dX5_sums_98 : decode cX5_sums 98 = .ok (.getfield 38, 3) := by decide +kernel
theorem dX5_sums_101 : decode cX5_sums 101 = .ok (.iload_n 1, 1) := by decide +kernel
theorem dX5_sums_102 : decode cX5_sums 102 = .ok (.lload_n 2, 1) := by decide +kernel
theorem dX5_sums_103 : decode cX5_sums 103 = .ok (.invokestatic 71, 3) := by decide +kernel
theorem dX5_sums_106 : decode cX5_sums 106 = .ok (.aload_n 0, 1) := by decide +kernel
theorem dX5_sums_107 : decode cX5_sums 107 = .ok (.iload_n 1, 1) := by decide +kernel
theorem dX5_sums_108 : decode cX5_sums 108 = .ok (.iconst 1, 1) := by decide +kernel
theorem dX5_sums_109 : decode cX5_sums 109 = .ok (.iload_n 1, 1) := by decide +kernel
theorem dX5_sums_110 : decode cX5_sums 110 = .ok (.invokevirtual 117, 3) := by decide +kernel
theorem dX5_sums_113 : decode cX5_sums 113 = .ok (.ireturn, 1) := by decide +kernel
theorem dX5_product_0 : decode cX5_product 0 = .ok (.iload_n 1, 1) := by decide +kernel
theorem dX5_product_1 : decode cX5_product 1 = .ok (.i2l, 1) := by decide +kernel
theorem dX5_product_2 : decode cX5_product 2 = .ok (.lconst 1, 1) := by decide +kernel
theorem dX5_product_3 : decode cX5_product 3 = .ok (.ldc2_w 133, 3) := by decide +kernel
theorem dX5_product_6 : decode cX5_product 6 = .ok (.invokestatic 98, 3) := by decide +kernel
theorem dX5_product_9 : decode cX5_product 9 = .ok (.ifCond .ne 10, 3) := by decide +kernel
theorem dX5_product_12 : decode cX5_product 12 = .ok (.aload_n 0, 1) := by decide +kernel
theorem dX5_product_13 : decode cX5_product 13 = .ok (.bipush (-7), 2) := by decide +kernel
theorem dX5_product_15 : decode cX5_product 15 = .ok (.invokevirtual 114, 3) := by decide +kernel
theorem dX5_product_18 : decode cX5_product 18 = .ok (.ireturn, 1) := by decide +kernel
theorem dX5_product_19 : decode cX5_product 19 = .ok (.iconst 0, 1) := by decide +kernel
theorem dX5_product_20 : decode cX5_product 20 = .ok (.istore_n 2, 1) := by decide +kernel
theorem dX5_product_21 : decode cX5_product 21 = .ok (.iload_n 2, 1) := by decide +kernel
theorem dX5_product_22 : decode cX5_product 22 = .ok (.bipush 48, 2) := by decide +kernel
theorem dX5_product_24 : decode cX5_product 24 = .ok (.if_icmp .ge 24, 3) := by decide +kernel
theorem dX5_product_27 : decode cX5_product 27 = .ok (.aload_n 0, 1) := by decide +kernel
theorem dX5_product_28 : decode cX5_product 28 = .ok (.getfield 38, 3) := by decide +kernel
theorem dX5_product_31 : decode cX5_product 31 = .ok (.iload_n 2, 1) := by decide +kernel
theorem dX5_product_32 : decode cX5_product 32 = .ok (.iload_n 2, 1) := by decide +kernel
theorem dX5_product_33 : decode cX5_product 33 = .ok (.ifCond .ne 7, 3) := by decide +kernel
theorem dX5_product_36 : decode cX5_product 36 = .ok (.lconst 1, 1) := by decide +kernel
theorem dX5_product_37 : decode cX5_product 37 = .ok (.goto 4, 3) := by decide +kernel
theorem dX5_product_40 : decode cX5_product 40 = .ok (.lconst 0, 1) := by decide +kernel
theorem dX5_product_41 : decode cX5_product 41 = .ok (.lastore, 1) := by decide +kernel
theorem dX5_product_42 : decode cX5_product 42 = .ok (.iinc 2 1, 3) := by decide +kernel
theorem dX5_product_45 : decode cX5_product 45 = .ok (.goto (-24), 3) := by decide +kernel
theorem dX5_product_48 : decode cX5_product 48 = .ok (.iconst 0, 1) := by decide +kernel
theorem dX5_product_49 : decode cX5_product 49 = .ok (.istore_n 2, 1) := by decide +kernel
theorem dX5_product_50 : decode cX5_product 50 = .ok (.iload_n 2, 1) := by decide +kernel
theorem dX5_product_51 : decode cX5_product 51 = .ok (.iload_n 1, 1) := by decide +kernel
theorem dX5_product_52 : decode cX5_product 52 = .ok (.if_icmp .ge 21, 3) := by decide +kernel
theorem dX5_product_55 : decode cX5_product 55 = .ok (.aload_n 0, 1) := by decide +kernel
theorem dX5_product_56 : decode cX5_product 56 = .ok (.aload_n 0, 1) := by decide +kernel
theorem dX5_product_57 : decode cX5_product 57 = .ok (.getfield 38, 3) := by decide +kernel
theorem dX5_product_60 : decode cX5_product 60 = .ok (.aload_n 0, 1) := by decide +kernel
theorem dX5_product_61 : decode cX5_product 61 = .ok (.getfield 35, 3) := by decide +kernel
theorem dX5_product_64 : decode cX5_product 64 = .ok (.invokevirtual 102, 3) := by decide +kernel
theorem dX5_product_67 : decode cX5_product 67 = .ok (.iinc 2 1, 3) := by decide +kernel
theorem dX5_product_70 : decode cX5_product 70 = .ok (.goto (-20), 3) := by decide +kernel
theorem dX5_product_73 : decode cX5_product 73 = .ok (.aload_n 0, 1) := by decide +kernel
theorem dX5_product_74 : decode cX5_product 74 = .ok (.bipush 12, 2) := by decide +kernel
theorem dX5_product_76 : decode cX5_product 76 = .ok (.iload_n 1, 1) := by decide +kernel
theorem dX5_product_77 : decode cX5_product 77 = .ok (.imul, 1) := by decide +kernel
theorem dX5_product_78 : decode cX5_product 78 = .ok (.iconst 2, 1) := by decide +kernel
theorem dX5_product_79 : decode cX5_product 79 = .ok (.iload_n 1, 1) := by decide +kernel
theorem dX5_product_80 : decode cX5_product 80 = .ok (.invokevirtual 117, 3) := by decide +kernel
theorem dX5_product_83 : decode cX5_product 83 = .ok (.ireturn, 1) := by decide +kernel
theorem dX5_rest_0 : decode cX5_rest 0 = .ok (.iload_n 0, 1) := by decide +kernel
theorem dX5_rest_1 : decode cX5_rest 1 = .ok (.i2l, 1) := by decide +kernel
theorem dX5_rest_2 : decode cX5_rest 2 = .ok (.ldc2_w 79, 3) := by decide +kernel
end
section
theorem dX5_rest_5 : decode cX5_rest 5 = .ok (.lrem, 1) := by decide +kernel
theorem dX5_rest_6 : decode cX5_rest 6 = .ok (.ldc2_w 79, 3) := by decide +kernel
theorem dX5_rest_9 : decode cX5_rest 9 = .ok (.ladd, 1) := by decide +kernel
theorem dX5_rest_10 : decode cX5_rest 10 = .ok (.ldc2_w 79, 3) := by decide +kernel
theorem dX5_rest_13 : decode cX5_rest 13 = .ok (.lrem, 1) := by decide +kernel
theorem dX5_rest_14 : decode cX5_rest 14 = .ok (.lreturn, 1) := by decide +kernel
theorem dX5_add_0 : decode cX5_add 0 = .ok (.aload_n 0, 1) := by decide +kernel
theorem dX5_add_1 : decode cX5_add 1 = .ok (.iload_n 1, 1) := by decide +kernel
theorem dX5_add_2 : decode cX5_add 2 = .ok (.invokevirtual 135, 3) := by decide +kernel
theorem dX5_add_5 : decode cX5_add 5 = .ok (.ifCond .eq 11, 3) := by decide +kernel
theorem dX5_add_8 : decode cX5_add 8 = .ok (.aload_n 0, 1) := by decide +kernel
theorem dX5_add_9 : decode cX5_add 9 = .ok (.iload_n 3, 1) := by decide +kernel
theorem dX5_add_10 : decode cX5_add 10 = .ok (.invokevirtual 135, 3) := by decide +kernel
theorem dX5_add_13 : decode cX5_add 13 = .ok (.ifCond .ne 10, 3) := by decide +kernel
theorem dX5_add_16 : decode cX5_add 16 = .ok (.aload_n 0, 1) := by decide +kernel
theorem dX5_add_17 : decode cX5_add 17 = .ok (.bipush (-3), 2) := by decide +kernel
theorem dX5_add_19 : decode cX5_add 19 = .ok (.invokevirtual 114, 3) := by decide +kernel
theorem dX5_add_22 : decode cX5_add 22 = .ok (.ireturn, 1) := by decide +kernel
theorem dX5_add_23 : decode cX5_add 23 = .ok (.aload_n 0, 1) := by decide +kernel
theorem dX5_add_24 : decode cX5_add 24 = .ok (.getfield 17, 3) := by decide +kernel
theorem dX5_add_27 : decode cX5_add 27 = .ok (.iload_n 1, 1) := by decide +kernel
theorem dX5_add_28 : decode cX5_add 28 = .ok (.iaload, 1) := by decide +kernel
theorem dX5_add_29 : decode cX5_add 29 = .ok (.aload_n 0, 1) := by decide +kernel
theorem dX5_add_30 : decode cX5_add 30 = .ok (.getfield 17, 3) := by decide +kernel
theorem dX5_add_33 : decode cX5_add 33 = .ok (.iload_n 3, 1) := by decide +kernel
theorem dX5_add_34 : decode cX5_add 34 = .ok (.iaload, 1) := by decide +kernel
theorem dX5_add_35 : decode cX5_add 35 = .ok (.if_icmp .eq 10, 3) := by decide +kernel
theorem dX5_add_38 : decode cX5_add 38 = .ok (.aload_n 0, 1) := by decide +kernel
theorem dX5_add_39 : decode cX5_add 39 = .ok (.bipush (-7), 2) := by decide +kernel
theorem dX5_add_41 : decode cX5_add 41 = .ok (.invokevirtual 114, 3) := by decide +kernel
theorem dX5_add_44 : decode cX5_add 44 = .ok (.ireturn, 1) := by decide +kernel
theorem dX5_add_45 : decode cX5_add 45 = .ok (.iconst 0, 1) := by decide +kernel
theorem dX5_add_46 : decode cX5_add 46 = .ok (.istore 5, 2) := by decide +kernel
theorem dX5_add_48 : decode cX5_add 48 = .ok (.iload 5, 2) := by decide +kernel
theorem dX5_add_50 : decode cX5_add 50 = .ok (.bipush 48, 2) := by decide +kernel
theorem dX5_add_52 : decode cX5_add 52 = .ok (.if_icmp .ge 56, 3) := by decide +kernel
theorem dX5_add_55 : decode cX5_add 55 = .ok (.aload_n 0, 1) := by decide +kernel
theorem dX5_add_56 : decode cX5_add 56 = .ok (.getfield 38, 3) := by decide +kernel
theorem dX5_add_59 : decode cX5_add 59 = .ok (.iload 5, 2) := by decide +kernel
theorem dX5_add_61 : decode cX5_add 61 = .ok (.iload_n 2, 1) := by decide +kernel
theorem dX5_add_62 : decode cX5_add 62 = .ok (.invokestatic 138, 3) := by decide +kernel
theorem dX5_add_65 : decode cX5_add 65 = .ok (.aload_n 0, 1) := by decide +kernel
theorem dX5_add_66 : decode cX5_add 66 = .ok (.getfield 7, 3) := by decide +kernel
theorem dX5_add_69 : decode cX5_add 69 = .ok (.bipush 48, 2) := by decide +kernel
theorem dX5_add_71 : decode cX5_add 71 = .ok (.iload_n 1, 1) := by decide +kernel
theorem dX5_add_72 : decode cX5_add 72 = .ok (.imul, 1) := by decide +kernel
theorem dX5_add_73 : decode cX5_add 73 = .ok (.iload 5, 2) := by decide +kernel
theorem dX5_add_75 : decode cX5_add 75 = .ok (.iadd, 1) := by decide +kernel
theorem dX5_add_76 : decode cX5_add 76 = .ok (.laload, 1) := by decide +kernel
theorem dX5_add_77 : decode cX5_add 77 = .ok (.lmul, 1) := by decide +kernel
theorem dX5_add_78 : decode cX5_add 78 = .ok (.iload 4, 2) := by decide +kernel
theorem dX5_add_80 : decode cX5_add 80 = .ok (.invokestatic 138, 3) := by decide +kernel
theorem dX5_add_83 : decode cX5_add 83 = .ok (.aload_n 0, 1) := by decide +kernel
theorem dX5_add_84 : decode cX5_add 84 = .ok (.getfield 7, 3) := by decide +kernel
theorem dX5_add_87 : decode cX5_add 87 = .ok (.bipush 48, 2) := by decide +kernel
theorem dX5_add_89 : decode cX5_add 89 = .ok (.iload_n 3, 1) := by decide +kernel
theorem dX5_add_90 : decode cX5_add 90 = .ok (.imul, 1) := by decide +kernel
theorem dX5_add_91 : decode cX5_add 91 = .ok (.iload 5, 2) := by decide +kernel
theorem dX5_add_93 : decode cX5_add 93 = .ok (.iadd, 1) := by decide +kernel
theorem dX5_add_94 : decode cX5_add 94 = .ok (.laload, 1) := by decide +kernel
theorem dX5_add_95 : decode cX5_add 95 = .ok (.lmul, 1) := by decide +kernel
theorem dX5_add_96 : decode cX5_add 96 = .ok (.ladd, 1) := by decide +kernel
theorem dX5_add_97 : decode cX5_add 97 = .ok (.ldc2_w 79, 3) := by decide +kernel
theorem dX5_add_100 : decode cX5_add 100 = .ok (.lrem, 1) := by decide +kernel
theorem dX5_add_101 : decode cX5_add 101 = .ok (.lastore, 1) := by decide +kernel
theorem dX5_add_102 : decode cX5_add 102 = .ok (.iinc 5 1, 3) := by decide +kernel
theorem dX5_add_105 : decode cX5_add 105 = .ok (.goto (-57), 3) := by decide +kernel
theorem dX5_add_108 : decode cX5_add 108 = .ok (.aload_n 0, 1) := by decide +kernel
theorem dX5_add_109 : decode cX5_add 109 = .ok (.aload_n 0, 1) := by decide +kernel
theorem dX5_add_110 : decode cX5_add 110 = .ok (.getfield 17, 3) := by decide +kernel
theorem dX5_add_113 : decode cX5_add 113 = .ok (.iload_n 1, 1) := by decide +kernel
theorem dX5_add_114 : decode cX5_add 114 = .ok (.iaload, 1) := by decide +kernel
theorem dX5_add_115 : decode cX5_add 115 = .ok (.invokevirtual 142, 3) := by decide +kernel
theorem dX5_add_118 : decode cX5_add 118 = .ok (.ireturn, 1) := by decide +kernel
theorem dX5_times_0 : decode cX5_times 0 = .ok (.aload_n 0, 1) := by decide +kernel
theorem dX5_times_1 : decode cX5_times 1 = .ok (.iload_n 1, 1) := by decide +kernel
theorem dX5_times_2 : decode cX5_times 2 = .ok (.invokevirtual 135, 3) := by decide +kernel
theorem dX5_times_5 : decode cX5_times 5 = .ok (.ifCond .eq 11, 3) := by decide +kernel
theorem dX5_times_8 : decode cX5_times 8 = .ok (.aload_n 0, 1) := by decide +kernel
theorem dX5_times_9 : decode cX5_times 9 = .ok (.iload_n 2, 1) := by decide +kernel
theorem dX5_times_10 : decode cX5_times 10 = .ok (.invokevirtual 135, 3) := by decide +kernel
theorem dX5_times_13 : decode cX5_times 13 = .ok (.ifCond .ne 10, 3) := by decide +kernel
theorem dX5_times_16 : decode cX5_times 16 = .ok (.aload_n 0, 1) := by decide +kernel
theorem dX5_times_17 : decode cX5_times 17 = .ok (.bipush (-3), 2) := by decide +kernel
theorem dX5_times_19 : decode cX5_times 19 = .ok (.invokevirtual 114, 3) := by decide +kernel
theorem dX5_times_22 : decode cX5_times 22 = .ok (.ireturn, 1) := by decide +kernel
theorem dX5_times_23 : decode cX5_times 23 = .ok (.aload_n 0, 1) := by decide +kernel
theorem dX5_times_24 : decode cX5_times 24 = .ok (.aload_n 0, 1) := by decide +kernel
theorem dX5_times_25 : decode cX5_times 25 = .ok (.getfield 38, 3) := by decide +kernel
theorem dX5_times_28 : decode cX5_times 28 = .ok (.iload_n 1, 1) := by decide +kernel
theorem dX5_times_29 : decode cX5_times 29 = .ok (.invokevirtual 145, 3) := by decide +kernel
theorem dX5_times_32 : decode cX5_times 32 = .ok (.aload_n 0, 1) := by decide +kernel
theorem dX5_times_33 : decode cX5_times 33 = .ok (.aload_n 0, 1) := by decide +kernel
theorem dX5_times_34 : decode cX5_times 34 = .ok (.getfield 41, 3) := by decide +kernel
theorem dX5_times_37 : decode cX5_times 37 = .ok (.iload_n 2, 1) := by decide +kernel
theorem dX5_times_38 : decode cX5_times 38 = .ok (.invokevirtual 145, 3) := by decide +kernel
theorem dX5_times_41 : decode cX5_times 41 = .ok (.aload_n 0, 1) := by decide +kernel
theorem dX5_times_42 : decode cX5_times 42 = .ok (.aload_n 0, 1) := by decide +kernel
theorem dX5_times_43 : decode cX5_times 43 = .ok (.getfield 38, 3) := by decide +kernel
theorem dX5_times_46 : decode cX5_times 46 = .ok (.aload_n 0, 1) := by decide +kernel
theorem dX5_times_47 : decode cX5_times 47 = .ok (.getfield 41, 3) := by decide +kernel
theorem dX5_times_50 : decode cX5_times 50 = .ok (.invokevirtual 102, 3) := by decide +kernel
theorem dX5_times_53 : decode cX5_times 53 = .ok (.aload_n 0, 1) := by decide +kernel
theorem dX5_times_54 : decode cX5_times 54 = .ok (.aload_n 0, 1) := by decide +kernel
theorem dX5_times_55 : decode cX5_times 55 = .ok (.getfield 17, 3) := by decide +kernel
theorem dX5_times_58 : decode cX5_times 58 = .ok (.iload_n 1, 1) := by decide +kernel
theorem dX5_times_59 : decode cX5_times 59 = .ok (.iaload, 1) := by decide +kernel
theorem dX5_times_60 : decode cX5_times 60 = .ok (.aload_n 0, 1) := by decide +kernel
theorem dX5_times_61 : decode cX5_times 61 = .ok (.getfield 17, 3) := by decide +kernel
theorem dX5_times_64 : decode cX5_times 64 = .ok (.iload_n 2, 1) := by decide +kernel
theorem dX5_times_65 : decode cX5_times 65 = .ok (.iaload, 1) := by decide +kernel
theorem dX5_times_66 : decode cX5_times 66 = .ok (.iadd, 1) := by decide +kernel
theorem dX5_times_67 : decode cX5_times 67 = .ok (.invokevirtual 142, 3) := by decide +kernel
theorem dX5_times_70 : decode cX5_times 70 = .ok (.ireturn, 1) := by decide +kernel
theorem dX5_power_0 : decode cX5_power 0 = .ok (.aload_n 0, 1) := by decide +kernel
theorem dX5_power_1 : decode cX5_power 1 = .ok (.iload_n 1, 1) := by decide +kernel
theorem dX5_power_2 : decode cX5_power 2 = .ok (.invokevirtual 135, 3) := by decide +kernel
theorem dX5_power_5 : decode cX5_power 5 = .ok (.ifCond .ne 10, 3) := by decide +kernel
theorem dX5_power_8 : decode cX5_power 8 = .ok (.aload_n 0, 1) := by decide +kernel
theorem dX5_power_9 : decode cX5_power 9 = .ok (.bipush (-3), 2) := by decide +kernel
theorem dX5_power_11 : decode cX5_power 11 = .ok (.invokevirtual 114, 3) := by decide +kernel
theorem dX5_power_14 : decode cX5_power 14 = .ok (.ireturn, 1) := by decide +kernel
theorem dX5_power_15 : decode cX5_power 15 = .ok (.iload_n 2, 1) := by decide +kernel
theorem dX5_power_16 : decode cX5_power 16 = .ok (.ifCond .ge 10, 3) := by decide +kernel
theorem dX5_power_19 : decode cX5_power 19 = .ok (.aload_n 0, 1) := by decide +kernel
theorem dX5_power_20 : decode cX5_power 20 = .ok (.bipush (-4), 2) := by decide +kernel
theorem dX5_power_22 : decode cX5_power 22 = .ok (.invokevirtual 114, 3) := by decide +kernel
theorem dX5_power_25 : decode cX5_power 25 = .ok (.ireturn, 1) := by decide +kernel
theorem dX5_power_26 : decode cX5_power 26 = .ok (.iload_n 2, 1) := by decide +kernel
theorem dX5_power_27 : decode cX5_power 27 = .ok (.bipush 20, 2) := by decide +kernel
theorem dX5_power_29 : decode cX5_power 29 = .ok (.if_icmp .le 10, 3) := by decide +kernel
theorem dX5_power_32 : decode cX5_power 32 = .ok (.aload_n 0, 1) := by decide +kernel
theorem dX5_power_33 : decode cX5_power 33 = .ok (.bipush (-7), 2) := by decide +kernel
theorem dX5_power_35 : decode cX5_power 35 = .ok (.invokevirtual 114, 3) := by decide +kernel
theorem dX5_power_38 : decode cX5_power 38 = .ok (.ireturn, 1) := by decide +kernel
theorem dX5_power_39 : decode cX5_power 39 = .ok (.aload_n 0, 1) := by decide +kernel
theorem dX5_power_40 : decode cX5_power 40 = .ok (.aload_n 0, 1) := by decide +kernel
theorem dX5_power_41 : decode cX5_power 41 = .ok (.getfield 41, 3) := by decide +kernel
theorem dX5_power_44 : decode cX5_power 44 = .ok (.iload_n 1, 1) := by decide +kernel
theorem dX5_power_45 : decode cX5_power 45 = .ok (.invokevirtual 145, 3) := by decide +kernel
theorem dX5_power_48 : decode cX5_power 48 = .ok (.iconst 0, 1) := by decide +kernel
theorem dX5_power_49 : decode cX5_power 49 = .ok (.istore_n 3, 1) := by decide +kernel
theorem dX5_power_50 : decode cX5_power 50 = .ok (.iload_n 3, 1) := by decide +kernel
theorem dX5_power_51 : decode cX5_power 51 = .ok (.bipush 48, 2) := by decide +kernel
theorem dX5_power_53 : decode cX5_power 53 = .ok (.if_icmp .ge 24, 3) := by decide +kernel
theorem dX5_power_56 : decode cX5_power 56 = .ok (.aload_n 0, 1) := by decide +kernel
theorem dX5_power_57 : decode cX5_power 57 = .ok (.getfield 38, 3) := by decide +kernel
theorem dX5_power_60 : decode cX5_power 60 = .ok (.iload_n 3, 1) := by decide +kernel
theorem dX5_power_61 : decode cX5_power 61 = .ok (.iload_n 3, 1) := by decide +kernel
theorem dX5_power_62 : decode cX5_power 62 = .ok (.ifCond .ne 7, 3) := by decide +kernel
theorem dX5_power_65 : decode cX5_power 65 = .ok (.lconst 1, 1) := by decide +kernel
theorem dX5_power_66 : decode cX5_power 66 = .ok (.goto 4, 3) := by decide +kernel
theorem dX5_power_69 : decode cX5_power 69 = .ok (.lconst 0, 1) := by decide +kernel
theorem dX5_power_70 : decode cX5_power 70 = .ok (.lastore, 1) := by decide +kernel
theorem dX5_power_71 : decode cX5_power 71 = .ok (.iinc 3 1, 3) := by decide +kernel
theorem dX5_power_74 : decode cX5_power 74 = .ok (.goto (-24), 3) := by decide +kernel
theorem dX5_power_77 : decode cX5_power 77 = .ok (.iconst 0, 1) := by decide +kernel
theorem dX5_power_78 : decode cX5_power 78 = .ok (.istore_n 3, 1) := by decide +kernel
theorem dX5_power_79 : decode cX5_power 79 = .ok (.iload_n 3, 1) := by decide +kernel
theorem dX5_power_80 : decode cX5_power 80 = .ok (.iload_n 2, 1) := by decide +kernel
theorem dX5_power_81 : decode cX5_power 81 = .ok (.if_icmp .ge 21, 3) := by decide +kernel
theorem dX5_power_84 : decode cX5_power 84 = .ok (.aload_n 0, 1) := by decide +kernel
theorem dX5_power_85 : decode cX5_power 85 = .ok (.aload_n 0, 1) := by decide +kernel
theorem dX5_power_86 : decode cX5_power 86 = .ok (.getfield 38, 3) := by decide +kernel
theorem dX5_power_89 : decode cX5_power 89 = .ok (.aload_n 0, 1) := by decide +kernel
theorem dX5_power_90 : decode cX5_power 90 = .ok (.getfield 41, 3) := by decide +kernel
theorem dX5_power_93 : decode cX5_power 93 = .ok (.invokevirtual 102, 3) := by decide +kernel
theorem dX5_power_96 : decode cX5_power 96 = .ok (.iinc 3 1, 3) := by decide +kernel
theorem dX5_power_99 : decode cX5_power 99 = .ok (.goto (-20), 3) := by decide +kernel
theorem dX5_power_102 : decode cX5_power 102 = .ok (.aload_n 0, 1) := by decide +kernel
theorem dX5_power_103 : decode cX5_power 103 = .ok (.iload_n 2, 1) := by decide +kernel
theorem dX5_power_104 : decode cX5_power 104 = .ok (.aload_n 0, 1) := by decide +kernel
theorem dX5_power_105 : decode cX5_power 105 = .ok (.getfield 17, 3) := by decide +kernel
theorem dX5_power_108 : decode cX5_power 108 = .ok (.iload_n 1, 1) := by decide +kernel
theorem dX5_power_109 : decode cX5_power 109 = .ok (.iaload, 1) := by decide +kernel
theorem dX5_power_110 : decode cX5_power 110 = .ok (.imul, 1) := by decide +kernel
theorem dX5_power_111 : decode cX5_power 111 = .ok (.invokevirtual 142, 3) := by decide +kernel
theorem dX5_power_114 : decode cX5_power 114 = .ok (.ireturn, 1) := by decide +kernel
theorem dX5_slope_0 : decode cX5_slope 0 = .ok (.aload_n 0, 1) := by decide +kernel
theorem dX5_slope_1 : decode cX5_slope 1 = .ok (.iload_n 1, 1) := by decide +kernel
theorem dX5_slope_2 : decode cX5_slope 2 = .ok (.invokevirtual 135, 3) := by decide +kernel
theorem dX5_slope_5 : decode cX5_slope 5 = .ok (.ifCond .ne 10, 3) := by decide +kernel
theorem dX5_slope_8 : decode cX5_slope 8 = .ok (.aload_n 0, 1) := by decide +kernel
theorem dX5_slope_9 : decode cX5_slope 9 = .ok (.bipush (-3), 2) := by decide +kernel
theorem dX5_slope_11 : decode cX5_slope 11 = .ok (.invokevirtual 114, 3) := by decide +kernel
theorem dX5_slope_14 : decode cX5_slope 14 = .ok (.ireturn, 1) := by decide +kernel
theorem dX5_slope_15 : decode cX5_slope 15 = .ok (.aload_n 0, 1) := by decide +kernel
theorem dX5_slope_16 : decode cX5_slope 16 = .ok (.aload_n 0, 1) := by decide +kernel
theorem dX5_slope_17 : decode cX5_slope 17 = .ok (.getfield 38, 3) := by decide +kernel
theorem dX5_slope_20 : decode cX5_slope 20 = .ok (.iload_n 1, 1) := by decide +kernel
theorem dX5_slope_21 : decode cX5_slope 21 = .ok (.invokevirtual 145, 3) := by decide +kernel
theorem dX5_slope_24 : decode cX5_slope 24 = .ok (.aload_n 0, 1) := by decide +kernel
theorem dX5_slope_25 : decode cX5_slope 25 = .ok (.aload_n 0, 1) := by decide +kernel
theorem dX5_slope_26 : decode cX5_slope 26 = .ok (.getfield 38, 3) := by decide +kernel
theorem dX5_slope_29 : decode cX5_slope 29 = .ok (.aload_n 0, 1) := by decide +kernel
theorem dX5_slope_30 : decode cX5_slope 30 = .ok (.getfield 26, 3) := by decide +kernel
theorem dX5_slope_33 : decode cX5_slope 33 = .ok (.invokevirtual 102, 3) := by decide +kernel
theorem dX5_slope_36 : decode cX5_slope 36 = .ok (.aload_n 0, 1) := by decide +kernel
theorem dX5_slope_37 : decode cX5_slope 37 = .ok (.getfield 17, 3) := by decide +kernel
theorem dX5_slope_40 : decode cX5_slope 40 = .ok (.iload_n 1, 1) := by decide +kernel
theorem dX5_slope_41 : decode cX5_slope 41 = .ok (.iaload, 1) := by decide +kernel
theorem dX5_slope_42 : decode cX5_slope 42 = .ok (.i2l, 1) := by decide +kernel
theorem dX5_slope_43 : decode cX5_slope 43 = .ok (.ldc2_w 149, 3) := by decide +kernel
theorem dX5_slope_46 : decode cX5_slope 46 = .ok (.invokestatic 129, 3) := by decide +kernel
theorem dX5_slope_49 : decode cX5_slope 49 = .ok (.lmul, 1) := by decide +kernel
theorem dX5_slope_50 : decode cX5_slope 50 = .ok (.ldc2_w 79, 3) := by decide +kernel
theorem dX5_slope_53 : decode cX5_slope 53 = .ok (.lrem, 1) := by decide +kernel
theorem dX5_slope_54 : decode cX5_slope 54 = .ok (.lstore_n 2, 1) := by decide +kernel
theorem dX5_slope_55 : decode cX5_slope 55 = .ok (.iconst 0, 1) := by decide +kernel
theorem dX5_slope_56 : decode cX5_slope 56 = .ok (.istore 4, 2) := by decide +kernel
theorem dX5_slope_58 : decode cX5_slope 58 = .ok (.iload 4, 2) := by decide +kernel
theorem dX5_slope_60 : decode cX5_slope 60 = .ok (.bipush 48, 2) := by decide +kernel
theorem dX5_slope_62 : decode cX5_slope 62 = .ok (.if_icmp .ge 50, 3) := by decide +kernel
theorem dX5_slope_65 : decode cX5_slope 65 = .ok (.aload_n 0, 1) := by decide +kernel
theorem dX5_slope_66 : decode cX5_slope 66 = .ok (.getfield 38, 3) := by decide +kernel
theorem dX5_slope_69 : decode cX5_slope 69 = .ok (.iload 4, 2) := by decide +kernel
theorem dX5_slope_71 : decode cX5_slope 71 = .ok (.iload 4, 2) := by decide +kernel
theorem dX5_slope_73 : decode cX5_slope 73 = .ok (.i2l, 1) := by decide +kernel
theorem dX5_slope_74 : decode cX5_slope 74 = .ok (.aload_n 0, 1) := by decide +kernel
theorem dX5_slope_75 : decode cX5_slope 75 = .ok (.getfield 7, 3) := by decide +kernel
theorem dX5_slope_78 : decode cX5_slope 78 = .ok (.bipush 48, 2) := by decide +kernel
theorem dX5_slope_80 : decode cX5_slope 80 = .ok (.iload_n 1, 1) := by decide +kernel
theorem dX5_slope_81 : decode cX5_slope 81 = .ok (.imul, 1) := by decide +kernel
theorem dX5_slope_82 : decode cX5_slope 82 = .ok (.iload 4, 2) := by decide +kernel
theorem dX5_slope_84 : decode cX5_slope 84 = .ok (.iadd, 1) := by decide +kernel
theorem dX5_slope_85 : decode cX5_slope 85 = .ok (.laload, 1) := by decide +kernel
theorem dX5_slope_86 : decode cX5_slope 86 = .ok (.lmul, 1) := by decide +kernel
theorem dX5_slope_87 : decode cX5_slope 87 = .ok (.ldc2_w 79, 3) := by decide +kernel
theorem dX5_slope_90 : decode cX5_slope 90 = .ok (.lload_n 2, 1) := by decide +kernel
theorem dX5_slope_91 : decode cX5_slope 91 = .ok (.lsub, 1) := by decide +kernel
theorem dX5_slope_92 : decode cX5_slope 92 = .ok (.aload_n 0, 1) := by decide +kernel
theorem dX5_slope_93 : decode cX5_slope 93 = .ok (.getfield 38, 3) := by decide +kernel
theorem dX5_slope_96 : decode cX5_slope 96 = .ok (.iload 4, 2) := by decide +kernel
theorem dX5_slope_98 : decode cX5_slope 98 = .ok (.laload, 1) := by decide +kernel
theorem dX5_slope_99 : decode cX5_slope 99 = .ok (.lmul, 1) := by decide +kernel
theorem dX5_slope_100 : decode cX5_slope 100 = .ok (.ladd, 1) := by decide +kernel
theorem dX5_slope_101 : decode cX5_slope 101 = .ok (.ldc2_w 79, 3) := by decide +kernel
theorem dX5_slope_104 : decode cX5_slope 104 = .ok (.lrem, 1) := by decide +kernel
theorem dX5_slope_105 : decode cX5_slope 105 = .ok (.lastore, 1) := by decide +kernel
theorem dX5_slope_106 : decode cX5_slope 106 = .ok (.iinc 4 1, 3) := by decide +kernel
theorem dX5_slope_109 : decode cX5_slope 109 = .ok (.goto (-51), 3) := by decide +kernel
theorem dX5_slope_112 : decode cX5_slope 112 = .ok (.aload_n 0, 1) := by decide +kernel
theorem dX5_slope_113 : decode cX5_slope 113 = .ok (.aload_n 0, 1) := by decide +kernel
theorem dX5_slope_114 : decode cX5_slope 114 = .ok (.getfield 17, 3) := by decide +kernel
theorem dX5_slope_117 : decode cX5_slope 117 = .ok (.iload_n 1, 1) := by decide +kernel
theorem dX5_slope_118 : decode cX5_slope 118 = .ok (.iaload, 1) := by decide +kernel
theorem dX5_slope_119 : decode cX5_slope 119 = .ok (.iconst 2, 1) := by decide +kernel
theorem dX5_slope_120 : decode cX5_slope 120 = .ok (.iadd, 1) := by decide +kernel
theorem dX5_slope_121 : decode cX5_slope 121 = .ok (.invokevirtual 142, 3) := by decide +kernel
theorem dX5_slope_124 : decode cX5_slope 124 = .ok (.ireturn, 1) := by decide +kernel
theorem dX5_bracket_0 : decode cX5_bracket 0 = .ok (.aload_n 0, 1) := by decide +kernel
theorem dX5_bracket_1 : decode cX5_bracket 1 = .ok (.iload_n 1, 1) := by decide +kernel
theorem dX5_bracket_2 : decode cX5_bracket 2 = .ok (.invokevirtual 135, 3) := by decide +kernel
theorem dX5_bracket_5 : decode cX5_bracket 5 = .ok (.ifCond .eq 11, 3) := by decide +kernel
theorem dX5_bracket_8 : decode cX5_bracket 8 = .ok (.aload_n 0, 1) := by decide +kernel
theorem dX5_bracket_9 : decode cX5_bracket 9 = .ok (.iload_n 2, 1) := by decide +kernel
theorem dX5_bracket_10 : decode cX5_bracket 10 = .ok (.invokevirtual 135, 3) := by decide +kernel
theorem dX5_bracket_13 : decode cX5_bracket 13 = .ok (.ifCond .ne 10, 3) := by decide +kernel
theorem dX5_bracket_16 : decode cX5_bracket 16 = .ok (.aload_n 0, 1) := by decide +kernel
theorem dX5_bracket_17 : decode cX5_bracket 17 = .ok (.bipush (-3), 2) := by decide +kernel
theorem dX5_bracket_19 : decode cX5_bracket 19 = .ok (.invokevirtual 114, 3) := by decide +kernel
theorem dX5_bracket_22 : decode cX5_bracket 22 = .ok (.ireturn, 1) := by decide +kernel
theorem dX5_bracket_23 : decode cX5_bracket 23 = .ok (.iconst 0, 1) := by decide +kernel
theorem dX5_bracket_24 : decode cX5_bracket 24 = .ok (.istore_n 3, 1) := by decide +kernel
theorem dX5_bracket_25 : decode cX5_bracket 25 = .ok (.iload_n 3, 1) := by decide +kernel
theorem dX5_bracket_26 : decode cX5_bracket 26 = .ok (.bipush 48, 2) := by decide +kernel
theorem dX5_bracket_28 : decode cX5_bracket 28 = .ok (.if_icmp .ge 50, 3) := by decide +kernel
theorem dX5_bracket_31 : decode cX5_bracket 31 = .ok (.aload_n 0, 1) := by decide +kernel
theorem dX5_bracket_32 : decode cX5_bracket 32 = .ok (.getfield 50, 3) := by decide +kernel
theorem dX5_bracket_35 : decode cX5_bracket 35 = .ok (.iload_n 3, 1) := by decide +kernel
theorem dX5_bracket_36 : decode cX5_bracket 36 = .ok (.aload_n 0, 1) := by decide +kernel
theorem dX5_bracket_37 : decode cX5_bracket 37 = .ok (.getfield 7, 3) := by decide +kernel
theorem dX5_bracket_40 : decode cX5_bracket 40 = .ok (.bipush 48, 2) := by decide +kernel
theorem dX5_bracket_42 : decode cX5_bracket 42 = .ok (.iload_n 1, 1) := by decide +kernel
theorem dX5_bracket_43 : decode cX5_bracket 43 = .ok (.imul, 1) := by decide +kernel
theorem dX5_bracket_44 : decode cX5_bracket 44 = .ok (.iload_n 3, 1) := by decide +kernel
theorem dX5_bracket_45 : decode cX5_bracket 45 = .ok (.iadd, 1) := by decide +kernel
theorem dX5_bracket_46 : decode cX5_bracket 46 = .ok (.laload, 1) := by decide +kernel
theorem dX5_bracket_47 : decode cX5_bracket 47 = .ok (.lastore, 1) := by decide +kernel
theorem dX5_bracket_48 : decode cX5_bracket 48 = .ok (.aload_n 0, 1) := by decide +kernel
theorem dX5_bracket_49 : decode cX5_bracket 49 = .ok (.getfield 41, 3) := by decide +kernel
theorem dX5_bracket_52 : decode cX5_bracket 52 = .ok (.iload_n 3, 1) := by decide +kernel
theorem dX5_bracket_53 : decode cX5_bracket 53 = .ok (.iload_n 3, 1) := by decide +kernel
theorem dX5_bracket_54 : decode cX5_bracket 54 = .ok (.i2l, 1) := by decide +kernel
theorem dX5_bracket_55 : decode cX5_bracket 55 = .ok (.aload_n 0, 1) := by decide +kernel
theorem dX5_bracket_56 : decode cX5_bracket 56 = .ok (.getfield 7, 3) := by decide +kernel
theorem dX5_bracket_59 : decode cX5_bracket 59 = .ok (.bipush 48, 2) := by decide +kernel
theorem dX5_bracket_61 : decode cX5_bracket 61 = .ok (.iload_n 2, 1) := by decide +kernel
theorem dX5_bracket_62 : decode cX5_bracket 62 = .ok (.imul, 1) := by decide +kernel
theorem dX5_bracket_63 : decode cX5_bracket 63 = .ok (.iload_n 3, 1) := by decide +kernel
theorem dX5_bracket_64 : decode cX5_bracket 64 = .ok (.iadd, 1) := by decide +kernel
theorem dX5_bracket_65 : decode cX5_bracket 65 = .ok (.laload, 1) := by decide +kernel
theorem dX5_bracket_66 : decode cX5_bracket 66 = .ok (.lmul, 1) := by decide +kernel
theorem dX5_bracket_67 : decode cX5_bracket 67 = .ok (.ldc2_w 79, 3) := by decide +kernel
theorem dX5_bracket_70 : decode cX5_bracket 70 = .ok (.lrem, 1) := by decide +kernel
theorem dX5_bracket_71 : decode cX5_bracket 71 = .ok (.lastore, 1) := by decide +kernel
theorem dX5_bracket_72 : decode cX5_bracket 72 = .ok (.iinc 3 1, 3) := by decide +kernel
theorem dX5_bracket_75 : decode cX5_bracket 75 = .ok (.goto (-50), 3) := by decide +kernel
theorem dX5_bracket_78 : decode cX5_bracket 78 = .ok (.aload_n 0, 1) := by decide +kernel
theorem dX5_bracket_79 : decode cX5_bracket 79 = .ok (.aload_n 0, 1) := by decide +kernel
theorem dX5_bracket_80 : decode cX5_bracket 80 = .ok (.getfield 50, 3) := by decide +kernel
theorem dX5_bracket_83 : decode cX5_bracket 83 = .ok (.aload_n 0, 1) := by decide +kernel
theorem dX5_bracket_84 : decode cX5_bracket 84 = .ok (.getfield 41, 3) := by decide +kernel
theorem dX5_bracket_87 : decode cX5_bracket 87 = .ok (.invokevirtual 102, 3) := by decide +kernel
theorem dX5_bracket_90 : decode cX5_bracket 90 = .ok (.iconst 0, 1) := by decide +kernel
theorem dX5_bracket_91 : decode cX5_bracket 91 = .ok (.istore_n 3, 1) := by decide +kernel
theorem dX5_bracket_92 : decode cX5_bracket 92 = .ok (.iload_n 3, 1) := by decide +kernel
theorem dX5_bracket_93 : decode cX5_bracket 93 = .ok (.bipush 48, 2) := by decide +kernel
theorem dX5_bracket_95 : decode cX5_bracket 95 = .ok (.if_icmp .ge 50, 3) := by decide +kernel
theorem dX5_bracket_98 : decode cX5_bracket 98 = .ok (.aload_n 0, 1) := by decide +kernel
theorem dX5_bracket_99 : decode cX5_bracket 99 = .ok (.getfield 38, 3) := by decide +kernel
theorem dX5_bracket_102 : decode cX5_bracket 102 = .ok (.iload_n 3, 1) := by decide +kernel
theorem dX5_bracket_103 : decode cX5_bracket 103 = .ok (.iload_n 3, 1) := by decide +kernel
theorem dX5_bracket_104 : decode cX5_bracket 104 = .ok (.i2l, 1) := by decide +kernel
theorem dX5_bracket_105 : decode cX5_bracket 105 = .ok (.aload_n 0, 1) := by decide +kernel
theorem dX5_bracket_106 : decode cX5_bracket 106 = .ok (.getfield 7, 3) := by decide +kernel
theorem dX5_bracket_109 : decode cX5_bracket 109 = .ok (.bipush 48, 2) := by decide +kernel
theorem dX5_bracket_111 : decode cX5_bracket 111 = .ok (.iload_n 1, 1) := by decide +kernel
theorem dX5_bracket_112 : decode cX5_bracket 112 = .ok (.imul, 1) := by decide +kernel
theorem dX5_bracket_113 : decode cX5_bracket 113 = .ok (.iload_n 3, 1) := by decide +kernel
theorem dX5_bracket_114 : decode cX5_bracket 114 = .ok (.iadd, 1) := by decide +kernel
theorem dX5_bracket_115 : decode cX5_bracket 115 = .ok (.laload, 1) := by decide +kernel
theorem dX5_bracket_116 : decode cX5_bracket 116 = .ok (.lmul, 1) := by decide +kernel
theorem dX5_bracket_117 : decode cX5_bracket 117 = .ok (.ldc2_w 79, 3) := by decide +kernel
theorem dX5_bracket_120 : decode cX5_bracket 120 = .ok (.lrem, 1) := by decide +kernel
theorem dX5_bracket_121 : decode cX5_bracket 121 = .ok (.lastore, 1) := by decide +kernel
theorem dX5_bracket_122 : decode cX5_bracket 122 = .ok (.aload_n 0, 1) := by decide +kernel
theorem dX5_bracket_123 : decode cX5_bracket 123 = .ok (.getfield 41, 3) := by decide +kernel
theorem dX5_bracket_126 : decode cX5_bracket 126 = .ok (.iload_n 3, 1) := by decide +kernel
theorem dX5_bracket_127 : decode cX5_bracket 127 = .ok (.aload_n 0, 1) := by decide +kernel
theorem dX5_bracket_128 : decode cX5_bracket 128 = .ok (.getfield 7, 3) := by decide +kernel
theorem dX5_bracket_131 : decode cX5_bracket 131 = .ok (.bipush 48, 2) := by decide +kernel
theorem dX5_bracket_133 : decode cX5_bracket 133 = .ok (.iload_n 2, 1) := by decide +kernel
theorem dX5_bracket_134 : decode cX5_bracket 134 = .ok (.imul, 1) := by decide +kernel
theorem dX5_bracket_135 : decode cX5_bracket 135 = .ok (.iload_n 3, 1) := by decide +kernel
theorem dX5_bracket_136 : decode cX5_bracket 136 = .ok (.iadd, 1) := by decide +kernel
theorem dX5_bracket_137 : decode cX5_bracket 137 = .ok (.laload, 1) := by decide +kernel
theorem dX5_bracket_138 : decode cX5_bracket 138 = .ok (.lastore, 1) := by decide +kernel
theorem dX5_bracket_139 : decode cX5_bracket 139 = .ok (.iinc 3 1, 3) := by decide +kernel
theorem dX5_bracket_142 : decode cX5_bracket 142 = .ok (.goto (-50), 3) := by decide +kernel
theorem dX5_bracket_145 : decode cX5_bracket 145 = .ok (.aload_n 0, 1) := by decide +kernel
theorem dX5_bracket_146 : decode cX5_bracket 146 = .ok (.aload_n 0, 1) := by decide +kernel
theorem dX5_bracket_147 : decode cX5_bracket 147 = .ok (.getfield 38, 3) := by decide +kernel
theorem dX5_bracket_150 : decode cX5_bracket 150 = .ok (.aload_n 0, 1) := by decide +kernel
theorem dX5_bracket_151 : decode cX5_bracket 151 = .ok (.getfield 41, 3) := by decide +kernel
theorem dX5_bracket_154 : decode cX5_bracket 154 = .ok (.invokevirtual 102, 3) := by decide +kernel
theorem dX5_bracket_157 : decode cX5_bracket 157 = .ok (.iconst 0, 1) := by decide +kernel
theorem dX5_bracket_158 : decode cX5_bracket 158 = .ok (.istore_n 3, 1) := by decide +kernel
theorem dX5_bracket_159 : decode cX5_bracket 159 = .ok (.iload_n 3, 1) := by decide +kernel
theorem dX5_bracket_160 : decode cX5_bracket 160 = .ok (.bipush 48, 2) := by decide +kernel
theorem dX5_bracket_162 : decode cX5_bracket 162 = .ok (.if_icmp .ge 52, 3) := by decide +kernel
theorem dX5_bracket_165 : decode cX5_bracket 165 = .ok (.aload_n 0, 1) := by decide +kernel
theorem dX5_bracket_166 : decode cX5_bracket 166 = .ok (.getfield 38, 3) := by decide +kernel
theorem dX5_bracket_169 : decode cX5_bracket 169 = .ok (.iload_n 3, 1) := by decide +kernel
theorem dX5_bracket_170 : decode cX5_bracket 170 = .ok (.aload_n 0, 1) := by decide +kernel
theorem dX5_bracket_171 : decode cX5_bracket 171 = .ok (.getfield 17, 3) := by decide +kernel
theorem dX5_bracket_174 : decode cX5_bracket 174 = .ok (.iload_n 1, 1) := by decide +kernel
theorem dX5_bracket_175 : decode cX5_bracket 175 = .ok (.iaload, 1) := by decide +kernel
theorem dX5_bracket_176 : decode cX5_bracket 176 = .ok (.i2l, 1) := by decide +kernel
theorem dX5_bracket_177 : decode cX5_bracket 177 = .ok (.aload_n 0, 1) := by decide +kernel
theorem dX5_bracket_178 : decode cX5_bracket 178 = .ok (.getfield 50, 3) := by decide +kernel
theorem dX5_bracket_181 : decode cX5_bracket 181 = .ok (.iload_n 3, 1) := by decide +kernel
theorem dX5_bracket_182 : decode cX5_bracket 182 = .ok (.laload, 1) := by decide +kernel
theorem dX5_bracket_183 : decode cX5_bracket 183 = .ok (.lmul, 1) := by decide +kernel
theorem dX5_bracket_184 : decode cX5_bracket 184 = .ok (.ldc2_w 79, 3) := by decide +kernel
theorem dX5_bracket_187 : decode cX5_bracket 187 = .ok (.aload_n 0, 1) := by decide +kernel
theorem dX5_bracket_188 : decode cX5_bracket 188 = .ok (.getfield 17, 3) := by decide +kernel
theorem dX5_bracket_191 : decode cX5_bracket 191 = .ok (.iload_n 2, 1) := by decide +kernel
theorem dX5_bracket_192 : decode cX5_bracket 192 = .ok (.iaload, 1) := by decide +kernel
theorem dX5_bracket_193 : decode cX5_bracket 193 = .ok (.i2l, 1) := by decide +kernel
theorem dX5_bracket_194 : decode cX5_bracket 194 = .ok (.lsub, 1) := by decide +kernel
theorem dX5_bracket_195 : decode cX5_bracket 195 = .ok (.aload_n 0, 1) := by decide +kernel
theorem dX5_bracket_196 : decode cX5_bracket 196 = .ok (.getfield 38, 3) := by decide +kernel
theorem dX5_bracket_199 : decode cX5_bracket 199 = .ok (.iload_n 3, 1) := by decide +kernel
theorem dX5_bracket_200 : decode cX5_bracket 200 = .ok (.laload, 1) := by decide +kernel
theorem dX5_bracket_201 : decode cX5_bracket 201 = .ok (.lmul, 1) := by decide +kernel
theorem dX5_bracket_202 : decode cX5_bracket 202 = .ok (.ladd, 1) := by decide +kernel
theorem dX5_bracket_203 : decode cX5_bracket 203 = .ok (.ldc2_w 79, 3) := by decide +kernel
theorem dX5_bracket_206 : decode cX5_bracket 206 = .ok (.lrem, 1) := by decide +kernel
theorem dX5_bracket_207 : decode cX5_bracket 207 = .ok (.lastore, 1) := by decide +kernel
theorem dX5_bracket_208 : decode cX5_bracket 208 = .ok (.iinc 3 1, 3) := by decide +kernel
theorem dX5_bracket_211 : decode cX5_bracket 211 = .ok (.goto (-52), 3) := by decide +kernel
theorem dX5_bracket_214 : decode cX5_bracket 214 = .ok (.aload_n 0, 1) := by decide +kernel
theorem dX5_bracket_215 : decode cX5_bracket 215 = .ok (.aload_n 0, 1) := by decide +kernel
theorem dX5_bracket_216 : decode cX5_bracket 216 = .ok (.getfield 17, 3) := by decide +kernel
theorem dX5_bracket_219 : decode cX5_bracket 219 = .ok (.iload_n 1, 1) := by decide +kernel
theorem dX5_bracket_220 : decode cX5_bracket 220 = .ok (.iaload, 1) := by decide +kernel
theorem dX5_bracket_221 : decode cX5_bracket 221 = .ok (.aload_n 0, 1) := by decide +kernel
theorem dX5_bracket_222 : decode cX5_bracket 222 = .ok (.getfield 17, 3) := by decide +kernel
theorem dX5_bracket_225 : decode cX5_bracket 225 = .ok (.iload_n 2, 1) := by decide +kernel
theorem dX5_bracket_226 : decode cX5_bracket 226 = .ok (.iaload, 1) := by decide +kernel
theorem dX5_bracket_227 : decode cX5_bracket 227 = .ok (.iadd, 1) := by decide +kernel
theorem dX5_bracket_228 : decode cX5_bracket 228 = .ok (.iconst 2, 1) := by decide +kernel
theorem dX5_bracket_229 : decode cX5_bracket 229 = .ok (.iadd, 1) := by decide +kernel
theorem dX5_bracket_230 : decode cX5_bracket 230 = .ok (.invokevirtual 142, 3) := by decide +kernel
theorem dX5_bracket_233 : decode cX5_bracket 233 = .ok (.ireturn, 1) := by decide +kernel
theorem dX5_over_0 : decode cX5_over 0 = .ok (.aload_n 0, 1) := by decide +kernel
theorem dX5_over_1 : decode cX5_over 1 = .ok (.iload_n 1, 1) := by decide +kernel
theorem dX5_over_2 : decode cX5_over 2 = .ok (.invokevirtual 135, 3) := by decide +kernel
theorem dX5_over_5 : decode cX5_over 5 = .ok (.ifCond .ne 10, 3) := by decide +kernel
theorem dX5_over_8 : decode cX5_over 8 = .ok (.aload_n 0, 1) := by decide +kernel
theorem dX5_over_9 : decode cX5_over 9 = .ok (.bipush (-3), 2) := by decide +kernel
theorem dX5_over_11 : decode cX5_over 11 = .ok (.invokevirtual 114, 3) := by decide +kernel
theorem dX5_over_14 : decode cX5_over 14 = .ok (.ireturn, 1) := by decide +kernel
theorem dX5_over_15 : decode cX5_over 15 = .ok (.aload_n 0, 1) := by decide +kernel
theorem dX5_over_16 : decode cX5_over 16 = .ok (.getfield 17, 3) := by decide +kernel
theorem dX5_over_19 : decode cX5_over 19 = .ok (.iload_n 1, 1) := by decide +kernel
theorem dX5_over_20 : decode cX5_over 20 = .ok (.iaload, 1) := by decide +kernel
theorem dX5_over_21 : decode cX5_over 21 = .ok (.bipush 12, 2) := by decide +kernel
theorem dX5_over_23 : decode cX5_over 23 = .ok (.if_icmp .lt 17, 3) := by decide +kernel
theorem dX5_over_26 : decode cX5_over 26 = .ok (.aload_n 0, 1) := by decide +kernel
theorem dX5_over_27 : decode cX5_over 27 = .ok (.getfield 7, 3) := by decide +kernel
theorem dX5_over_30 : decode cX5_over 30 = .ok (.bipush 48, 2) := by decide +kernel
theorem dX5_over_32 : decode cX5_over 32 = .ok (.iload_n 1, 1) := by decide +kernel
theorem dX5_over_33 : decode cX5_over 33 = .ok (.imul, 1) := by decide +kernel
theorem dX5_over_34 : decode cX5_over 34 = .ok (.laload, 1) := by decide +kernel
theorem dX5_over_35 : decode cX5_over 35 = .ok (.lconst 0, 1) := by decide +kernel
theorem dX5_over_36 : decode cX5_over 36 = .ok (.lcmp, 1) := by decide +kernel
theorem dX5_over_37 : decode cX5_over 37 = .ok (.ifCond .eq 10, 3) := by decide +kernel
theorem dX5_over_40 : decode cX5_over 40 = .ok (.aload_n 0, 1) := by decide +kernel
theorem dX5_over_41 : decode cX5_over 41 = .ok (.bipush (-7), 2) := by decide +kernel
theorem dX5_over_43 : decode cX5_over 43 = .ok (.invokevirtual 114, 3) := by decide +kernel
theorem dX5_over_46 : decode cX5_over 46 = .ok (.ireturn, 1) := by decide +kernel
theorem dX5_over_47 : decode cX5_over 47 = .ok (.aload_n 0, 1) := by decide +kernel
theorem dX5_over_48 : decode cX5_over 48 = .ok (.aload_n 0, 1) := by decide +kernel
theorem dX5_over_49 : decode cX5_over 49 = .ok (.getfield 50, 3) := by decide +kernel
theorem dX5_over_52 : decode cX5_over 52 = .ok (.iload_n 1, 1) := by decide +kernel
theorem dX5_over_53 : decode cX5_over 53 = .ok (.invokevirtual 145, 3) := by decide +kernel
theorem dX5_over_56 : decode cX5_over 56 = .ok (.aload_n 0, 1) := by decide +kernel
theorem dX5_over_57 : decode cX5_over 57 = .ok (.aload_n 0, 1) := by decide +kernel
theorem dX5_over_58 : decode cX5_over 58 = .ok (.getfield 50, 3) := by decide +kernel
theorem dX5_over_61 : decode cX5_over 61 = .ok (.aload_n 0, 1) := by decide +kernel
theorem dX5_over_62 : decode cX5_over 62 = .ok (.getfield 17, 3) := by decide +kernel
theorem dX5_over_65 : decode cX5_over 65 = .ok (.iload_n 1, 1) := by decide +kernel
theorem dX5_over_66 : decode cX5_over 66 = .ok (.iaload, 1) := by decide +kernel
theorem dX5_over_67 : decode cX5_over 67 = .ok (.invokevirtual 151, 3) := by decide +kernel
theorem dX5_over_70 : decode cX5_over 70 = .ok (.aload_n 0, 1) := by decide +kernel
theorem dX5_over_71 : decode cX5_over 71 = .ok (.aload_n 0, 1) := by decide +kernel
theorem dX5_over_72 : decode cX5_over 72 = .ok (.getfield 17, 3) := by decide +kernel
theorem dX5_over_75 : decode cX5_over 75 = .ok (.iload_n 1, 1) := by decide +kernel
theorem dX5_over_76 : decode cX5_over 76 = .ok (.iaload, 1) := by decide +kernel
theorem dX5_over_77 : decode cX5_over 77 = .ok (.bipush 12, 2) := by decide +kernel
theorem dX5_over_79 : decode cX5_over 79 = .ok (.isub, 1) := by decide +kernel
theorem dX5_over_80 : decode cX5_over 80 = .ok (.iconst 1, 1) := by decide +kernel
theorem dX5_over_81 : decode cX5_over 81 = .ok (.invokevirtual 154, 3) := by decide +kernel
theorem dX5_over_84 : decode cX5_over 84 = .ok (.aload_n 0, 1) := by decide +kernel
theorem dX5_over_85 : decode cX5_over 85 = .ok (.aload_n 0, 1) := by decide +kernel
theorem dX5_over_86 : decode cX5_over 86 = .ok (.getfield 17, 3) := by decide +kernel
theorem dX5_over_89 : decode cX5_over 89 = .ok (.iload_n 1, 1) := by decide +kernel
theorem dX5_over_90 : decode cX5_over 90 = .ok (.iaload, 1) := by decide +kernel
theorem dX5_over_91 : decode cX5_over 91 = .ok (.bipush 12, 2) := by decide +kernel
theorem dX5_over_93 : decode cX5_over 93 = .ok (.isub, 1) := by decide +kernel
theorem dX5_over_94 : decode cX5_over 94 = .ok (.invokevirtual 142, 3) := by decide +kernel
theorem dX5_over_97 : decode cX5_over 97 = .ok (.ireturn, 1) := by decide +kernel
theorem dX5_isPrime_0 : decode cX5_isPrime 0 = .ok (.iload_n 0, 1) := by decide +kernel
theorem dX5_isPrime_1 : decode cX5_isPrime 1 = .ok (.iconst 2, 1) := by decide +kernel
theorem dX5_isPrime_2 : decode cX5_isPrime 2 = .ok (.if_icmp .eq 25, 3) := by decide +kernel
theorem dX5_isPrime_5 : decode cX5_isPrime 5 = .ok (.iload_n 0, 1) := by decide +kernel
theorem dX5_isPrime_6 : decode cX5_isPrime 6 = .ok (.iconst 3, 1) := by decide +kernel
theorem dX5_isPrime_7 : decode cX5_isPrime 7 = .ok (.if_icmp .eq 20, 3) := by decide +kernel
theorem dX5_isPrime_10 : decode cX5_isPrime 10 = .ok (.iload_n 0, 1) := by decide +kernel
theorem dX5_isPrime_11 : decode cX5_isPrime 11 = .ok (.iconst 5, 1) := by decide +kernel
theorem dX5_isPrime_12 : decode cX5_isPrime 12 = .ok (.if_icmp .eq 15, 3) := by decide +kernel
theorem dX5_isPrime_15 : decode cX5_isPrime 15 = .ok (.iload_n 0, 1) := by decide +kernel
theorem dX5_isPrime_16 : decode cX5_isPrime 16 = .ok (.bipush 7, 2) := by decide +kernel
theorem dX5_isPrime_18 : decode cX5_isPrime 18 = .ok (.if_icmp .eq 9, 3) := by decide +kernel
theorem dX5_isPrime_21 : decode cX5_isPrime 21 = .ok (.iload_n 0, 1) := by decide +kernel
theorem dX5_isPrime_22 : decode cX5_isPrime 22 = .ok (.bipush 11, 2) := by decide +kernel
theorem dX5_isPrime_24 : decode cX5_isPrime 24 = .ok (.if_icmp .ne 7, 3) := by decide +kernel
theorem dX5_isPrime_27 : decode cX5_isPrime 27 = .ok (.iconst 1, 1) := by decide +kernel
theorem dX5_isPrime_28 : decode cX5_isPrime 28 = .ok (.goto 4, 3) := by decide +kernel
theorem dX5_isPrime_31 : decode cX5_isPrime 31 = .ok (.iconst 0, 1) := by decide +kernel
theorem dX5_isPrime_32 : decode cX5_isPrime 32 = .ok (.ireturn, 1) := by decide +kernel
theorem dX5_doesTo_0 : decode cX5_doesTo 0 = .ok (.iload_n 1, 1) := by decide +kernel
theorem dX5_doesTo_1 : decode cX5_doesTo 1 = .ok (.invokestatic 106, 3) := by decide +kernel
theorem dX5_doesTo_4 : decode cX5_doesTo 4 = .ok (.istore_n 3, 1) := by decide +kernel
theorem dX5_doesTo_5 : decode cX5_doesTo 5 = .ok (.iconst 0, 1) := by decide +kernel
theorem dX5_doesTo_6 : decode cX5_doesTo 6 = .ok (.istore 4, 2) := by decide +kernel
theorem dX5_doesTo_8 : decode cX5_doesTo 8 = .ok (.iload 4, 2) := by decide +kernel
theorem dX5_doesTo_10 : decode cX5_doesTo 10 = .ok (.iload_n 3, 1) := by decide +kernel
theorem dX5_doesTo_11 : decode cX5_doesTo 11 = .ok (.if_icmp .ge 59, 3) := by decide +kernel
theorem dX5_doesTo_14 : decode cX5_doesTo 14 = .ok (.aload_n 0, 1) := by decide +kernel
theorem dX5_doesTo_15 : decode cX5_doesTo 15 = .ok (.getfield 38, 3) := by decide +kernel
theorem dX5_doesTo_18 : decode cX5_doesTo 18 = .ok (.iload 4, 2) := by decide +kernel
theorem dX5_doesTo_20 : decode cX5_doesTo 20 = .ok (.aload_n 0, 1) := by decide +kernel
theorem dX5_doesTo_21 : decode cX5_doesTo 21 = .ok (.getfield 50, 3) := by decide +kernel
theorem dX5_doesTo_24 : decode cX5_doesTo 24 = .ok (.iload_n 2, 1) := by decide +kernel
theorem dX5_doesTo_25 : decode cX5_doesTo 25 = .ok (.iload 4, 2) := by decide +kernel
theorem dX5_doesTo_27 : decode cX5_doesTo 27 = .ok (.imul, 1) := by decide +kernel
theorem dX5_doesTo_28 : decode cX5_doesTo 28 = .ok (.laload, 1) := by decide +kernel
theorem dX5_doesTo_29 : decode cX5_doesTo 29 = .ok (.iload 4, 2) := by decide +kernel
theorem dX5_doesTo_31 : decode cX5_doesTo 31 = .ok (.iload_n 2, 1) := by decide +kernel
theorem dX5_doesTo_32 : decode cX5_doesTo 32 = .ok (.irem, 1) := by decide +kernel
theorem dX5_doesTo_33 : decode cX5_doesTo 33 = .ok (.ifCond .ne 24, 3) := by decide +kernel
theorem dX5_doesTo_36 : decode cX5_doesTo 36 = .ok (.iload_n 2, 1) := by decide +kernel
theorem dX5_doesTo_37 : decode cX5_doesTo 37 = .ok (.i2l, 1) := by decide +kernel
theorem dX5_doesTo_38 : decode cX5_doesTo 38 = .ok (.iload_n 1, 1) := by decide +kernel
theorem dX5_doesTo_39 : decode cX5_doesTo 39 = .ok (.iconst 1, 1) := by decide +kernel
theorem dX5_doesTo_40 : decode cX5_doesTo 40 = .ok (.isub, 1) := by decide +kernel
theorem dX5_doesTo_41 : decode cX5_doesTo 41 = .ok (.invokestatic 85, 3) := by decide +kernel
theorem dX5_doesTo_44 : decode cX5_doesTo 44 = .ok (.aload_n 0, 1) := by decide +kernel
theorem dX5_doesTo_45 : decode cX5_doesTo 45 = .ok (.getfield 50, 3) := by decide +kernel
theorem dX5_doesTo_48 : decode cX5_doesTo 48 = .ok (.iload 4, 2) := by decide +kernel
theorem dX5_doesTo_50 : decode cX5_doesTo 50 = .ok (.iload_n 2, 1) := by decide +kernel
theorem dX5_doesTo_51 : decode cX5_doesTo 51 = .ok (.idiv, 1) := by decide +kernel
theorem dX5_doesTo_52 : decode cX5_doesTo 52 = .ok (.laload, 1) := by decide +kernel
theorem dX5_doesTo_53 : decode cX5_doesTo 53 = .ok (.lmul, 1) := by decide +kernel
theorem dX5_doesTo_54 : decode cX5_doesTo 54 = .ok (.goto 4, 3) := by decide +kernel
theorem dX5_doesTo_57 : decode cX5_doesTo 57 = .ok (.lconst 0, 1) := by decide +kernel
theorem dX5_doesTo_58 : decode cX5_doesTo 58 = .ok (.ladd, 1) := by decide +kernel
theorem dX5_doesTo_59 : decode cX5_doesTo 59 = .ok (.ldc2_w 79, 3) := by decide +kernel
theorem dX5_doesTo_62 : decode cX5_doesTo 62 = .ok (.lrem, 1) := by decide +kernel
theorem dX5_doesTo_63 : decode cX5_doesTo 63 = .ok (.lastore, 1) := by decide +kernel
theorem dX5_doesTo_64 : decode cX5_doesTo 64 = .ok (.iinc 4 1, 3) := by decide +kernel
theorem dX5_doesTo_67 : decode cX5_doesTo 67 = .ok (.goto (-59), 3) := by decide +kernel
theorem dX5_doesTo_70 : decode cX5_doesTo 70 = .ok (.aload_n 0, 1) := by decide +kernel
theorem dX5_doesTo_71 : decode cX5_doesTo 71 = .ok (.aload_n 0, 1) := by decide +kernel
theorem dX5_doesTo_72 : decode cX5_doesTo 72 = .ok (.getfield 38, 3) := by decide +kernel
theorem dX5_doesTo_75 : decode cX5_doesTo 75 = .ok (.iload_n 1, 1) := by decide +kernel
theorem dX5_doesTo_76 : decode cX5_doesTo 76 = .ok (.invokevirtual 151, 3) := by decide +kernel
theorem dX5_doesTo_79 : decode cX5_doesTo 79 = .ok (.return_, 1) := by decide +kernel
theorem dX5_prime_0 : decode cX5_prime 0 = .ok (.aload_n 0, 1) := by decide +kernel
theorem dX5_prime_1 : decode cX5_prime 1 = .ok (.iload_n 1, 1) := by decide +kernel
theorem dX5_prime_2 : decode cX5_prime 2 = .ok (.invokevirtual 135, 3) := by decide +kernel
theorem dX5_prime_5 : decode cX5_prime 5 = .ok (.ifCond .ne 10, 3) := by decide +kernel
theorem dX5_prime_8 : decode cX5_prime 8 = .ok (.aload_n 0, 1) := by decide +kernel
theorem dX5_prime_9 : decode cX5_prime 9 = .ok (.bipush (-3), 2) := by decide +kernel
theorem dX5_prime_11 : decode cX5_prime 11 = .ok (.invokevirtual 114, 3) := by decide +kernel
theorem dX5_prime_14 : decode cX5_prime 14 = .ok (.ireturn, 1) := by decide +kernel
theorem dX5_prime_15 : decode cX5_prime 15 = .ok (.iload_n 2, 1) := by decide +kernel
theorem dX5_prime_16 : decode cX5_prime 16 = .ok (.invokestatic 157, 3) := by decide +kernel
theorem dX5_prime_19 : decode cX5_prime 19 = .ok (.ifCond .eq 13, 3) := by decide +kernel
theorem dX5_prime_22 : decode cX5_prime 22 = .ok (.aload_n 0, 1) := by decide +kernel
theorem dX5_prime_23 : decode cX5_prime 23 = .ok (.getfield 17, 3) := by decide +kernel
theorem dX5_prime_26 : decode cX5_prime 26 = .ok (.iload_n 1, 1) := by decide +kernel
theorem dX5_prime_27 : decode cX5_prime 27 = .ok (.iaload, 1) := by decide +kernel
theorem dX5_prime_28 : decode cX5_prime 28 = .ok (.iconst 4, 1) := by decide +kernel
theorem dX5_prime_29 : decode cX5_prime 29 = .ok (.if_icmp .ge 10, 3) := by decide +kernel
theorem dX5_prime_32 : decode cX5_prime 32 = .ok (.aload_n 0, 1) := by decide +kernel
theorem dX5_prime_33 : decode cX5_prime 33 = .ok (.bipush (-7), 2) := by decide +kernel
theorem dX5_prime_35 : decode cX5_prime 35 = .ok (.invokevirtual 114, 3) := by decide +kernel
theorem dX5_prime_38 : decode cX5_prime 38 = .ok (.ireturn, 1) := by decide +kernel
theorem dX5_prime_39 : decode cX5_prime 39 = .ok (.aload_n 0, 1) := by decide +kernel
theorem dX5_prime_40 : decode cX5_prime 40 = .ok (.aload_n 0, 1) := by decide +kernel
theorem dX5_prime_41 : decode cX5_prime 41 = .ok (.getfield 50, 3) := by decide +kernel
theorem dX5_prime_44 : decode cX5_prime 44 = .ok (.iload_n 1, 1) := by decide +kernel
theorem dX5_prime_45 : decode cX5_prime 45 = .ok (.invokevirtual 145, 3) := by decide +kernel
theorem dX5_prime_48 : decode cX5_prime 48 = .ok (.aload_n 0, 1) := by decide +kernel
theorem dX5_prime_49 : decode cX5_prime 49 = .ok (.aload_n 0, 1) := by decide +kernel
theorem dX5_prime_50 : decode cX5_prime 50 = .ok (.getfield 17, 3) := by decide +kernel
theorem dX5_prime_53 : decode cX5_prime 53 = .ok (.iload_n 1, 1) := by decide +kernel
theorem dX5_prime_54 : decode cX5_prime 54 = .ok (.iaload, 1) := by decide +kernel
theorem dX5_prime_55 : decode cX5_prime 55 = .ok (.iload_n 2, 1) := by decide +kernel
theorem dX5_prime_56 : decode cX5_prime 56 = .ok (.invokevirtual 160, 3) := by decide +kernel
theorem dX5_prime_59 : decode cX5_prime 59 = .ok (.aload_n 0, 1) := by decide +kernel
theorem dX5_prime_60 : decode cX5_prime 60 = .ok (.aload_n 0, 1) := by decide +kernel
theorem dX5_prime_61 : decode cX5_prime 61 = .ok (.getfield 17, 3) := by decide +kernel
theorem dX5_prime_64 : decode cX5_prime 64 = .ok (.iload_n 1, 1) := by decide +kernel
theorem dX5_prime_65 : decode cX5_prime 65 = .ok (.iaload, 1) := by decide +kernel
theorem dX5_prime_66 : decode cX5_prime 66 = .ok (.iconst 0, 1) := by decide +kernel
theorem dX5_prime_67 : decode cX5_prime 67 = .ok (.invokevirtual 154, 3) := by decide +kernel
theorem dX5_prime_70 : decode cX5_prime 70 = .ok (.aload_n 0, 1) := by decide +kernel
theorem dX5_prime_71 : decode cX5_prime 71 = .ok (.aload_n 0, 1) := by decide +kernel
theorem dX5_prime_72 : decode cX5_prime 72 = .ok (.getfield 17, 3) := by decide +kernel
theorem dX5_prime_75 : decode cX5_prime 75 = .ok (.iload_n 1, 1) := by decide +kernel
theorem dX5_prime_76 : decode cX5_prime 76 = .ok (.iaload, 1) := by decide +kernel
theorem dX5_prime_77 : decode cX5_prime 77 = .ok (.invokevirtual 142, 3) := by decide +kernel
theorem dX5_prime_80 : decode cX5_prime 80 = .ok (.ireturn, 1) := by decide +kernel
theorem dX5_basis_0 : decode cX5_basis 0 = .ok (.iload_n 1, 1) := by decide +kernel
theorem dX5_basis_1 : decode cX5_basis 1 = .ok (.invokestatic 163, 3) := by decide +kernel
theorem dX5_basis_4 : decode cX5_basis 4 = .ok (.ifCond .ne 10, 3) := by decide +kernel
theorem dX5_basis_7 : decode cX5_basis 7 = .ok (.aload_n 0, 1) := by decide +kernel
theorem dX5_basis_8 : decode cX5_basis 8 = .ok (.bipush (-7), 2) := by decide +kernel
theorem dX5_basis_10 : decode cX5_basis 10 = .ok (.invokevirtual 114, 3) := by decide +kernel
theorem dX5_basis_13 : decode cX5_basis 13 = .ok (.ireturn, 1) := by decide +kernel
theorem dX5_basis_14 : decode cX5_basis 14 = .ok (.iload_n 2, 1) := by decide +kernel
theorem dX5_basis_15 : decode cX5_basis 15 = .ok (.i2l, 1) := by decide +kernel
theorem dX5_basis_16 : decode cX5_basis 16 = .ok (.lconst 0, 1) := by decide +kernel
theorem dX5_basis_17 : decode cX5_basis 17 = .ok (.iload_n 1, 1) := by decide +kernel
theorem dX5_basis_18 : decode cX5_basis 18 = .ok (.invokestatic 106, 3) := by decide +kernel
theorem dX5_basis_21 : decode cX5_basis 21 = .ok (.iconst 1, 1) := by decide +kernel
theorem dX5_basis_22 : decode cX5_basis 22 = .ok (.isub, 1) := by decide +kernel
theorem dX5_basis_23 : decode cX5_basis 23 = .ok (.i2l, 1) := by decide +kernel
theorem dX5_basis_24 : decode cX5_basis 24 = .ok (.invokestatic 98, 3) := by decide +kernel
theorem dX5_basis_27 : decode cX5_basis 27 = .ok (.ifCond .ne 10, 3) := by decide +kernel
theorem dX5_basis_30 : decode cX5_basis 30 = .ok (.aload_n 0, 1) := by decide +kernel
theorem dX5_basis_31 : decode cX5_basis 31 = .ok (.bipush (-3), 2) := by decide +kernel
theorem dX5_basis_33 : decode cX5_basis 33 = .ok (.invokevirtual 114, 3) := by decide +kernel
theorem dX5_basis_36 : decode cX5_basis 36 = .ok (.ireturn, 1) := by decide +kernel
theorem dX5_basis_37 : decode cX5_basis 37 = .ok (.aload_n 0, 1) := by decide +kernel
theorem dX5_basis_38 : decode cX5_basis 38 = .ok (.iload_n 1, 1) := by decide +kernel
theorem dX5_basis_39 : decode cX5_basis 39 = .ok (.iload_n 2, 1) := by decide +kernel
theorem dX5_basis_40 : decode cX5_basis 40 = .ok (.invokevirtual 110, 3) := by decide +kernel
theorem dX5_basis_43 : decode cX5_basis 43 = .ok (.iconst 0, 1) := by decide +kernel
theorem dX5_basis_44 : decode cX5_basis 44 = .ok (.istore_n 3, 1) := by decide +kernel
theorem dX5_basis_45 : decode cX5_basis 45 = .ok (.iload_n 3, 1) := by decide +kernel
theorem dX5_basis_46 : decode cX5_basis 46 = .ok (.bipush 48, 2) := by decide +kernel
theorem dX5_basis_48 : decode cX5_basis 48 = .ok (.if_icmp .ge 21, 3) := by decide +kernel
theorem dX5_basis_51 : decode cX5_basis 51 = .ok (.aload_n 0, 1) := by decide +kernel
theorem dX5_basis_52 : decode cX5_basis 52 = .ok (.getfield 38, 3) := by decide +kernel
theorem dX5_basis_55 : decode cX5_basis 55 = .ok (.iload_n 3, 1) := by decide +kernel
theorem dX5_basis_56 : decode cX5_basis 56 = .ok (.aload_n 0, 1) := by decide +kernel
theorem dX5_basis_57 : decode cX5_basis 57 = .ok (.getfield 44, 3) := by decide +kernel
theorem dX5_basis_60 : decode cX5_basis 60 = .ok (.iload_n 3, 1) := by decide +kernel
theorem dX5_basis_61 : decode cX5_basis 61 = .ok (.laload, 1) := by decide +kernel
theorem dX5_basis_62 : decode cX5_basis 62 = .ok (.lastore, 1) := by decide +kernel
theorem dX5_basis_63 : decode cX5_basis 63 = .ok (.iinc 3 1, 3) := by decide +kernel
theorem dX5_basis_66 : decode cX5_basis 66 = .ok (.goto (-21), 3) := by decide +kernel
theorem dX5_basis_69 : decode cX5_basis 69 = .ok (.aload_n 0, 1) := by decide +kernel
theorem dX5_basis_70 : decode cX5_basis 70 = .ok (.iload_n 1, 1) := by decide +kernel
theorem dX5_basis_71 : decode cX5_basis 71 = .ok (.invokevirtual 142, 3) := by decide +kernel
theorem dX5_basis_74 : decode cX5_basis 74 = .ok (.ireturn, 1) := by decide +kernel
theorem dX5_drop_0 : decode cX5_drop 0 = .ok (.aload_n 0, 1) := by decide +kernel
theorem dX5_drop_1 : decode cX5_drop 1 = .ok (.getfield 89, 3) := by decide +kernel
theorem dX5_drop_4 : decode cX5_drop 4 = .ok (.ifCond .ne 10, 3) := by decide +kernel
theorem dX5_drop_7 : decode cX5_drop 7 = .ok (.aload_n 0, 1) := by decide +kernel
theorem dX5_drop_8 : decode cX5_drop 8 = .ok (.bipush (-2), 2) := by decide +kernel
theorem dX5_drop_10 : decode cX5_drop 10 = .ok (.invokevirtual 114, 3) := by decide +kernel
theorem dX5_drop_13 : decode cX5_drop 13 = .ok (.ireturn, 1) := by decide +kernel
theorem dX5_drop_14 : decode cX5_drop 14 = .ok (.aload_n 0, 1) := by decide +kernel
theorem dX5_drop_15 : decode cX5_drop 15 = .ok (.dup, 1) := by decide +kernel
theorem dX5_drop_16 : decode cX5_drop 16 = .ok (.getfield 89, 3) := by decide +kernel
theorem dX5_drop_19 : decode cX5_drop 19 = .ok (.iconst 1, 1) := by decide +kernel
theorem dX5_drop_20 : decode cX5_drop 20 = .ok (.isub, 1) := by decide +kernel
theorem dX5_drop_21 : decode cX5_drop 21 = .ok (.putfield 89, 3) := by decide +kernel
theorem dX5_drop_24 : decode cX5_drop 24 = .ok (.aload_n 0, 1) := by decide +kernel
theorem dX5_drop_25 : decode cX5_drop 25 = .ok (.getfield 89, 3) := by decide +kernel
theorem dX5_drop_28 : decode cX5_drop 28 = .ok (.ireturn, 1) := by decide +kernel
theorem dX5_leastOf_0 : decode cX5_leastOf 0 = .ok (.iconst 0, 1) := by decide +kernel
theorem dX5_leastOf_1 : decode cX5_leastOf 1 = .ok (.istore_n 2, 1) := by decide +kernel
theorem dX5_leastOf_2 : decode cX5_leastOf 2 = .ok (.iload_n 2, 1) := by decide +kernel
theorem dX5_leastOf_3 : decode cX5_leastOf 3 = .ok (.bipush 48, 2) := by decide +kernel
theorem dX5_leastOf_5 : decode cX5_leastOf 5 = .ok (.if_icmp .ge 25, 3) := by decide +kernel
theorem dX5_leastOf_8 : decode cX5_leastOf 8 = .ok (.aload_n 0, 1) := by decide +kernel
theorem dX5_leastOf_9 : decode cX5_leastOf 9 = .ok (.getfield 7, 3) := by decide +kernel
theorem dX5_leastOf_12 : decode cX5_leastOf 12 = .ok (.bipush 48, 2) := by decide +kernel
theorem dX5_leastOf_14 : decode cX5_leastOf 14 = .ok (.iload_n 1, 1) := by decide +kernel
theorem dX5_leastOf_15 : decode cX5_leastOf 15 = .ok (.imul, 1) := by decide +kernel
theorem dX5_leastOf_16 : decode cX5_leastOf 16 = .ok (.iload_n 2, 1) := by decide +kernel
theorem dX5_leastOf_17 : decode cX5_leastOf 17 = .ok (.iadd, 1) := by decide +kernel
theorem dX5_leastOf_18 : decode cX5_leastOf 18 = .ok (.laload, 1) := by decide +kernel
theorem dX5_leastOf_19 : decode cX5_leastOf 19 = .ok (.lconst 0, 1) := by decide +kernel
theorem dX5_leastOf_20 : decode cX5_leastOf 20 = .ok (.lcmp, 1) := by decide +kernel
theorem dX5_leastOf_21 : decode cX5_leastOf 21 = .ok (.ifCond .ne 9, 3) := by decide +kernel
theorem dX5_leastOf_24 : decode cX5_leastOf 24 = .ok (.iinc 2 1, 3) := by decide +kernel
theorem dX5_leastOf_27 : decode cX5_leastOf 27 = .ok (.goto (-25), 3) := by decide +kernel
theorem dX5_leastOf_30 : decode cX5_leastOf 30 = .ok (.iload_n 2, 1) := by decide +kernel
theorem dX5_leastOf_31 : decode cX5_leastOf 31 = .ok (.bipush 48, 2) := by decide +kernel
theorem dX5_leastOf_33 : decode cX5_leastOf 33 = .ok (.if_icmp .ge 7, 3) := by decide +kernel
theorem dX5_leastOf_36 : decode cX5_leastOf 36 = .ok (.iload_n 2, 1) := by decide +kernel
theorem dX5_leastOf_37 : decode cX5_leastOf 37 = .ok (.goto 4, 3) := by decide +kernel
theorem dX5_leastOf_40 : decode cX5_leastOf 40 = .ok (.iconst (-1), 1) := by decide +kernel
theorem dX5_leastOf_41 : decode cX5_leastOf 41 = .ok (.ireturn, 1) := by decide +kernel
theorem dX5_look_0 : decode cX5_look 0 = .ok (.aload_n 0, 1) := by decide +kernel
theorem dX5_look_1 : decode cX5_look 1 = .ok (.iload_n 1, 1) := by decide +kernel
theorem dX5_look_2 : decode cX5_look 2 = .ok (.invokevirtual 135, 3) := by decide +kernel
theorem dX5_look_5 : decode cX5_look 5 = .ok (.ifCond .ne 10, 3) := by decide +kernel
theorem dX5_look_8 : decode cX5_look 8 = .ok (.aload_n 0, 1) := by decide +kernel
theorem dX5_look_9 : decode cX5_look 9 = .ok (.bipush (-3), 2) := by decide +kernel
theorem dX5_look_11 : decode cX5_look 11 = .ok (.invokevirtual 114, 3) := by decide +kernel
theorem dX5_look_14 : decode cX5_look 14 = .ok (.ireturn, 1) := by decide +kernel
theorem dX5_look_15 : decode cX5_look 15 = .ok (.iload_n 2, 1) := by decide +kernel
theorem dX5_look_16 : decode cX5_look 16 = .ok (.iconst 4, 1) := by decide +kernel
theorem dX5_look_17 : decode cX5_look 17 = .ok (.if_icmp .ne 30, 3) := by decide +kernel
theorem dX5_look_20 : decode cX5_look 20 = .ok (.aload_n 0, 1) := by decide +kernel
theorem dX5_look_21 : decode cX5_look 21 = .ok (.getfield 13, 3) := by decide +kernel
theorem dX5_look_24 : decode cX5_look 24 = .ok (.iload_n 1, 1) := by decide +kernel
theorem dX5_look_25 : decode cX5_look 25 = .ok (.iaload, 1) := by decide +kernel
theorem dX5_look_26 : decode cX5_look 26 = .ok (.iconst 1, 1) := by decide +kernel
theorem dX5_look_27 : decode cX5_look 27 = .ok (.if_icmp .eq 20, 3) := by decide +kernel
theorem dX5_look_30 : decode cX5_look 30 = .ok (.aload_n 0, 1) := by decide +kernel
theorem dX5_look_31 : decode cX5_look 31 = .ok (.getfield 13, 3) := by decide +kernel
theorem dX5_look_34 : decode cX5_look 34 = .ok (.iload_n 1, 1) := by decide +kernel
theorem dX5_look_35 : decode cX5_look 35 = .ok (.iaload, 1) := by decide +kernel
theorem dX5_look_36 : decode cX5_look 36 = .ok (.iconst 2, 1) := by decide +kernel
theorem dX5_look_37 : decode cX5_look 37 = .ok (.if_icmp .eq 10, 3) := by decide +kernel
theorem dX5_look_40 : decode cX5_look 40 = .ok (.aload_n 0, 1) := by decide +kernel
theorem dX5_look_41 : decode cX5_look 41 = .ok (.bipush (-5), 2) := by decide +kernel
theorem dX5_look_43 : decode cX5_look 43 = .ok (.invokevirtual 114, 3) := by decide +kernel
theorem dX5_look_46 : decode cX5_look 46 = .ok (.ireturn, 1) := by decide +kernel
theorem dX5_look_47 : decode cX5_look 47 = .ok (.iload_n 2, 1) := by decide +kernel
theorem dX5_look_48 : decode cX5_look 48 = .ok (.tableswitch 73 0 4 #[36, 43, 50, 56, 66], 36) := by decide +kernel
theorem dX5_look_84 : decode cX5_look 84 = .ok (.aload_n 0, 1) := by decide +kernel
theorem dX5_look_85 : decode cX5_look 85 = .ok (.getfield 13, 3) := by decide +kernel
theorem dX5_look_88 : decode cX5_look 88 = .ok (.iload_n 1, 1) := by decide +kernel
theorem dX5_look_89 : decode cX5_look 89 = .ok (.iaload, 1) := by decide +kernel
theorem dX5_look_90 : decode cX5_look 90 = .ok (.ireturn, 1) := by decide +kernel
theorem dX5_look_91 : decode cX5_look 91 = .ok (.aload_n 0, 1) := by decide +kernel
theorem dX5_look_92 : decode cX5_look 92 = .ok (.getfield 17, 3) := by decide +kernel
theorem dX5_look_95 : decode cX5_look 95 = .ok (.iload_n 1, 1) := by decide +kernel
theorem dX5_look_96 : decode cX5_look 96 = .ok (.iaload, 1) := by decide +kernel
theorem dX5_look_97 : decode cX5_look 97 = .ok (.ireturn, 1) := by decide +kernel
theorem dX5_look_98 : decode cX5_look 98 = .ok (.aload_n 0, 1) := by decide +kernel
theorem dX5_look_99 : decode cX5_look 99 = .ok (.iload_n 1, 1) := by decide +kernel
theorem dX5_look_100 : decode cX5_look 100 = .ok (.invokevirtual 166, 3) := by decide +kernel
theorem dX5_look_103 : decode cX5_look 103 = .ok (.ireturn, 1) := by decide +kernel
theorem dX5_look_104 : decode cX5_look 104 = .ok (.aload_n 0, 1) := by decide +kernel
theorem dX5_look_105 : decode cX5_look 105 = .ok (.getfield 17, 3) := by decide +kernel
theorem dX5_look_108 : decode cX5_look 108 = .ok (.iload_n 1, 1) := by decide +kernel
theorem dX5_look_109 : decode cX5_look 109 = .ok (.iaload, 1) := by decide +kernel
theorem dX5_look_110 : decode cX5_look 110 = .ok (.invokestatic 106, 3) := by decide +kernel
theorem dX5_look_113 : decode cX5_look 113 = .ok (.ireturn, 1) := by decide +kernel
theorem dX5_look_114 : decode cX5_look 114 = .ok (.aload_n 0, 1) := by decide +kernel
theorem dX5_look_115 : decode cX5_look 115 = .ok (.getfield 20, 3) := by decide +kernel
theorem dX5_look_118 : decode cX5_look 118 = .ok (.iload_n 1, 1) := by decide +kernel
theorem dX5_look_119 : decode cX5_look 119 = .ok (.iaload, 1) := by decide +kernel
theorem dX5_look_120 : decode cX5_look 120 = .ok (.ireturn, 1) := by decide +kernel
theorem dX5_look_121 : decode cX5_look 121 = .ok (.aload_n 0, 1) := by decide +kernel
theorem dX5_look_122 : decode cX5_look 122 = .ok (.bipush (-7), 2) := by decide +kernel
theorem dX5_look_124 : decode cX5_look 124 = .ok (.invokevirtual 114, 3) := by decide +kernel
theorem dX5_look_127 : decode cX5_look 127 = .ok (.ireturn, 1) := by decide +kernel
theorem dX5_at_0 : decode cX5_at 0 = .ok (.aload_n 0, 1) := by decide +kernel
theorem dX5_at_1 : decode cX5_at 1 = .ok (.iload_n 1, 1) := by decide +kernel
theorem dX5_at_2 : decode cX5_at 2 = .ok (.invokevirtual 135, 3) := by decide +kernel
theorem dX5_at_5 : decode cX5_at 5 = .ok (.ifCond .eq 30, 3) := by decide +kernel
theorem dX5_at_8 : decode cX5_at 8 = .ok (.iload_n 2, 1) := by decide +kernel
theorem dX5_at_9 : decode cX5_at 9 = .ok (.i2l, 1) := by decide +kernel
theorem dX5_at_10 : decode cX5_at 10 = .ok (.lconst 0, 1) := by decide +kernel
theorem dX5_at_11 : decode cX5_at 11 = .ok (.ldc2_w 169, 3) := by decide +kernel
theorem dX5_at_14 : decode cX5_at 14 = .ok (.invokestatic 98, 3) := by decide +kernel
theorem dX5_at_17 : decode cX5_at 17 = .ok (.ifCond .eq 18, 3) := by decide +kernel
theorem dX5_at_20 : decode cX5_at 20 = .ok (.aload_n 0, 1) := by decide +kernel
theorem dX5_at_21 : decode cX5_at 21 = .ok (.getfield 7, 3) := by decide +kernel
theorem dX5_at_24 : decode cX5_at 24 = .ok (.bipush 48, 2) := by decide +kernel
theorem dX5_at_26 : decode cX5_at 26 = .ok (.iload_n 1, 1) := by decide +kernel
theorem dX5_at_27 : decode cX5_at 27 = .ok (.imul, 1) := by decide +kernel
theorem dX5_at_28 : decode cX5_at 28 = .ok (.iload_n 2, 1) := by decide +kernel
theorem dX5_at_29 : decode cX5_at 29 = .ok (.iadd, 1) := by decide +kernel
theorem dX5_at_30 : decode cX5_at 30 = .ok (.laload, 1) := by decide +kernel
theorem dX5_at_31 : decode cX5_at 31 = .ok (.l2i, 1) := by decide +kernel
theorem dX5_at_32 : decode cX5_at 32 = .ok (.goto 9, 3) := by decide +kernel
theorem dX5_at_35 : decode cX5_at 35 = .ok (.aload_n 0, 1) := by decide +kernel
theorem dX5_at_36 : decode cX5_at 36 = .ok (.bipush (-3), 2) := by decide +kernel
theorem dX5_at_38 : decode cX5_at 38 = .ok (.invokevirtual 114, 3) := by decide +kernel
theorem dX5_at_41 : decode cX5_at 41 = .ok (.ireturn, 1) := by decide +kernel
theorem dX5_part_0 : decode cX5_part 0 = .ok (.aload_n 0, 1) := by decide +kernel
theorem dX5_part_1 : decode cX5_part 1 = .ok (.iload_n 1, 1) := by decide +kernel
theorem dX5_part_2 : decode cX5_part 2 = .ok (.invokevirtual 135, 3) := by decide +kernel
theorem dX5_part_5 : decode cX5_part 5 = .ok (.ifCond .eq 24, 3) := by decide +kernel
theorem dX5_part_8 : decode cX5_part 8 = .ok (.iload_n 2, 1) := by decide +kernel
theorem dX5_part_9 : decode cX5_part 9 = .ok (.i2l, 1) := by decide +kernel
theorem dX5_part_10 : decode cX5_part 10 = .ok (.lconst 0, 1) := by decide +kernel
theorem dX5_part_11 : decode cX5_part 11 = .ok (.aload_n 0, 1) := by decide +kernel
theorem dX5_part_12 : decode cX5_part 12 = .ok (.getfield 17, 3) := by decide +kernel
theorem dX5_part_15 : decode cX5_part 15 = .ok (.iload_n 1, 1) := by decide +kernel
theorem dX5_part_16 : decode cX5_part 16 = .ok (.iaload, 1) := by decide +kernel
theorem dX5_part_17 : decode cX5_part 17 = .ok (.invokestatic 106, 3) := by decide +kernel
theorem dX5_part_20 : decode cX5_part 20 = .ok (.iconst 1, 1) := by decide +kernel
theorem dX5_part_21 : decode cX5_part 21 = .ok (.isub, 1) := by decide +kernel
theorem dX5_part_22 : decode cX5_part 22 = .ok (.i2l, 1) := by decide +kernel
end
section
theorem dX5_part_23 : decode cX5_part 23 = .ok (.invokestatic 98, 3) := by decide +kernel
theorem dX5_part_26 : decode cX5_part 26 = .ok (.ifCond .ne 10, 3) := by decide +kernel
theorem dX5_part_29 : decode cX5_part 29 = .ok (.aload_n 0, 1) := by decide +kernel
theorem dX5_part_30 : decode cX5_part 30 = .ok (.bipush (-3), 2) := by decide +kernel
theorem dX5_part_32 : decode cX5_part 32 = .ok (.invokevirtual 114, 3) := by decide +kernel
theorem dX5_part_35 : decode cX5_part 35 = .ok (.ireturn, 1) := by decide +kernel
theorem dX5_part_36 : decode cX5_part 36 = .ok (.aload_n 0, 1) := by decide +kernel
theorem dX5_part_37 : decode cX5_part 37 = .ok (.aload_n 0, 1) := by decide +kernel
theorem dX5_part_38 : decode cX5_part 38 = .ok (.getfield 50, 3) := by decide +kernel
theorem dX5_part_41 : decode cX5_part 41 = .ok (.iload_n 1, 1) := by decide +kernel
theorem dX5_part_42 : decode cX5_part 42 = .ok (.invokevirtual 145, 3) := by decide +kernel
theorem dX5_part_45 : decode cX5_part 45 = .ok (.aload_n 0, 1) := by decide +kernel
theorem dX5_part_46 : decode cX5_part 46 = .ok (.aload_n 0, 1) := by decide +kernel
theorem dX5_part_47 : decode cX5_part 47 = .ok (.getfield 50, 3) := by decide +kernel
theorem dX5_part_50 : decode cX5_part 50 = .ok (.aload_n 0, 1) := by decide +kernel
theorem dX5_part_51 : decode cX5_part 51 = .ok (.getfield 17, 3) := by decide +kernel
theorem dX5_part_54 : decode cX5_part 54 = .ok (.iload_n 1, 1) := by decide +kernel
theorem dX5_part_55 : decode cX5_part 55 = .ok (.iaload, 1) := by decide +kernel
theorem dX5_part_56 : decode cX5_part 56 = .ok (.invokevirtual 151, 3) := by decide +kernel
theorem dX5_part_59 : decode cX5_part 59 = .ok (.aload_n 0, 1) := by decide +kernel
theorem dX5_part_60 : decode cX5_part 60 = .ok (.getfield 47, 3) := by decide +kernel
theorem dX5_part_63 : decode cX5_part 63 = .ok (.iload_n 2, 1) := by decide +kernel
theorem dX5_part_64 : decode cX5_part 64 = .ok (.laload, 1) := by decide +kernel
theorem dX5_part_65 : decode cX5_part 65 = .ok (.l2i, 1) := by decide +kernel
theorem dX5_part_66 : decode cX5_part 66 = .ok (.ireturn, 1) := by decide +kernel
theorem dX5_firstApart_0 : decode cX5_firstApart 0 = .ok (.iconst 0, 1) := by decide +kernel
theorem dX5_firstApart_1 : decode cX5_firstApart 1 = .ok (.istore_n 3, 1) := by decide +kernel
theorem dX5_firstApart_2 : decode cX5_firstApart 2 = .ok (.iload_n 3, 1) := by decide +kernel
theorem dX5_firstApart_3 : decode cX5_firstApart 3 = .ok (.bipush 48, 2) := by decide +kernel
theorem dX5_firstApart_5 : decode cX5_firstApart 5 = .ok (.if_icmp .ge 35, 3) := by decide +kernel
theorem dX5_firstApart_8 : decode cX5_firstApart 8 = .ok (.aload_n 0, 1) := by decide +kernel
theorem dX5_firstApart_9 : decode cX5_firstApart 9 = .ok (.getfield 7, 3) := by decide +kernel
theorem dX5_firstApart_12 : decode cX5_firstApart 12 = .ok (.bipush 48, 2) := by decide +kernel
theorem dX5_firstApart_14 : decode cX5_firstApart 14 = .ok (.iload_n 1, 1) := by decide +kernel
theorem dX5_firstApart_15 : decode cX5_firstApart 15 = .ok (.imul, 1) := by decide +kernel
theorem dX5_firstApart_16 : decode cX5_firstApart 16 = .ok (.iload_n 3, 1) := by decide +kernel
theorem dX5_firstApart_17 : decode cX5_firstApart 17 = .ok (.iadd, 1) := by decide +kernel
theorem dX5_firstApart_18 : decode cX5_firstApart 18 = .ok (.laload, 1) := by decide +kernel
theorem dX5_firstApart_19 : decode cX5_firstApart 19 = .ok (.aload_n 0, 1) := by decide +kernel
theorem dX5_firstApart_20 : decode cX5_firstApart 20 = .ok (.getfield 7, 3) := by decide +kernel
theorem dX5_firstApart_23 : decode cX5_firstApart 23 = .ok (.bipush 48, 2) := by decide +kernel
theorem dX5_firstApart_25 : decode cX5_firstApart 25 = .ok (.iload_n 2, 1) := by decide +kernel
theorem dX5_firstApart_26 : decode cX5_firstApart 26 = .ok (.imul, 1) := by decide +kernel
theorem dX5_firstApart_27 : decode cX5_firstApart 27 = .ok (.iload_n 3, 1) := by decide +kernel
theorem dX5_firstApart_28 : decode cX5_firstApart 28 = .ok (.iadd, 1) := by decide +kernel
theorem dX5_firstApart_29 : decode cX5_firstApart 29 = .ok (.laload, 1) := by decide +kernel
theorem dX5_firstApart_30 : decode cX5_firstApart 30 = .ok (.lcmp, 1) := by decide +kernel
theorem dX5_firstApart_31 : decode cX5_firstApart 31 = .ok (.ifCond .ne 9, 3) := by decide +kernel
theorem dX5_firstApart_34 : decode cX5_firstApart 34 = .ok (.iinc 3 1, 3) := by decide +kernel
theorem dX5_firstApart_37 : decode cX5_firstApart 37 = .ok (.goto (-35), 3) := by decide +kernel
theorem dX5_firstApart_40 : decode cX5_firstApart 40 = .ok (.iload_n 3, 1) := by decide +kernel
theorem dX5_firstApart_41 : decode cX5_firstApart 41 = .ok (.bipush 48, 2) := by decide +kernel
theorem dX5_firstApart_43 : decode cX5_firstApart 43 = .ok (.if_icmp .ge 7, 3) := by decide +kernel
theorem dX5_firstApart_46 : decode cX5_firstApart 46 = .ok (.iload_n 3, 1) := by decide +kernel
theorem dX5_firstApart_47 : decode cX5_firstApart 47 = .ok (.goto 4, 3) := by decide +kernel
theorem dX5_firstApart_50 : decode cX5_firstApart 50 = .ok (.iconst (-1), 1) := by decide +kernel
theorem dX5_firstApart_51 : decode cX5_firstApart 51 = .ok (.ireturn, 1) := by decide +kernel
theorem dX5_same_0 : decode cX5_same 0 = .ok (.aload_n 0, 1) := by decide +kernel
theorem dX5_same_1 : decode cX5_same 1 = .ok (.iload_n 1, 1) := by decide +kernel
theorem dX5_same_2 : decode cX5_same 2 = .ok (.invokevirtual 135, 3) := by decide +kernel
theorem dX5_same_5 : decode cX5_same 5 = .ok (.ifCond .eq 11, 3) := by decide +kernel
theorem dX5_same_8 : decode cX5_same 8 = .ok (.aload_n 0, 1) := by decide +kernel
theorem dX5_same_9 : decode cX5_same 9 = .ok (.iload_n 2, 1) := by decide +kernel
theorem dX5_same_10 : decode cX5_same 10 = .ok (.invokevirtual 135, 3) := by decide +kernel
theorem dX5_same_13 : decode cX5_same 13 = .ok (.ifCond .ne 10, 3) := by decide +kernel
theorem dX5_same_16 : decode cX5_same 16 = .ok (.aload_n 0, 1) := by decide +kernel
theorem dX5_same_17 : decode cX5_same 17 = .ok (.bipush (-3), 2) := by decide +kernel
theorem dX5_same_19 : decode cX5_same 19 = .ok (.invokevirtual 114, 3) := by decide +kernel
theorem dX5_same_22 : decode cX5_same 22 = .ok (.ireturn, 1) := by decide +kernel
theorem dX5_same_23 : decode cX5_same 23 = .ok (.aload_n 0, 1) := by decide +kernel
theorem dX5_same_24 : decode cX5_same 24 = .ok (.iload_n 1, 1) := by decide +kernel
theorem dX5_same_25 : decode cX5_same 25 = .ok (.iload_n 2, 1) := by decide +kernel
theorem dX5_same_26 : decode cX5_same 26 = .ok (.invokevirtual 171, 3) := by decide +kernel
theorem dX5_same_29 : decode cX5_same 29 = .ok (.iconst (-1), 1) := by decide +kernel
theorem dX5_same_30 : decode cX5_same 30 = .ok (.if_icmp .ne 31, 3) := by decide +kernel
theorem dX5_same_33 : decode cX5_same 33 = .ok (.aload_n 0, 1) := by decide +kernel
theorem dX5_same_34 : decode cX5_same 34 = .ok (.getfield 17, 3) := by decide +kernel
theorem dX5_same_37 : decode cX5_same 37 = .ok (.iload_n 1, 1) := by decide +kernel
theorem dX5_same_38 : decode cX5_same 38 = .ok (.iaload, 1) := by decide +kernel
theorem dX5_same_39 : decode cX5_same 39 = .ok (.aload_n 0, 1) := by decide +kernel
theorem dX5_same_40 : decode cX5_same 40 = .ok (.getfield 17, 3) := by decide +kernel
theorem dX5_same_43 : decode cX5_same 43 = .ok (.iload_n 2, 1) := by decide +kernel
theorem dX5_same_44 : decode cX5_same 44 = .ok (.iaload, 1) := by decide +kernel
theorem dX5_same_45 : decode cX5_same 45 = .ok (.if_icmp .eq 12, 3) := by decide +kernel
theorem dX5_same_48 : decode cX5_same 48 = .ok (.aload_n 0, 1) := by decide +kernel
theorem dX5_same_49 : decode cX5_same 49 = .ok (.iload_n 1, 1) := by decide +kernel
theorem dX5_same_50 : decode cX5_same 50 = .ok (.invokevirtual 166, 3) := by decide +kernel
theorem dX5_same_53 : decode cX5_same 53 = .ok (.iconst (-1), 1) := by decide +kernel
theorem dX5_same_54 : decode cX5_same 54 = .ok (.if_icmp .ne 7, 3) := by decide +kernel
theorem dX5_same_57 : decode cX5_same 57 = .ok (.iconst 1, 1) := by decide +kernel
theorem dX5_same_58 : decode cX5_same 58 = .ok (.goto 4, 3) := by decide +kernel
theorem dX5_same_61 : decode cX5_same 61 = .ok (.iconst 0, 1) := by decide +kernel
theorem dX5_same_62 : decode cX5_same 62 = .ok (.istore_n 3, 1) := by decide +kernel
theorem dX5_same_63 : decode cX5_same 63 = .ok (.iload_n 3, 1) := by decide +kernel
theorem dX5_same_64 : decode cX5_same 64 = .ok (.ifCond .eq 7, 3) := by decide +kernel
theorem dX5_same_67 : decode cX5_same 67 = .ok (.iconst 1, 1) := by decide +kernel
theorem dX5_same_68 : decode cX5_same 68 = .ok (.goto 4, 3) := by decide +kernel
theorem dX5_same_71 : decode cX5_same 71 = .ok (.iconst 0, 1) := by decide +kernel
theorem dX5_same_72 : decode cX5_same 72 = .ok (.ireturn, 1) := by decide +kernel
theorem dX5_apart_0 : decode cX5_apart 0 = .ok (.aload_n 0, 1) := by decide +kernel
theorem dX5_apart_1 : decode cX5_apart 1 = .ok (.iload_n 1, 1) := by decide +kernel
theorem dX5_apart_2 : decode cX5_apart 2 = .ok (.invokevirtual 135, 3) := by decide +kernel
theorem dX5_apart_5 : decode cX5_apart 5 = .ok (.ifCond .eq 11, 3) := by decide +kernel
theorem dX5_apart_8 : decode cX5_apart 8 = .ok (.aload_n 0, 1) := by decide +kernel
theorem dX5_apart_9 : decode cX5_apart 9 = .ok (.iload_n 2, 1) := by decide +kernel
theorem dX5_apart_10 : decode cX5_apart 10 = .ok (.invokevirtual 135, 3) := by decide +kernel
theorem dX5_apart_13 : decode cX5_apart 13 = .ok (.ifCond .ne 10, 3) := by decide +kernel
theorem dX5_apart_16 : decode cX5_apart 16 = .ok (.aload_n 0, 1) := by decide +kernel
theorem dX5_apart_17 : decode cX5_apart 17 = .ok (.bipush (-3), 2) := by decide +kernel
theorem dX5_apart_19 : decode cX5_apart 19 = .ok (.invokevirtual 114, 3) := by decide +kernel
theorem dX5_apart_22 : decode cX5_apart 22 = .ok (.ireturn, 1) := by decide +kernel
theorem dX5_apart_23 : decode cX5_apart 23 = .ok (.aload_n 0, 1) := by decide +kernel
theorem dX5_apart_24 : decode cX5_apart 24 = .ok (.getfield 17, 3) := by decide +kernel
theorem dX5_apart_27 : decode cX5_apart 27 = .ok (.iload_n 1, 1) := by decide +kernel
theorem dX5_apart_28 : decode cX5_apart 28 = .ok (.iaload, 1) := by decide +kernel
theorem dX5_apart_29 : decode cX5_apart 29 = .ok (.aload_n 0, 1) := by decide +kernel
theorem dX5_apart_30 : decode cX5_apart 30 = .ok (.getfield 17, 3) := by decide +kernel
theorem dX5_apart_33 : decode cX5_apart 33 = .ok (.iload_n 2, 1) := by decide +kernel
theorem dX5_apart_34 : decode cX5_apart 34 = .ok (.iaload, 1) := by decide +kernel
theorem dX5_apart_35 : decode cX5_apart 35 = .ok (.if_icmp .ne 12, 3) := by decide +kernel
theorem dX5_apart_38 : decode cX5_apart 38 = .ok (.aload_n 0, 1) := by decide +kernel
theorem dX5_apart_39 : decode cX5_apart 39 = .ok (.iload_n 1, 1) := by decide +kernel
theorem dX5_apart_40 : decode cX5_apart 40 = .ok (.iload_n 2, 1) := by decide +kernel
theorem dX5_apart_41 : decode cX5_apart 41 = .ok (.invokevirtual 171, 3) := by decide +kernel
theorem dX5_apart_44 : decode cX5_apart 44 = .ok (.goto 9, 3) := by decide +kernel
theorem dX5_apart_47 : decode cX5_apart 47 = .ok (.aload_n 0, 1) := by decide +kernel
theorem dX5_apart_48 : decode cX5_apart 48 = .ok (.bipush (-7), 2) := by decide +kernel
theorem dX5_apart_50 : decode cX5_apart 50 = .ok (.invokevirtual 114, 3) := by decide +kernel
theorem dX5_apart_53 : decode cX5_apart 53 = .ok (.ireturn, 1) := by decide +kernel
theorem dX5_size_0 : decode cX5_size 0 = .ok (.iload_n 1, 1) := by decide +kernel
theorem dX5_size_1 : decode cX5_size 1 = .ok (.invokestatic 163, 3) := by decide +kernel
theorem dX5_size_4 : decode cX5_size 4 = .ok (.ifCond .eq 10, 3) := by decide +kernel
theorem dX5_size_7 : decode cX5_size 7 = .ok (.iload_n 1, 1) := by decide +kernel
theorem dX5_size_8 : decode cX5_size 8 = .ok (.invokestatic 106, 3) := by decide +kernel
theorem dX5_size_11 : decode cX5_size 11 = .ok (.goto 9, 3) := by decide +kernel
theorem dX5_size_14 : decode cX5_size 14 = .ok (.aload_n 0, 1) := by decide +kernel
theorem dX5_size_15 : decode cX5_size 15 = .ok (.bipush (-7), 2) := by decide +kernel
theorem dX5_size_17 : decode cX5_size 17 = .ok (.invokevirtual 114, 3) := by decide +kernel
theorem dX5_size_20 : decode cX5_size 20 = .ok (.ireturn, 1) := by decide +kernel
theorem dX5_own_0 : decode cX5_own 0 = .ok (.aload_n 0, 1) := by decide +kernel
theorem dX5_own_1 : decode cX5_own 1 = .ok (.iload_n 1, 1) := by decide +kernel
theorem dX5_own_2 : decode cX5_own 2 = .ok (.invokevirtual 135, 3) := by decide +kernel
theorem dX5_own_5 : decode cX5_own 5 = .ok (.ifCond .ne 10, 3) := by decide +kernel
theorem dX5_own_8 : decode cX5_own 8 = .ok (.aload_n 0, 1) := by decide +kernel
theorem dX5_own_9 : decode cX5_own 9 = .ok (.bipush (-3), 2) := by decide +kernel
theorem dX5_own_11 : decode cX5_own 11 = .ok (.invokevirtual 114, 3) := by decide +kernel
theorem dX5_own_14 : decode cX5_own 14 = .ok (.ireturn, 1) := by decide +kernel
theorem dX5_own_15 : decode cX5_own 15 = .ok (.iload_n 2, 1) := by decide +kernel
theorem dX5_own_16 : decode cX5_own 16 = .ok (.invokestatic 157, 3) := by decide +kernel
theorem dX5_own_19 : decode cX5_own 19 = .ok (.ifCond .eq 13, 3) := by decide +kernel
theorem dX5_own_22 : decode cX5_own 22 = .ok (.aload_n 0, 1) := by decide +kernel
theorem dX5_own_23 : decode cX5_own 23 = .ok (.getfield 17, 3) := by decide +kernel
theorem dX5_own_26 : decode cX5_own 26 = .ok (.iload_n 1, 1) := by decide +kernel
theorem dX5_own_27 : decode cX5_own 27 = .ok (.iaload, 1) := by decide +kernel
theorem dX5_own_28 : decode cX5_own 28 = .ok (.iconst 4, 1) := by decide +kernel
theorem dX5_own_29 : decode cX5_own 29 = .ok (.if_icmp .ge 10, 3) := by decide +kernel
theorem dX5_own_32 : decode cX5_own 32 = .ok (.aload_n 0, 1) := by decide +kernel
theorem dX5_own_33 : decode cX5_own 33 = .ok (.bipush (-7), 2) := by decide +kernel
theorem dX5_own_35 : decode cX5_own 35 = .ok (.invokevirtual 114, 3) := by decide +kernel
theorem dX5_own_38 : decode cX5_own 38 = .ok (.ireturn, 1) := by decide +kernel
theorem dX5_own_39 : decode cX5_own 39 = .ok (.aload_n 0, 1) := by decide +kernel
theorem dX5_own_40 : decode cX5_own 40 = .ok (.iload_n 1, 1) := by decide +kernel
theorem dX5_own_41 : decode cX5_own 41 = .ok (.invokevirtual 166, 3) := by decide +kernel
theorem dX5_own_44 : decode cX5_own 44 = .ok (.istore_n 3, 1) := by decide +kernel
theorem dX5_own_45 : decode cX5_own 45 = .ok (.iload_n 3, 1) := by decide +kernel
theorem dX5_own_46 : decode cX5_own 46 = .ok (.ifCond .ge 5, 3) := by decide +kernel
theorem dX5_own_49 : decode cX5_own 49 = .ok (.iconst (-1), 1) := by decide +kernel
theorem dX5_own_50 : decode cX5_own 50 = .ok (.ireturn, 1) := by decide +kernel
theorem dX5_own_51 : decode cX5_own 51 = .ok (.aload_n 0, 1) := by decide +kernel
theorem dX5_own_52 : decode cX5_own 52 = .ok (.aload_n 0, 1) := by decide +kernel
theorem dX5_own_53 : decode cX5_own 53 = .ok (.getfield 50, 3) := by decide +kernel
theorem dX5_own_56 : decode cX5_own 56 = .ok (.iload_n 1, 1) := by decide +kernel
theorem dX5_own_57 : decode cX5_own 57 = .ok (.invokevirtual 145, 3) := by decide +kernel
theorem dX5_own_60 : decode cX5_own 60 = .ok (.aload_n 0, 1) := by decide +kernel
theorem dX5_own_61 : decode cX5_own 61 = .ok (.aload_n 0, 1) := by decide +kernel
theorem dX5_own_62 : decode cX5_own 62 = .ok (.getfield 17, 3) := by decide +kernel
theorem dX5_own_65 : decode cX5_own 65 = .ok (.iload_n 1, 1) := by decide +kernel
theorem dX5_own_66 : decode cX5_own 66 = .ok (.iaload, 1) := by decide +kernel
theorem dX5_own_67 : decode cX5_own 67 = .ok (.iload_n 2, 1) := by decide +kernel
theorem dX5_own_68 : decode cX5_own 68 = .ok (.invokevirtual 160, 3) := by decide +kernel
theorem dX5_own_71 : decode cX5_own 71 = .ok (.aload_n 0, 1) := by decide +kernel
theorem dX5_own_72 : decode cX5_own 72 = .ok (.aload_n 0, 1) := by decide +kernel
theorem dX5_own_73 : decode cX5_own 73 = .ok (.getfield 17, 3) := by decide +kernel
theorem dX5_own_76 : decode cX5_own 76 = .ok (.iload_n 1, 1) := by decide +kernel
theorem dX5_own_77 : decode cX5_own 77 = .ok (.iaload, 1) := by decide +kernel
theorem dX5_own_78 : decode cX5_own 78 = .ok (.iconst 0, 1) := by decide +kernel
theorem dX5_own_79 : decode cX5_own 79 = .ok (.invokevirtual 154, 3) := by decide +kernel
theorem dX5_own_82 : decode cX5_own 82 = .ok (.aload_n 0, 1) := by decide +kernel
theorem dX5_own_83 : decode cX5_own 83 = .ok (.getfield 38, 3) := by decide +kernel
theorem dX5_own_86 : decode cX5_own 86 = .ok (.iload_n 3, 1) := by decide +kernel
theorem dX5_own_87 : decode cX5_own 87 = .ok (.laload, 1) := by decide +kernel
theorem dX5_own_88 : decode cX5_own 88 = .ok (.aload_n 0, 1) := by decide +kernel
theorem dX5_own_89 : decode cX5_own 89 = .ok (.getfield 7, 3) := by decide +kernel
theorem dX5_own_92 : decode cX5_own 92 = .ok (.bipush 48, 2) := by decide +kernel
theorem dX5_own_94 : decode cX5_own 94 = .ok (.iload_n 1, 1) := by decide +kernel
theorem dX5_own_95 : decode cX5_own 95 = .ok (.imul, 1) := by decide +kernel
theorem dX5_own_96 : decode cX5_own 96 = .ok (.iload_n 3, 1) := by decide +kernel
theorem dX5_own_97 : decode cX5_own 97 = .ok (.iadd, 1) := by decide +kernel
theorem dX5_own_98 : decode cX5_own 98 = .ok (.laload, 1) := by decide +kernel
theorem dX5_own_99 : decode cX5_own 99 = .ok (.invokestatic 129, 3) := by decide +kernel
theorem dX5_own_102 : decode cX5_own 102 = .ok (.lmul, 1) := by decide +kernel
theorem dX5_own_103 : decode cX5_own 103 = .ok (.ldc2_w 79, 3) := by decide +kernel
theorem dX5_own_106 : decode cX5_own 106 = .ok (.lrem, 1) := by decide +kernel
theorem dX5_own_107 : decode cX5_own 107 = .ok (.lstore 4, 2) := by decide +kernel
theorem dX5_own_109 : decode cX5_own 109 = .ok (.iconst 0, 1) := by decide +kernel
theorem dX5_own_110 : decode cX5_own 110 = .ok (.istore 6, 2) := by decide +kernel
theorem dX5_own_112 : decode cX5_own 112 = .ok (.iload 6, 2) := by decide +kernel
theorem dX5_own_114 : decode cX5_own 114 = .ok (.bipush 48, 2) := by decide +kernel
theorem dX5_own_116 : decode cX5_own 116 = .ok (.if_icmp .ge 41, 3) := by decide +kernel
theorem dX5_own_119 : decode cX5_own 119 = .ok (.aload_n 0, 1) := by decide +kernel
theorem dX5_own_120 : decode cX5_own 120 = .ok (.getfield 38, 3) := by decide +kernel
theorem dX5_own_123 : decode cX5_own 123 = .ok (.iload 6, 2) := by decide +kernel
theorem dX5_own_125 : decode cX5_own 125 = .ok (.laload, 1) := by decide +kernel
theorem dX5_own_126 : decode cX5_own 126 = .ok (.lload 4, 2) := by decide +kernel
theorem dX5_own_128 : decode cX5_own 128 = .ok (.aload_n 0, 1) := by decide +kernel
theorem dX5_own_129 : decode cX5_own 129 = .ok (.getfield 7, 3) := by decide +kernel
theorem dX5_own_132 : decode cX5_own 132 = .ok (.bipush 48, 2) := by decide +kernel
theorem dX5_own_134 : decode cX5_own 134 = .ok (.iload_n 1, 1) := by decide +kernel
theorem dX5_own_135 : decode cX5_own 135 = .ok (.imul, 1) := by decide +kernel
theorem dX5_own_136 : decode cX5_own 136 = .ok (.iload 6, 2) := by decide +kernel
theorem dX5_own_138 : decode cX5_own 138 = .ok (.iadd, 1) := by decide +kernel
theorem dX5_own_139 : decode cX5_own 139 = .ok (.laload, 1) := by decide +kernel
theorem dX5_own_140 : decode cX5_own 140 = .ok (.lmul, 1) := by decide +kernel
theorem dX5_own_141 : decode cX5_own 141 = .ok (.ldc2_w 79, 3) := by decide +kernel
theorem dX5_own_144 : decode cX5_own 144 = .ok (.lrem, 1) := by decide +kernel
theorem dX5_own_145 : decode cX5_own 145 = .ok (.lcmp, 1) := by decide +kernel
theorem dX5_own_146 : decode cX5_own 146 = .ok (.ifCond .eq 5, 3) := by decide +kernel
theorem dX5_own_149 : decode cX5_own 149 = .ok (.iconst (-1), 1) := by decide +kernel
theorem dX5_own_150 : decode cX5_own 150 = .ok (.ireturn, 1) := by decide +kernel
theorem dX5_own_151 : decode cX5_own 151 = .ok (.iinc 6 1, 3) := by decide +kernel
theorem dX5_own_154 : decode cX5_own 154 = .ok (.goto (-42), 3) := by decide +kernel
theorem dX5_own_157 : decode cX5_own 157 = .ok (.lload 4, 2) := by decide +kernel
theorem dX5_own_159 : decode cX5_own 159 = .ok (.l2i, 1) := by decide +kernel
theorem dX5_own_160 : decode cX5_own 160 = .ok (.ireturn, 1) := by decide +kernel
theorem dX5_trace_0 : decode cX5_trace 0 = .ok (.iload_n 1, 1) := by decide +kernel
theorem dX5_trace_1 : decode cX5_trace 1 = .ok (.invokestatic 163, 3) := by decide +kernel
theorem dX5_trace_4 : decode cX5_trace 4 = .ok (.ifCond .eq 15, 3) := by decide +kernel
theorem dX5_trace_7 : decode cX5_trace 7 = .ok (.iload_n 1, 1) := by decide +kernel
theorem dX5_trace_8 : decode cX5_trace 8 = .ok (.iconst 4, 1) := by decide +kernel
theorem dX5_trace_9 : decode cX5_trace 9 = .ok (.if_icmp .lt 10, 3) := by decide +kernel
theorem dX5_trace_12 : decode cX5_trace 12 = .ok (.iload_n 2, 1) := by decide +kernel
theorem dX5_trace_13 : decode cX5_trace 13 = .ok (.invokestatic 157, 3) := by decide +kernel
theorem dX5_trace_16 : decode cX5_trace 16 = .ok (.ifCond .ne 10, 3) := by decide +kernel
theorem dX5_trace_19 : decode cX5_trace 19 = .ok (.aload_n 0, 1) := by decide +kernel
theorem dX5_trace_20 : decode cX5_trace 20 = .ok (.bipush (-7), 2) := by decide +kernel
theorem dX5_trace_22 : decode cX5_trace 22 = .ok (.invokevirtual 114, 3) := by decide +kernel
theorem dX5_trace_25 : decode cX5_trace 25 = .ok (.ireturn, 1) := by decide +kernel
theorem dX5_trace_26 : decode cX5_trace 26 = .ok (.lconst 0, 1) := by decide +kernel
theorem dX5_trace_27 : decode cX5_trace 27 = .ok (.lstore 4, 2) := by decide +kernel
theorem dX5_trace_29 : decode cX5_trace 29 = .ok (.iload_n 3, 1) := by decide +kernel
theorem dX5_trace_30 : decode cX5_trace 30 = .ok (.ifCond .eq 7, 3) := by decide +kernel
theorem dX5_trace_33 : decode cX5_trace 33 = .ok (.iconst 1, 1) := by decide +kernel
theorem dX5_trace_34 : decode cX5_trace 34 = .ok (.goto 4, 3) := by decide +kernel
theorem dX5_trace_37 : decode cX5_trace 37 = .ok (.iconst 0, 1) := by decide +kernel
theorem dX5_trace_38 : decode cX5_trace 38 = .ok (.istore 6, 2) := by decide +kernel
theorem dX5_trace_40 : decode cX5_trace 40 = .ok (.iload 6, 2) := by decide +kernel
theorem dX5_trace_42 : decode cX5_trace 42 = .ok (.iload_n 1, 1) := by decide +kernel
theorem dX5_trace_43 : decode cX5_trace 43 = .ok (.invokestatic 106, 3) := by decide +kernel
theorem dX5_trace_46 : decode cX5_trace 46 = .ok (.if_icmp .ge 64, 3) := by decide +kernel
theorem dX5_trace_49 : decode cX5_trace 49 = .ok (.aload_n 0, 1) := by decide +kernel
theorem dX5_trace_50 : decode cX5_trace 50 = .ok (.iload_n 1, 1) := by decide +kernel
theorem dX5_trace_51 : decode cX5_trace 51 = .ok (.iload 6, 2) := by decide +kernel
theorem dX5_trace_53 : decode cX5_trace 53 = .ok (.invokevirtual 110, 3) := by decide +kernel
theorem dX5_trace_56 : decode cX5_trace 56 = .ok (.iconst 0, 1) := by decide +kernel
theorem dX5_trace_57 : decode cX5_trace 57 = .ok (.istore 7, 2) := by decide +kernel
theorem dX5_trace_59 : decode cX5_trace 59 = .ok (.iload 7, 2) := by decide +kernel
theorem dX5_trace_61 : decode cX5_trace 61 = .ok (.bipush 48, 2) := by decide +kernel
theorem dX5_trace_63 : decode cX5_trace 63 = .ok (.if_icmp .ge 23, 3) := by decide +kernel
theorem dX5_trace_66 : decode cX5_trace 66 = .ok (.aload_n 0, 1) := by decide +kernel
theorem dX5_trace_67 : decode cX5_trace 67 = .ok (.getfield 50, 3) := by decide +kernel
theorem dX5_trace_70 : decode cX5_trace 70 = .ok (.iload 7, 2) := by decide +kernel
theorem dX5_trace_72 : decode cX5_trace 72 = .ok (.aload_n 0, 1) := by decide +kernel
theorem dX5_trace_73 : decode cX5_trace 73 = .ok (.getfield 44, 3) := by decide +kernel
theorem dX5_trace_76 : decode cX5_trace 76 = .ok (.iload 7, 2) := by decide +kernel
theorem dX5_trace_78 : decode cX5_trace 78 = .ok (.laload, 1) := by decide +kernel
theorem dX5_trace_79 : decode cX5_trace 79 = .ok (.lastore, 1) := by decide +kernel
theorem dX5_trace_80 : decode cX5_trace 80 = .ok (.iinc 7 1, 3) := by decide +kernel
theorem dX5_trace_83 : decode cX5_trace 83 = .ok (.goto (-24), 3) := by decide +kernel
theorem dX5_trace_86 : decode cX5_trace 86 = .ok (.aload_n 0, 1) := by decide +kernel
theorem dX5_trace_87 : decode cX5_trace 87 = .ok (.iload_n 1, 1) := by decide +kernel
theorem dX5_trace_88 : decode cX5_trace 88 = .ok (.iload_n 2, 1) := by decide +kernel
theorem dX5_trace_89 : decode cX5_trace 89 = .ok (.invokevirtual 160, 3) := by decide +kernel
theorem dX5_trace_92 : decode cX5_trace 92 = .ok (.lload 4, 2) := by decide +kernel
theorem dX5_trace_94 : decode cX5_trace 94 = .ok (.aload_n 0, 1) := by decide +kernel
theorem dX5_trace_95 : decode cX5_trace 95 = .ok (.getfield 47, 3) := by decide +kernel
theorem dX5_trace_98 : decode cX5_trace 98 = .ok (.iload 6, 2) := by decide +kernel
theorem dX5_trace_100 : decode cX5_trace 100 = .ok (.laload, 1) := by decide +kernel
theorem dX5_trace_101 : decode cX5_trace 101 = .ok (.ladd, 1) := by decide +kernel
theorem dX5_trace_102 : decode cX5_trace 102 = .ok (.lstore 4, 2) := by decide +kernel
theorem dX5_trace_104 : decode cX5_trace 104 = .ok (.iinc 6 1, 3) := by decide +kernel
theorem dX5_trace_107 : decode cX5_trace 107 = .ok (.goto (-67), 3) := by decide +kernel
theorem dX5_trace_110 : decode cX5_trace 110 = .ok (.lload 4, 2) := by decide +kernel
theorem dX5_trace_112 : decode cX5_trace 112 = .ok (.ldc2_w 79, 3) := by decide +kernel
theorem dX5_trace_115 : decode cX5_trace 115 = .ok (.lrem, 1) := by decide +kernel
theorem dX5_trace_116 : decode cX5_trace 116 = .ok (.l2i, 1) := by decide +kernel
theorem dX5_trace_117 : decode cX5_trace 117 = .ok (.ireturn, 1) := by decide +kernel
theorem dX5_squares_0 : decode cX5_squares 0 = .ok (.iload_n 1, 1) := by decide +kernel
theorem dX5_squares_1 : decode cX5_squares 1 = .ok (.i2l, 1) := by decide +kernel
theorem dX5_squares_2 : decode cX5_squares 2 = .ok (.lconst 1, 1) := by decide +kernel
theorem dX5_squares_3 : decode cX5_squares 3 = .ok (.ldc2_w 175, 3) := by decide +kernel
theorem dX5_squares_6 : decode cX5_squares 6 = .ok (.invokestatic 98, 3) := by decide +kernel
theorem dX5_squares_9 : decode cX5_squares 9 = .ok (.ifCond .eq 15, 3) := by decide +kernel
theorem dX5_squares_12 : decode cX5_squares 12 = .ok (.iload_n 2, 1) := by decide +kernel
theorem dX5_squares_13 : decode cX5_squares 13 = .ok (.i2l, 1) := by decide +kernel
theorem dX5_squares_14 : decode cX5_squares 14 = .ok (.lconst 0, 1) := by decide +kernel
theorem dX5_squares_15 : decode cX5_squares 15 = .ok (.ldc2_w 177, 3) := by decide +kernel
theorem dX5_squares_18 : decode cX5_squares 18 = .ok (.invokestatic 98, 3) := by decide +kernel
theorem dX5_squares_21 : decode cX5_squares 21 = .ok (.ifCond .ne 10, 3) := by decide +kernel
theorem dX5_squares_24 : decode cX5_squares 24 = .ok (.aload_n 0, 1) := by decide +kernel
theorem dX5_squares_25 : decode cX5_squares 25 = .ok (.bipush (-7), 2) := by decide +kernel
theorem dX5_squares_27 : decode cX5_squares 27 = .ok (.invokevirtual 114, 3) := by decide +kernel
theorem dX5_squares_30 : decode cX5_squares 30 = .ok (.ireturn, 1) := by decide +kernel
theorem dX5_squares_31 : decode cX5_squares 31 = .ok (.iconst 0, 1) := by decide +kernel
theorem dX5_squares_32 : decode cX5_squares 32 = .ok (.istore_n 3, 1) := by decide +kernel
theorem dX5_squares_33 : decode cX5_squares 33 = .ok (.iload_n 3, 1) := by decide +kernel
theorem dX5_squares_34 : decode cX5_squares 34 = .ok (.bipush 100, 2) := by decide +kernel
theorem dX5_squares_36 : decode cX5_squares 36 = .ok (.if_icmp .ge 24, 3) := by decide +kernel
theorem dX5_squares_39 : decode cX5_squares 39 = .ok (.aload_n 0, 1) := by decide +kernel
theorem dX5_squares_40 : decode cX5_squares 40 = .ok (.getfield 53, 3) := by decide +kernel
theorem dX5_squares_43 : decode cX5_squares 43 = .ok (.iload_n 3, 1) := by decide +kernel
theorem dX5_squares_44 : decode cX5_squares 44 = .ok (.iload_n 3, 1) := by decide +kernel
theorem dX5_squares_45 : decode cX5_squares 45 = .ok (.ifCond .ne 7, 3) := by decide +kernel
theorem dX5_squares_48 : decode cX5_squares 48 = .ok (.lconst 1, 1) := by decide +kernel
theorem dX5_squares_49 : decode cX5_squares 49 = .ok (.goto 4, 3) := by decide +kernel
theorem dX5_squares_52 : decode cX5_squares 52 = .ok (.lconst 0, 1) := by decide +kernel
theorem dX5_squares_53 : decode cX5_squares 53 = .ok (.lastore, 1) := by decide +kernel
theorem dX5_squares_54 : decode cX5_squares 54 = .ok (.iinc 3 1, 3) := by decide +kernel
theorem dX5_squares_57 : decode cX5_squares 57 = .ok (.goto (-24), 3) := by decide +kernel
theorem dX5_squares_60 : decode cX5_squares 60 = .ok (.iconst 0, 1) := by decide +kernel
theorem dX5_squares_61 : decode cX5_squares 61 = .ok (.istore_n 3, 1) := by decide +kernel
theorem dX5_squares_62 : decode cX5_squares 62 = .ok (.iload_n 3, 1) := by decide +kernel
theorem dX5_squares_63 : decode cX5_squares 63 = .ok (.iload_n 1, 1) := by decide +kernel
theorem dX5_squares_64 : decode cX5_squares 64 = .ok (.if_icmp .ge 115, 3) := by decide +kernel
theorem dX5_squares_67 : decode cX5_squares 67 = .ok (.iconst 0, 1) := by decide +kernel
theorem dX5_squares_68 : decode cX5_squares 68 = .ok (.istore 4, 2) := by decide +kernel
theorem dX5_squares_70 : decode cX5_squares 70 = .ok (.iload 4, 2) := by decide +kernel
theorem dX5_squares_72 : decode cX5_squares 72 = .ok (.bipush 100, 2) := by decide +kernel
theorem dX5_squares_74 : decode cX5_squares 74 = .ok (.if_icmp .ge 69, 3) := by decide +kernel
theorem dX5_squares_77 : decode cX5_squares 77 = .ok (.aload_n 0, 1) := by decide +kernel
theorem dX5_squares_78 : decode cX5_squares 78 = .ok (.getfield 56, 3) := by decide +kernel
theorem dX5_squares_81 : decode cX5_squares 81 = .ok (.iload 4, 2) := by decide +kernel
theorem dX5_squares_83 : decode cX5_squares 83 = .ok (.aload_n 0, 1) := by decide +kernel
theorem dX5_squares_84 : decode cX5_squares 84 = .ok (.getfield 53, 3) := by decide +kernel
theorem dX5_squares_87 : decode cX5_squares 87 = .ok (.iload 4, 2) := by decide +kernel
theorem dX5_squares_89 : decode cX5_squares 89 = .ok (.laload, 1) := by decide +kernel
theorem dX5_squares_90 : decode cX5_squares 90 = .ok (.lastore, 1) := by decide +kernel
theorem dX5_squares_91 : decode cX5_squares 91 = .ok (.iconst 1, 1) := by decide +kernel
theorem dX5_squares_92 : decode cX5_squares 92 = .ok (.istore 5, 2) := by decide +kernel
theorem dX5_squares_94 : decode cX5_squares 94 = .ok (.iload 5, 2) := by decide +kernel
theorem dX5_squares_96 : decode cX5_squares 96 = .ok (.iload 5, 2) := by decide +kernel
theorem dX5_squares_98 : decode cX5_squares 98 = .ok (.imul, 1) := by decide +kernel
theorem dX5_squares_99 : decode cX5_squares 99 = .ok (.iload 4, 2) := by decide +kernel
theorem dX5_squares_101 : decode cX5_squares 101 = .ok (.if_icmp .gt 36, 3) := by decide +kernel
theorem dX5_squares_104 : decode cX5_squares 104 = .ok (.aload_n 0, 1) := by decide +kernel
theorem dX5_squares_105 : decode cX5_squares 105 = .ok (.getfield 56, 3) := by decide +kernel
theorem dX5_squares_108 : decode cX5_squares 108 = .ok (.iload 4, 2) := by decide +kernel
theorem dX5_squares_110 : decode cX5_squares 110 = .ok (.dup2, 1) := by decide +kernel
theorem dX5_squares_111 : decode cX5_squares 111 = .ok (.laload, 1) := by decide +kernel
theorem dX5_squares_112 : decode cX5_squares 112 = .ok (.ldc2_w 83, 3) := by decide +kernel
theorem dX5_squares_115 : decode cX5_squares 115 = .ok (.aload_n 0, 1) := by decide +kernel
theorem dX5_squares_116 : decode cX5_squares 116 = .ok (.getfield 53, 3) := by decide +kernel
theorem dX5_squares_119 : decode cX5_squares 119 = .ok (.iload 4, 2) := by decide +kernel
theorem dX5_squares_121 : decode cX5_squares 121 = .ok (.iload 5, 2) := by decide +kernel
theorem dX5_squares_123 : decode cX5_squares 123 = .ok (.iload 5, 2) := by decide +kernel
theorem dX5_squares_125 : decode cX5_squares 125 = .ok (.imul, 1) := by decide +kernel
theorem dX5_squares_126 : decode cX5_squares 126 = .ok (.isub, 1) := by decide +kernel
theorem dX5_squares_127 : decode cX5_squares 127 = .ok (.laload, 1) := by decide +kernel
theorem dX5_squares_128 : decode cX5_squares 128 = .ok (.lmul, 1) := by decide +kernel
theorem dX5_squares_129 : decode cX5_squares 129 = .ok (.ladd, 1) := by decide +kernel
theorem dX5_squares_130 : decode cX5_squares 130 = .ok (.lastore, 1) := by decide +kernel
theorem dX5_squares_131 : decode cX5_squares 131 = .ok (.iinc 5 1, 3) := by decide +kernel
theorem dX5_squares_134 : decode cX5_squares 134 = .ok (.goto (-40), 3) := by decide +kernel
theorem dX5_squares_137 : decode cX5_squares 137 = .ok (.iinc 4 1, 3) := by decide +kernel
theorem dX5_squares_140 : decode cX5_squares 140 = .ok (.goto (-70), 3) := by decide +kernel
theorem dX5_squares_143 : decode cX5_squares 143 = .ok (.iconst 0, 1) := by decide +kernel
theorem dX5_squares_144 : decode cX5_squares 144 = .ok (.istore 4, 2) := by decide +kernel
theorem dX5_squares_146 : decode cX5_squares 146 = .ok (.iload 4, 2) := by decide +kernel
theorem dX5_squares_148 : decode cX5_squares 148 = .ok (.bipush 100, 2) := by decide +kernel
theorem dX5_squares_150 : decode cX5_squares 150 = .ok (.if_icmp .ge 23, 3) := by decide +kernel
theorem dX5_squares_153 : decode cX5_squares 153 = .ok (.aload_n 0, 1) := by decide +kernel
theorem dX5_squares_154 : decode cX5_squares 154 = .ok (.getfield 53, 3) := by decide +kernel
theorem dX5_squares_157 : decode cX5_squares 157 = .ok (.iload 4, 2) := by decide +kernel
theorem dX5_squares_159 : decode cX5_squares 159 = .ok (.aload_n 0, 1) := by decide +kernel
theorem dX5_squares_160 : decode cX5_squares 160 = .ok (.getfield 56, 3) := by decide +kernel
theorem dX5_squares_163 : decode cX5_squares 163 = .ok (.iload 4, 2) := by decide +kernel
theorem dX5_squares_165 : decode cX5_squares 165 = .ok (.laload, 1) := by decide +kernel
theorem dX5_squares_166 : decode cX5_squares 166 = .ok (.lastore, 1) := by decide +kernel
theorem dX5_squares_167 : decode cX5_squares 167 = .ok (.iinc 4 1, 3) := by decide +kernel
theorem dX5_squares_170 : decode cX5_squares 170 = .ok (.goto (-24), 3) := by decide +kernel
theorem dX5_squares_173 : decode cX5_squares 173 = .ok (.iinc 3 1, 3) := by decide +kernel
theorem dX5_squares_176 : decode cX5_squares 176 = .ok (.goto (-114), 3) := by decide +kernel
theorem dX5_squares_179 : decode cX5_squares 179 = .ok (.aload_n 0, 1) := by decide +kernel
theorem dX5_squares_180 : decode cX5_squares 180 = .ok (.getfield 53, 3) := by decide +kernel
theorem dX5_squares_183 : decode cX5_squares 183 = .ok (.iload_n 2, 1) := by decide +kernel
theorem dX5_squares_184 : decode cX5_squares 184 = .ok (.laload, 1) := by decide +kernel
theorem dX5_squares_185 : decode cX5_squares 185 = .ok (.l2i, 1) := by decide +kernel
theorem dX5_squares_186 : decode cX5_squares 186 = .ok (.ireturn, 1) := by decide +kernel
theorem dX5_count_0 : decode cX5_count 0 = .ok (.aload_n 0, 1) := by decide +kernel
theorem dX5_count_1 : decode cX5_count 1 = .ok (.getfield 89, 3) := by decide +kernel
theorem dX5_count_4 : decode cX5_count 4 = .ok (.ireturn, 1) := by decide +kernel
theorem dX5_lay_0 : decode cX5_lay 0 = .ok (.aload_n 0, 1) := by decide +kernel
theorem dX5_lay_1 : decode cX5_lay 1 = .ok (.iload_n 1, 1) := by decide +kernel
theorem dX5_lay_2 : decode cX5_lay 2 = .ok (.invokevirtual 135, 3) := by decide +kernel
theorem dX5_lay_5 : decode cX5_lay 5 = .ok (.ifCond .ne 10, 3) := by decide +kernel
theorem dX5_lay_8 : decode cX5_lay 8 = .ok (.aload_n 0, 1) := by decide +kernel
theorem dX5_lay_9 : decode cX5_lay 9 = .ok (.bipush (-3), 2) := by decide +kernel
theorem dX5_lay_11 : decode cX5_lay 11 = .ok (.invokevirtual 114, 3) := by decide +kernel
theorem dX5_lay_14 : decode cX5_lay 14 = .ok (.ireturn, 1) := by decide +kernel
theorem dX5_lay_15 : decode cX5_lay 15 = .ok (.iload_n 2, 1) := by decide +kernel
theorem dX5_lay_16 : decode cX5_lay 16 = .ok (.ifCond .ge 10, 3) := by decide +kernel
theorem dX5_lay_19 : decode cX5_lay 19 = .ok (.aload_n 0, 1) := by decide +kernel
theorem dX5_lay_20 : decode cX5_lay 20 = .ok (.bipush (-4), 2) := by decide +kernel
theorem dX5_lay_22 : decode cX5_lay 22 = .ok (.invokevirtual 114, 3) := by decide +kernel
theorem dX5_lay_25 : decode cX5_lay 25 = .ok (.ireturn, 1) := by decide +kernel
theorem dX5_lay_26 : decode cX5_lay 26 = .ok (.iload_n 2, 1) := by decide +kernel
theorem dX5_lay_27 : decode cX5_lay 27 = .ok (.bipush 48, 2) := by decide +kernel
theorem dX5_lay_29 : decode cX5_lay 29 = .ok (.if_icmp .le 10, 3) := by decide +kernel
theorem dX5_lay_32 : decode cX5_lay 32 = .ok (.aload_n 0, 1) := by decide +kernel
theorem dX5_lay_33 : decode cX5_lay 33 = .ok (.bipush (-7), 2) := by decide +kernel
theorem dX5_lay_35 : decode cX5_lay 35 = .ok (.invokevirtual 114, 3) := by decide +kernel
theorem dX5_lay_38 : decode cX5_lay 38 = .ok (.ireturn, 1) := by decide +kernel
theorem dX5_lay_39 : decode cX5_lay 39 = .ok (.aload_n 0, 1) := by decide +kernel
theorem dX5_lay_40 : decode cX5_lay 40 = .ok (.iload_n 2, 1) := by decide +kernel
theorem dX5_lay_41 : decode cX5_lay 41 = .ok (.putfield 65, 3) := by decide +kernel
theorem dX5_lay_44 : decode cX5_lay 44 = .ok (.iconst 0, 1) := by decide +kernel
theorem dX5_lay_45 : decode cX5_lay 45 = .ok (.istore_n 3, 1) := by decide +kernel
theorem dX5_lay_46 : decode cX5_lay 46 = .ok (.iload_n 3, 1) := by decide +kernel
theorem dX5_lay_47 : decode cX5_lay 47 = .ok (.iload_n 2, 1) := by decide +kernel
theorem dX5_lay_48 : decode cX5_lay 48 = .ok (.if_icmp .ge 27, 3) := by decide +kernel
theorem dX5_lay_51 : decode cX5_lay 51 = .ok (.aload_n 0, 1) := by decide +kernel
theorem dX5_lay_52 : decode cX5_lay 52 = .ok (.getfield 59, 3) := by decide +kernel
theorem dX5_lay_55 : decode cX5_lay 55 = .ok (.iload_n 3, 1) := by decide +kernel
theorem dX5_lay_56 : decode cX5_lay 56 = .ok (.aload_n 0, 1) := by decide +kernel
theorem dX5_lay_57 : decode cX5_lay 57 = .ok (.getfield 7, 3) := by decide +kernel
theorem dX5_lay_60 : decode cX5_lay 60 = .ok (.bipush 48, 2) := by decide +kernel
theorem dX5_lay_62 : decode cX5_lay 62 = .ok (.iload_n 1, 1) := by decide +kernel
theorem dX5_lay_63 : decode cX5_lay 63 = .ok (.imul, 1) := by decide +kernel
theorem dX5_lay_64 : decode cX5_lay 64 = .ok (.iload_n 3, 1) := by decide +kernel
theorem dX5_lay_65 : decode cX5_lay 65 = .ok (.iadd, 1) := by decide +kernel
theorem dX5_lay_66 : decode cX5_lay 66 = .ok (.laload, 1) := by decide +kernel
theorem dX5_lay_67 : decode cX5_lay 67 = .ok (.l2i, 1) := by decide +kernel
theorem dX5_lay_68 : decode cX5_lay 68 = .ok (.iastore, 1) := by decide +kernel
theorem dX5_lay_69 : decode cX5_lay 69 = .ok (.iinc 3 1, 3) := by decide +kernel
theorem dX5_lay_72 : decode cX5_lay 72 = .ok (.goto (-26), 3) := by decide +kernel
theorem dX5_lay_75 : decode cX5_lay 75 = .ok (.iload_n 2, 1) := by decide +kernel
theorem dX5_lay_76 : decode cX5_lay 76 = .ok (.ireturn, 1) := by decide +kernel
theorem dX5_tell_0 : decode cX5_tell 0 = .ok (.aload_n 0, 1) := by decide +kernel
theorem dX5_tell_1 : decode cX5_tell 1 = .ok (.getfield 65, 3) := by decide +kernel
theorem dX5_tell_4 : decode cX5_tell 4 = .ok (.ifCond .ge 10, 3) := by decide +kernel
theorem dX5_tell_7 : decode cX5_tell 7 = .ok (.aload_n 0, 1) := by decide +kernel
theorem dX5_tell_8 : decode cX5_tell 8 = .ok (.bipush (-2), 2) := by decide +kernel
theorem dX5_tell_10 : decode cX5_tell 10 = .ok (.invokevirtual 114, 3) := by decide +kernel
theorem dX5_tell_13 : decode cX5_tell 13 = .ok (.ireturn, 1) := by decide +kernel
theorem dX5_tell_14 : decode cX5_tell 14 = .ok (.iload_n 1, 1) := by decide +kernel
theorem dX5_tell_15 : decode cX5_tell 15 = .ok (.i2l, 1) := by decide +kernel
theorem dX5_tell_16 : decode cX5_tell 16 = .ok (.lconst 0, 1) := by decide +kernel
theorem dX5_tell_17 : decode cX5_tell 17 = .ok (.aload_n 0, 1) := by decide +kernel
theorem dX5_tell_18 : decode cX5_tell 18 = .ok (.getfield 65, 3) := by decide +kernel
theorem dX5_tell_21 : decode cX5_tell 21 = .ok (.iconst 1, 1) := by decide +kernel
theorem dX5_tell_22 : decode cX5_tell 22 = .ok (.isub, 1) := by decide +kernel
theorem dX5_tell_23 : decode cX5_tell 23 = .ok (.i2l, 1) := by decide +kernel
theorem dX5_tell_24 : decode cX5_tell 24 = .ok (.invokestatic 98, 3) := by decide +kernel
theorem dX5_tell_27 : decode cX5_tell 27 = .ok (.ifCond .ne 10, 3) := by decide +kernel
theorem dX5_tell_30 : decode cX5_tell 30 = .ok (.aload_n 0, 1) := by decide +kernel
theorem dX5_tell_31 : decode cX5_tell 31 = .ok (.bipush (-3), 2) := by decide +kernel
theorem dX5_tell_33 : decode cX5_tell 33 = .ok (.invokevirtual 114, 3) := by decide +kernel
theorem dX5_tell_36 : decode cX5_tell 36 = .ok (.ireturn, 1) := by decide +kernel
theorem dX5_tell_37 : decode cX5_tell 37 = .ok (.aload_n 0, 1) := by decide +kernel
theorem dX5_tell_38 : decode cX5_tell 38 = .ok (.getfield 59, 3) := by decide +kernel
theorem dX5_tell_41 : decode cX5_tell 41 = .ok (.iload_n 1, 1) := by decide +kernel
theorem dX5_tell_42 : decode cX5_tell 42 = .ok (.iaload, 1) := by decide +kernel
theorem dX5_tell_43 : decode cX5_tell 43 = .ok (.istore_n 3, 1) := by decide +kernel
theorem dX5_tell_44 : decode cX5_tell 44 = .ok (.aload_n 0, 1) := by decide +kernel
theorem dX5_tell_45 : decode cX5_tell 45 = .ok (.getfield 59, 3) := by decide +kernel
theorem dX5_tell_48 : decode cX5_tell 48 = .ok (.iload_n 1, 1) := by decide +kernel
theorem dX5_tell_49 : decode cX5_tell 49 = .ok (.iload_n 2, 1) := by decide +kernel
theorem dX5_tell_50 : decode cX5_tell 50 = .ok (.invokestatic 138, 3) := by decide +kernel
theorem dX5_tell_53 : decode cX5_tell 53 = .ok (.l2i, 1) := by decide +kernel
theorem dX5_tell_54 : decode cX5_tell 54 = .ok (.iastore, 1) := by decide +kernel
theorem dX5_tell_55 : decode cX5_tell 55 = .ok (.iload_n 3, 1) := by decide +kernel
theorem dX5_tell_56 : decode cX5_tell 56 = .ok (.aload_n 0, 1) := by decide +kernel
theorem dX5_tell_57 : decode cX5_tell 57 = .ok (.getfield 59, 3) := by decide +kernel
theorem dX5_tell_60 : decode cX5_tell 60 = .ok (.iload_n 1, 1) := by decide +kernel
theorem dX5_tell_61 : decode cX5_tell 61 = .ok (.iaload, 1) := by decide +kernel
theorem dX5_tell_62 : decode cX5_tell 62 = .ok (.if_icmp .eq 7, 3) := by decide +kernel
theorem dX5_tell_65 : decode cX5_tell 65 = .ok (.iconst 1, 1) := by decide +kernel
theorem dX5_tell_66 : decode cX5_tell 66 = .ok (.goto 4, 3) := by decide +kernel
theorem dX5_tell_69 : decode cX5_tell 69 = .ok (.iconst 0, 1) := by decide +kernel
theorem dX5_tell_70 : decode cX5_tell 70 = .ok (.ireturn, 1) := by decide +kernel
theorem dX5_give_0 : decode cX5_give 0 = .ok (.aload_n 0, 1) := by decide +kernel
theorem dX5_give_1 : decode cX5_give 1 = .ok (.getfield 65, 3) := by decide +kernel
theorem dX5_give_4 : decode cX5_give 4 = .ok (.ifCond .ge 10, 3) := by decide +kernel
theorem dX5_give_7 : decode cX5_give 7 = .ok (.aload_n 0, 1) := by decide +kernel
theorem dX5_give_8 : decode cX5_give 8 = .ok (.bipush (-2), 2) := by decide +kernel
theorem dX5_give_10 : decode cX5_give 10 = .ok (.invokevirtual 114, 3) := by decide +kernel
theorem dX5_give_13 : decode cX5_give 13 = .ok (.ireturn, 1) := by decide +kernel
theorem dX5_give_14 : decode cX5_give 14 = .ok (.iload_n 1, 1) := by decide +kernel
theorem dX5_give_15 : decode cX5_give 15 = .ok (.invokestatic 163, 3) := by decide +kernel
theorem dX5_give_18 : decode cX5_give 18 = .ok (.ifCond .eq 14, 3) := by decide +kernel
theorem dX5_give_21 : decode cX5_give 21 = .ok (.aload_n 0, 1) := by decide +kernel
theorem dX5_give_22 : decode cX5_give 22 = .ok (.getfield 65, 3) := by decide +kernel
theorem dX5_give_25 : decode cX5_give 25 = .ok (.iload_n 1, 1) := by decide +kernel
theorem dX5_give_26 : decode cX5_give 26 = .ok (.invokestatic 106, 3) := by decide +kernel
theorem dX5_give_29 : decode cX5_give 29 = .ok (.if_icmp .ge 10, 3) := by decide +kernel
theorem dX5_give_32 : decode cX5_give 32 = .ok (.aload_n 0, 1) := by decide +kernel
theorem dX5_give_33 : decode cX5_give 33 = .ok (.bipush (-7), 2) := by decide +kernel
theorem dX5_give_35 : decode cX5_give 35 = .ok (.invokevirtual 114, 3) := by decide +kernel
theorem dX5_give_38 : decode cX5_give 38 = .ok (.ireturn, 1) := by decide +kernel
theorem dX5_give_39 : decode cX5_give 39 = .ok (.iconst 0, 1) := by decide +kernel
theorem dX5_give_40 : decode cX5_give 40 = .ok (.istore_n 2, 1) := by decide +kernel
theorem dX5_give_41 : decode cX5_give 41 = .ok (.iload_n 2, 1) := by decide +kernel
theorem dX5_give_42 : decode cX5_give 42 = .ok (.iload_n 1, 1) := by decide +kernel
theorem dX5_give_43 : decode cX5_give 43 = .ok (.invokestatic 106, 3) := by decide +kernel
theorem dX5_give_46 : decode cX5_give 46 = .ok (.if_icmp .ge 22, 3) := by decide +kernel
theorem dX5_give_49 : decode cX5_give 49 = .ok (.aload_n 0, 1) := by decide +kernel
theorem dX5_give_50 : decode cX5_give 50 = .ok (.getfield 50, 3) := by decide +kernel
theorem dX5_give_53 : decode cX5_give 53 = .ok (.iload_n 2, 1) := by decide +kernel
theorem dX5_give_54 : decode cX5_give 54 = .ok (.aload_n 0, 1) := by decide +kernel
theorem dX5_give_55 : decode cX5_give 55 = .ok (.getfield 59, 3) := by decide +kernel
theorem dX5_give_58 : decode cX5_give 58 = .ok (.iload_n 2, 1) := by decide +kernel
theorem dX5_give_59 : decode cX5_give 59 = .ok (.iaload, 1) := by decide +kernel
theorem dX5_give_60 : decode cX5_give 60 = .ok (.i2l, 1) := by decide +kernel
theorem dX5_give_61 : decode cX5_give 61 = .ok (.lastore, 1) := by decide +kernel
theorem dX5_give_62 : decode cX5_give 62 = .ok (.iinc 2 1, 3) := by decide +kernel
theorem dX5_give_65 : decode cX5_give 65 = .ok (.goto (-24), 3) := by decide +kernel
theorem dX5_give_68 : decode cX5_give 68 = .ok (.aload_n 0, 1) := by decide +kernel
theorem dX5_give_69 : decode cX5_give 69 = .ok (.aload_n 0, 1) := by decide +kernel
theorem dX5_give_70 : decode cX5_give 70 = .ok (.getfield 50, 3) := by decide +kernel
theorem dX5_give_73 : decode cX5_give 73 = .ok (.iload_n 1, 1) := by decide +kernel
theorem dX5_give_74 : decode cX5_give 74 = .ok (.invokevirtual 151, 3) := by decide +kernel
theorem dX5_give_77 : decode cX5_give 77 = .ok (.aload_n 0, 1) := by decide +kernel
theorem dX5_give_78 : decode cX5_give 78 = .ok (.iload_n 1, 1) := by decide +kernel
theorem dX5_give_79 : decode cX5_give 79 = .ok (.iconst 0, 1) := by decide +kernel
theorem dX5_give_80 : decode cX5_give 80 = .ok (.invokevirtual 154, 3) := by decide +kernel
theorem dX5_give_83 : decode cX5_give 83 = .ok (.aload_n 0, 1) := by decide +kernel
theorem dX5_give_84 : decode cX5_give 84 = .ok (.iload_n 1, 1) := by decide +kernel
theorem dX5_give_85 : decode cX5_give 85 = .ok (.invokevirtual 142, 3) := by decide +kernel
theorem dX5_give_88 : decode cX5_give 88 = .ok (.ireturn, 1) := by decide +kernel
theorem dX5_tear_0 : decode cX5_tear 0 = .ok (.aload_n 0, 1) := by decide +kernel
theorem dX5_tear_1 : decode cX5_tear 1 = .ok (.getfield 65, 3) := by decide +kernel
theorem dX5_tear_4 : decode cX5_tear 4 = .ok (.ifCond .lt 7, 3) := by decide +kernel
theorem dX5_tear_7 : decode cX5_tear 7 = .ok (.iconst 1, 1) := by decide +kernel
theorem dX5_tear_8 : decode cX5_tear 8 = .ok (.goto 4, 3) := by decide +kernel
theorem dX5_tear_11 : decode cX5_tear 11 = .ok (.iconst 0, 1) := by decide +kernel
theorem dX5_tear_12 : decode cX5_tear 12 = .ok (.istore_n 1, 1) := by decide +kernel
theorem dX5_tear_13 : decode cX5_tear 13 = .ok (.aload_n 0, 1) := by decide +kernel
theorem dX5_tear_14 : decode cX5_tear 14 = .ok (.iconst (-1), 1) := by decide +kernel
theorem dX5_tear_15 : decode cX5_tear 15 = .ok (.putfield 65, 3) := by decide +kernel
theorem dX5_tear_18 : decode cX5_tear 18 = .ok (.iload_n 1, 1) := by decide +kernel
theorem dX5_tear_19 : decode cX5_tear 19 = .ok (.ireturn, 1) := by decide +kernel
theorem dX5_row_0 : decode cX5_row 0 = .ok (.aload_n 0, 1) := by decide +kernel
theorem dX5_row_1 : decode cX5_row 1 = .ok (.getfield 65, 3) := by decide +kernel
theorem dX5_row_4 : decode cX5_row 4 = .ok (.ifCond .ge 10, 3) := by decide +kernel
theorem dX5_row_7 : decode cX5_row 7 = .ok (.aload_n 0, 1) := by decide +kernel
theorem dX5_row_8 : decode cX5_row 8 = .ok (.bipush (-2), 2) := by decide +kernel
theorem dX5_row_10 : decode cX5_row 10 = .ok (.invokevirtual 114, 3) := by decide +kernel
theorem dX5_row_13 : decode cX5_row 13 = .ok (.ireturn, 1) := by decide +kernel
theorem dX5_row_14 : decode cX5_row 14 = .ok (.iload_n 1, 1) := by decide +kernel
theorem dX5_row_15 : decode cX5_row 15 = .ok (.i2l, 1) := by decide +kernel
theorem dX5_row_16 : decode cX5_row 16 = .ok (.lconst 0, 1) := by decide +kernel
theorem dX5_row_17 : decode cX5_row 17 = .ok (.aload_n 0, 1) := by decide +kernel
theorem dX5_row_18 : decode cX5_row 18 = .ok (.getfield 65, 3) := by decide +kernel
theorem dX5_row_21 : decode cX5_row 21 = .ok (.iconst 1, 1) := by decide +kernel
theorem dX5_row_22 : decode cX5_row 22 = .ok (.isub, 1) := by decide +kernel
theorem dX5_row_23 : decode cX5_row 23 = .ok (.i2l, 1) := by decide +kernel
theorem dX5_row_24 : decode cX5_row 24 = .ok (.invokestatic 98, 3) := by decide +kernel
theorem dX5_row_27 : decode cX5_row 27 = .ok (.ifCond .eq 12, 3) := by decide +kernel
theorem dX5_row_30 : decode cX5_row 30 = .ok (.aload_n 0, 1) := by decide +kernel
theorem dX5_row_31 : decode cX5_row 31 = .ok (.getfield 59, 3) := by decide +kernel
theorem dX5_row_34 : decode cX5_row 34 = .ok (.iload_n 1, 1) := by decide +kernel
theorem dX5_row_35 : decode cX5_row 35 = .ok (.iaload, 1) := by decide +kernel
theorem dX5_row_36 : decode cX5_row 36 = .ok (.goto 9, 3) := by decide +kernel
theorem dX5_row_39 : decode cX5_row 39 = .ok (.aload_n 0, 1) := by decide +kernel
theorem dX5_row_40 : decode cX5_row 40 = .ok (.bipush (-3), 2) := by decide +kernel
theorem dX5_row_42 : decode cX5_row 42 = .ok (.invokevirtual 114, 3) := by decide +kernel
theorem dX5_row_45 : decode cX5_row 45 = .ok (.ireturn, 1) := by decide +kernel
theorem dX5_copy_0 : decode cX5_copy 0 = .ok (.aload_n 0, 1) := by decide +kernel
theorem dX5_copy_1 : decode cX5_copy 1 = .ok (.getfield 65, 3) := by decide +kernel
theorem dX5_copy_4 : decode cX5_copy 4 = .ok (.ifCond .ge 10, 3) := by decide +kernel
theorem dX5_copy_7 : decode cX5_copy 7 = .ok (.aload_n 0, 1) := by decide +kernel
theorem dX5_copy_8 : decode cX5_copy 8 = .ok (.bipush (-2), 2) := by decide +kernel
theorem dX5_copy_10 : decode cX5_copy 10 = .ok (.invokevirtual 114, 3) := by decide +kernel
theorem dX5_copy_13 : decode cX5_copy 13 = .ok (.ireturn, 1) := by decide +kernel
theorem dX5_copy_14 : decode cX5_copy 14 = .ok (.iload_n 3, 1) := by decide +kernel
theorem dX5_copy_15 : decode cX5_copy 15 = .ok (.ifCond .ge 10, 3) := by decide +kernel
theorem dX5_copy_18 : decode cX5_copy 18 = .ok (.aload_n 0, 1) := by decide +kernel
theorem dX5_copy_19 : decode cX5_copy 19 = .ok (.bipush (-4), 2) := by decide +kernel
theorem dX5_copy_21 : decode cX5_copy 21 = .ok (.invokevirtual 114, 3) := by decide +kernel
theorem dX5_copy_24 : decode cX5_copy 24 = .ok (.ireturn, 1) := by decide +kernel
theorem dX5_copy_25 : decode cX5_copy 25 = .ok (.iload_n 1, 1) := by decide +kernel
theorem dX5_copy_26 : decode cX5_copy 26 = .ok (.ifCond .lt 35, 3) := by decide +kernel
theorem dX5_copy_29 : decode cX5_copy 29 = .ok (.iload_n 2, 1) := by decide +kernel
theorem dX5_copy_30 : decode cX5_copy 30 = .ok (.ifCond .lt 31, 3) := by decide +kernel
theorem dX5_copy_33 : decode cX5_copy 33 = .ok (.iload_n 1, 1) := by decide +kernel
theorem dX5_copy_34 : decode cX5_copy 34 = .ok (.i2l, 1) := by decide +kernel
theorem dX5_copy_35 : decode cX5_copy 35 = .ok (.iload_n 3, 1) := by decide +kernel
theorem dX5_copy_36 : decode cX5_copy 36 = .ok (.i2l, 1) := by decide +kernel
theorem dX5_copy_37 : decode cX5_copy 37 = .ok (.ladd, 1) := by decide +kernel
theorem dX5_copy_38 : decode cX5_copy 38 = .ok (.aload_n 0, 1) := by decide +kernel
theorem dX5_copy_39 : decode cX5_copy 39 = .ok (.getfield 65, 3) := by decide +kernel
theorem dX5_copy_42 : decode cX5_copy 42 = .ok (.i2l, 1) := by decide +kernel
theorem dX5_copy_43 : decode cX5_copy 43 = .ok (.lcmp, 1) := by decide +kernel
theorem dX5_copy_44 : decode cX5_copy 44 = .ok (.ifCond .gt 17, 3) := by decide +kernel
theorem dX5_copy_47 : decode cX5_copy 47 = .ok (.iload_n 2, 1) := by decide +kernel
theorem dX5_copy_48 : decode cX5_copy 48 = .ok (.i2l, 1) := by decide +kernel
theorem dX5_copy_49 : decode cX5_copy 49 = .ok (.iload_n 3, 1) := by decide +kernel
theorem dX5_copy_50 : decode cX5_copy 50 = .ok (.i2l, 1) := by decide +kernel
theorem dX5_copy_51 : decode cX5_copy 51 = .ok (.ladd, 1) := by decide +kernel
theorem dX5_copy_52 : decode cX5_copy 52 = .ok (.aload_n 0, 1) := by decide +kernel
theorem dX5_copy_53 : decode cX5_copy 53 = .ok (.getfield 65, 3) := by decide +kernel
theorem dX5_copy_56 : decode cX5_copy 56 = .ok (.i2l, 1) := by decide +kernel
theorem dX5_copy_57 : decode cX5_copy 57 = .ok (.lcmp, 1) := by decide +kernel
theorem dX5_copy_58 : decode cX5_copy 58 = .ok (.ifCond .le 10, 3) := by decide +kernel
theorem dX5_copy_61 : decode cX5_copy 61 = .ok (.aload_n 0, 1) := by decide +kernel
theorem dX5_copy_62 : decode cX5_copy 62 = .ok (.bipush (-6), 2) := by decide +kernel
theorem dX5_copy_64 : decode cX5_copy 64 = .ok (.invokevirtual 114, 3) := by decide +kernel
theorem dX5_copy_67 : decode cX5_copy 67 = .ok (.ireturn, 1) := by decide +kernel
theorem dX5_copy_68 : decode cX5_copy 68 = .ok (.iconst 0, 1) := by decide +kernel
theorem dX5_copy_69 : decode cX5_copy 69 = .ok (.istore 4, 2) := by decide +kernel
theorem dX5_copy_71 : decode cX5_copy 71 = .ok (.iload 4, 2) := by decide +kernel
theorem dX5_copy_73 : decode cX5_copy 73 = .ok (.iload_n 3, 1) := by decide +kernel
theorem dX5_copy_74 : decode cX5_copy 74 = .ok (.if_icmp .ge 25, 3) := by decide +kernel
theorem dX5_copy_77 : decode cX5_copy 77 = .ok (.aload_n 0, 1) := by decide +kernel
theorem dX5_copy_78 : decode cX5_copy 78 = .ok (.getfield 62, 3) := by decide +kernel
theorem dX5_copy_81 : decode cX5_copy 81 = .ok (.iload 4, 2) := by decide +kernel
theorem dX5_copy_83 : decode cX5_copy 83 = .ok (.aload_n 0, 1) := by decide +kernel
theorem dX5_copy_84 : decode cX5_copy 84 = .ok (.getfield 59, 3) := by decide +kernel
theorem dX5_copy_87 : decode cX5_copy 87 = .ok (.iload_n 1, 1) := by decide +kernel
theorem dX5_copy_88 : decode cX5_copy 88 = .ok (.iload 4, 2) := by decide +kernel
theorem dX5_copy_90 : decode cX5_copy 90 = .ok (.iadd, 1) := by decide +kernel
theorem dX5_copy_91 : decode cX5_copy 91 = .ok (.iaload, 1) := by decide +kernel
theorem dX5_copy_92 : decode cX5_copy 92 = .ok (.iastore, 1) := by decide +kernel
theorem dX5_copy_93 : decode cX5_copy 93 = .ok (.iinc 4 1, 3) := by decide +kernel
theorem dX5_copy_96 : decode cX5_copy 96 = .ok (.goto (-25), 3) := by decide +kernel
theorem dX5_copy_99 : decode cX5_copy 99 = .ok (.iconst 0, 1) := by decide +kernel
theorem dX5_copy_100 : decode cX5_copy 100 = .ok (.istore 4, 2) := by decide +kernel
theorem dX5_copy_102 : decode cX5_copy 102 = .ok (.iload 4, 2) := by decide +kernel
theorem dX5_copy_104 : decode cX5_copy 104 = .ok (.iload_n 3, 1) := by decide +kernel
theorem dX5_copy_105 : decode cX5_copy 105 = .ok (.if_icmp .ge 25, 3) := by decide +kernel
theorem dX5_copy_108 : decode cX5_copy 108 = .ok (.aload_n 0, 1) := by decide +kernel
theorem dX5_copy_109 : decode cX5_copy 109 = .ok (.getfield 59, 3) := by decide +kernel
theorem dX5_copy_112 : decode cX5_copy 112 = .ok (.iload_n 2, 1) := by decide +kernel
theorem dX5_copy_113 : decode cX5_copy 113 = .ok (.iload 4, 2) := by decide +kernel
theorem dX5_copy_115 : decode cX5_copy 115 = .ok (.iadd, 1) := by decide +kernel
theorem dX5_copy_116 : decode cX5_copy 116 = .ok (.aload_n 0, 1) := by decide +kernel
theorem dX5_copy_117 : decode cX5_copy 117 = .ok (.getfield 62, 3) := by decide +kernel
theorem dX5_copy_120 : decode cX5_copy 120 = .ok (.iload 4, 2) := by decide +kernel
theorem dX5_copy_122 : decode cX5_copy 122 = .ok (.iaload, 1) := by decide +kernel
theorem dX5_copy_123 : decode cX5_copy 123 = .ok (.iastore, 1) := by decide +kernel
theorem dX5_copy_124 : decode cX5_copy 124 = .ok (.iinc 4 1, 3) := by decide +kernel
theorem dX5_copy_127 : decode cX5_copy 127 = .ok (.goto (-25), 3) := by decide +kernel
theorem dX5_copy_130 : decode cX5_copy 130 = .ok (.iload_n 3, 1) := by decide +kernel
theorem dX5_copy_131 : decode cX5_copy 131 = .ok (.ireturn, 1) := by decide +kernel
theorem dX5_status_0 : decode cX5_status 0 = .ok (.iload_n 1, 1) := by decide +kernel
theorem dX5_status_1 : decode cX5_status 1 = .ok (.i2l, 1) := by decide +kernel
theorem dX5_status_2 : decode cX5_status 2 = .ok (.ldc2_w 179, 3) := by decide +kernel
theorem dX5_status_5 : decode cX5_status 5 = .ok (.ldc2_w 181, 3) := by decide +kernel
theorem dX5_status_8 : decode cX5_status 8 = .ok (.invokestatic 98, 3) := by decide +kernel
theorem dX5_status_11 : decode cX5_status 11 = .ok (.ifCond .eq 13, 3) := by decide +kernel
theorem dX5_status_14 : decode cX5_status 14 = .ok (.aload_n 0, 1) := by decide +kernel
theorem dX5_status_15 : decode cX5_status 15 = .ok (.getfield 23, 3) := by decide +kernel
theorem dX5_status_18 : decode cX5_status 18 = .ok (.iload_n 1, 1) := by decide +kernel
theorem dX5_status_19 : decode cX5_status 19 = .ok (.ineg, 1) := by decide +kernel
theorem dX5_status_20 : decode cX5_status 20 = .ok (.iaload, 1) := by decide +kernel
theorem dX5_status_21 : decode cX5_status 21 = .ok (.goto 9, 3) := by decide +kernel
theorem dX5_status_24 : decode cX5_status 24 = .ok (.aload_n 0, 1) := by decide +kernel
theorem dX5_status_25 : decode cX5_status 25 = .ok (.bipush (-7), 2) := by decide +kernel
theorem dX5_status_27 : decode cX5_status 27 = .ok (.invokevirtual 114, 3) := by decide +kernel
theorem dX5_status_30 : decode cX5_status 30 = .ok (.ireturn, 1) := by decide +kernel
end
section
/-! ===== the world as a function of places: cell k of n stands at address ad k and holds w k ===== -/
abbrev zG : Type := va_G × ClassId × ClassId × ClassId × ClassId
def zC : List vw_C := [(RX0, TX0, 8), (RX1, TX1, 4), (RX4, TX4, 9), (RX5, TX5, 20)]
def zT (G : zG) : List (ClassId × FieldType) := [(G.2.1, .int), (G.2.2.1, .long), (G.2.2.2.1, .object RX1), (G.2.2.2.2, .array .long)]
def eI (G : zG) (n : Nat) (f : Nat → Int32) : va_E := .inl (G.2.1, n, .inl f)
def eL (G : zG) (n : Nat) (f : Nat → Int64) : va_E := .inl (G.2.2.1, n, .inr (.inl f))
def eF (G : zG) (n : Nat) (f : Nat → Option Nat) : va_E := .inl (G.2.2.2.1, n, .inr (.inr (.inr (.inr f))))
def eR (G : zG) (n : Nat) (f : Nat → Option Nat) : va_E := .inl (G.2.2.2.2, n, .inr (.inr (.inr (.inr f))))
def eO (k : Nat) (fs : List Value) : va_E := .inr (k, fs)
def pw (n : Nat) (ad : Nat → Nat) (w : Nat → va_E) : va_W := (List.range n).map (fun k => (ad k, w k))
theorem pw_len {n : Nat} {ad : Nat → Nat} {w : Nat → va_E} : (pw n ad w).length = n := by simp [pw]
theorem pw_get {n : Nat} {ad : Nat → Nat} {w : Nat → va_E} {k : Nat} (h : k < n) : (pw n ad w)[k]? = some (ad k, w k) := by
  simp [pw, List.getElem?_map, List.getElem?_range h]
theorem pw_set {n : Nat} {ad : Nat → Nat} {w : Nat → va_E} {k : Nat} {e : va_E} (h : k < n) : (pw n ad w).set k (ad k, e) = pw n ad (va_up w k e) := by
  apply List.ext_getElem?
  intro i
  by_cases hi : i < n
  · by_cases hk : i = k
    · subst hk
      rw [pw_get hi, List.getElem?_set_self (by rw [pw_len]; exact hi)]
      simp [va_up]
    · rw [List.getElem?_set_ne (Ne.symm hk), pw_get hi, pw_get hi]
      simp [va_up, hk]
  · rw [List.getElem?_eq_none (by rw [List.length_set, pw_len]; omega), List.getElem?_eq_none (by rw [pw_len]; omega)]
theorem pw_push {n : Nat} {ad : Nat → Nat} {w : Nat → va_E} {q : Nat} {e : va_E} : pw n ad w ++ [(q, e)] = pw (n + 1) (va_up ad n q) (va_up w n e) := by
  apply List.ext_getElem?
  intro i
  by_cases hi : i < n
  · rw [List.getElem?_append_left (by rw [pw_len]; exact hi), pw_get hi, pw_get (by omega)]
    simp [va_up, show i ≠ n by omega]
  · rw [List.getElem?_append_right (by rw [pw_len]; omega), pw_len]
    by_cases hn : i = n
    · subst hn
      rw [pw_get (by omega)]
      simp [va_up]
    · rw [List.getElem?_eq_none (by simp; omega), List.getElem?_eq_none (by rw [pw_len]; omega)]
def Wo (G : zG) (A : Nat → Prop) (H0 : Heap) (n : Nat) (ad : Nat → Nat) (w : Nat → va_E) (H : Heap) (locs : List Loc) : Prop :=
  va_P G.1 zC (pw n ad w) H ∧ va_D A (pw n ad w) ∧ va_S A H0 H locs
def Bs (G : zG) (p : Program) (s : State) (m : MethodId) (args : Array Value) (c : Code) (cc : ByteArray) (nL : Nat) (own : String) : Prop :=
  p.tables.exec = Jvm.exec ∧ c.code = cc ∧ c.maxLocals = nL ∧ s.vm.findClass own = some m.cls ∧ (∀ q ∈ lw_gd, q.before args s = true) ∧ va_K G.1 zC (zT G) s
theorem Wo.inj {G : zG} {A : Nat → Prop} {H0 : Heap} {n : Nat} {ad : Nat → Nat} {w : Nat → va_E} {H : Heap} {locs : List Loc} (h : Wo G A H0 n ad w H locs) {i j : Nat} (hi : i < n) (hj : j < n) (he : ad i = ad j) : i = j :=
  h.2.1.1 i j _ _ (pw_get hi) (pw_get hj) he
theorem pw_congr {n : Nat} {ad : Nat → Nat} {w w' : Nat → va_E} (h : ∀ k, k < n → w k = w' k) : pw n ad w = pw n ad w' := by
  unfold pw
  apply List.map_congr_left
  intro k hk
  rw [h k (List.mem_range.mp hk)]
theorem Wo.congr {G : zG} {A : Nat → Prop} {H0 : Heap} {n : Nat} {ad : Nat → Nat} {w w' : Nat → va_E} {H : Heap} {locs : List Loc} (h : Wo G A H0 n ad w H locs) (hw : ∀ k, k < n → w k = w' k) : Wo G A H0 n ad w' H locs := by
  unfold Wo at h ⊢
  rw [← pw_congr hw]
  exact h
section ZR
variable {p : Program} {l : Launch} {e : Env} {R : Room} {s : State} {m : MethodId} {args : Array Value} {below : List Frame} {meth : Method} {c : Code} {H : Heap} {locs : List Loc} {cells slots : Nat} {Q : State → Prop}
variable {cc : ByteArray} {pc : Nat} {ls : Array Slot} {rest : List Value} {A : Nat → Prop} {H0 : Heap} {G : zG} {n : Nat} {ad : Nat → Nat} {w : Nat → va_E} {own : String} {nL : Nat}
theorem z_lald (B : Bs G p s m args c cc nL own) (hW : Wo G A H0 n ad w H locs) (k : Nat) (hk : k < n) {N : Nat} {f : Nat → Int64} (he : w k = eL G N f) (j : Nat) (hj : j < N) (hN : N < 2 ^ 31) {v : Int64} (hv : f j = v) (hdg : decode cc pc = .ok (.laload, 1))
    (kk : W p l e R s m args below meth c H locs cells slots Q (F0 m (pc + 1) ls (.long v :: rest))) : W p l e R s m args below meth c H locs cells slots Q (F0 m pc ls (.int (nI j) :: .ref (ad k) :: rest)) :=
  va_lald B.1 B.2.1 B.2.2.2.2.2 hW.1 k 1 (by rw [pw_get hk, he]; rfl) rfl (vp_in_nI hj hN) hdg (by rw [nI_clamp (by omega), hv]; exact kk)
theorem z_iald (B : Bs G p s m args c cc nL own) (hW : Wo G A H0 n ad w H locs) (k : Nat) (hk : k < n) {N : Nat} {f : Nat → Int32} (he : w k = eI G N f) (j : Nat) (hj : j < N) (hN : N < 2 ^ 31) {v : Int32} (hv : f j = v) (hdg : decode cc pc = .ok (.iaload, 1))
    (kk : W p l e R s m args below meth c H locs cells slots Q (F0 m (pc + 1) ls (.int v :: rest))) : W p l e R s m args below meth c H locs cells slots Q (F0 m pc ls (.int (nI j) :: .ref (ad k) :: rest)) :=
  va_iald B.1 B.2.1 B.2.2.2.2.2 hW.1 k 0 (by rw [pw_get hk, he]; rfl) rfl (vp_in_nI hj hN) hdg (by rw [nI_clamp (by omega), hv]; exact kk)
theorem z_aald (B : Bs G p s m args c cc nL own) (hW : Wo G A H0 n ad w H locs) (k : Nat) (hk : k < n) {N : Nat} {f : Nat → Option Nat} (he : w k = eF G N f) (j : Nat) (hj : j < N) (hN : N < 2 ^ 31) {q : Nat} (hv : f j = some q) (hdg : decode cc pc = .ok (.aaload, 1))
    (kk : W p l e R s m args below meth c H locs cells slots Q (F0 m (pc + 1) ls (.ref q :: rest))) : W p l e R s m args below meth c H locs cells slots Q (F0 m pc ls (.int (nI j) :: .ref (ad k) :: rest)) :=
  va_aldq B.1 B.2.1 B.2.2.2.2.2 hW.1 k 2 (by rw [pw_get hk, he]; rfl) rfl (vp_in_nI hj hN) hdg (by rw [nI_clamp (by omega), hv]; exact kk)
theorem z_rald (B : Bs G p s m args c cc nL own) (hW : Wo G A H0 n ad w H locs) (k : Nat) (hk : k < n) {N : Nat} {f : Nat → Option Nat} (he : w k = eR G N f) (j : Nat) (hj : j < N) (hN : N < 2 ^ 31) {q : Nat} (hv : f j = some q) (hdg : decode cc pc = .ok (.aaload, 1))
    (kk : W p l e R s m args below meth c H locs cells slots Q (F0 m (pc + 1) ls (.ref q :: rest))) : W p l e R s m args below meth c H locs cells slots Q (F0 m pc ls (.int (nI j) :: .ref (ad k) :: rest)) := by
  have hin := vp_in_nI hj hN
  have hlt : (nI j).toNatClampNeg < N := by rw [nI_clamp (by omega)]; exact hj
  have ha : (pw n ad w)[k]? = some (ad k, .inl (G.2.2.2.2, N, .inr (.inr (.inr (.inr f))))) := by rw [pw_get hk, he]; rfl
  exact W.aald (v := va_rf (f (nI j).toNatClampNeg)) (ty := .array .long) B.1 B.2.1 (hW.1 k _ ha) ((B.2.2.2.2.2.2 3 _ rfl).1 N (fun j => va_rf (f j))) rfl (fun q => by cases q) (by show ¬ (nI j < 0 ∨ (arrV _ _ _).slots.size ≤ _); rw [arrV_size]; exact hin) (by show (arrV _ _ _).slots[_]? = _; rw [arrV_read _ _ hlt]) rfl rfl hdg (by rw [nI_clamp (by omega), hv]; exact kk)
theorem z_last (B : Bs G p s m args c cc nL own) (hW : Wo G A H0 n ad w H locs) (k : Nat) (hk : k < n) {N : Nat} {f : Nat → Int64} (he : w k = eL G N f) (j : Nat) (hj : j < N) (hN : N < 2 ^ 31) {x : Int64} (hdg : decode cc pc = .ok (.lastore, 1))
    (kk : ∀ (H1 : Heap) (locs1 : List Loc), Wo G A H0 n ad (va_up w k (eL G N (vp_updL f j x))) H1 locs1 → W p l e R s m args below meth c H1 locs1 cells slots Q (F0 m (pc + 1) ls rest)) : W p l e R s m args below meth c H locs cells slots Q (F0 m pc ls (.long x :: .int (nI j) :: .ref (ad k) :: rest)) :=
  va_last B.1 B.2.1 B.2.2.2.2.2 hW.1 hW.2.1 hW.2.2 k 1 (by rw [pw_get hk, he]; rfl) rfl (vp_in_nI hj hN) hdg (fun H1 locs1 h1 h2 h3 => by
    rw [nI_clamp (by omega)] at h1 h2
    refine kk H1 locs1 ⟨?_, ?_, h3⟩
    · rw [← pw_set hk]; exact h1
    · rw [← pw_set hk]; exact h2)
theorem z_iast (B : Bs G p s m args c cc nL own) (hW : Wo G A H0 n ad w H locs) (k : Nat) (hk : k < n) {N : Nat} {f : Nat → Int32} (he : w k = eI G N f) (j : Nat) (hj : j < N) (hN : N < 2 ^ 31) {x : Int32} (hdg : decode cc pc = .ok (.iastore, 1))
    (kk : ∀ (H1 : Heap) (locs1 : List Loc), Wo G A H0 n ad (va_up w k (eI G N (upd f j x))) H1 locs1 → W p l e R s m args below meth c H1 locs1 cells slots Q (F0 m (pc + 1) ls rest)) : W p l e R s m args below meth c H locs cells slots Q (F0 m pc ls (.int x :: .int (nI j) :: .ref (ad k) :: rest)) :=
  va_iast B.1 B.2.1 B.2.2.2.2.2 hW.1 hW.2.1 hW.2.2 k 0 (by rw [pw_get hk, he]; rfl) rfl (vp_in_nI hj hN) hdg (fun H1 locs1 h1 h2 h3 => by
    rw [nI_clamp (by omega)] at h1 h2
    refine kk H1 locs1 ⟨?_, ?_, h3⟩
    · rw [← pw_set hk]; exact h1
    · rw [← pw_set hk]; exact h2)
theorem z_get (B : Bs G p s m args c cc nL own) (hW : Wo G A H0 n ad w H locs) (k : Nat) (hk : k < n) {ci : Nat} {fs : List Value} (he : w k = eO ci fs) {C : String} {T : u_T} {N : Nat} (hc : zC[ci]? = some (C, T, N)) (hin : ∀ q ∈ u_ws C T N, q ∈ lw_gd) (i : Nat) (hi : i < N) {index : Nat} {ref : String} (hlink : Cond.fieldLink own index ref (T i).2.1 (T i).2.2.1 ∈ lw_gd) (href : (T i).1 = ref) {v : Value} (hv : fs[i]? = some v) (hdg : decode cc pc = .ok (.getfield index, 3))
    (kk : W p l e R s m args below meth c H locs cells slots Q (F0 m (pc + 3) ls (v :: rest))) : W p l e R s m args below meth c H locs cells slots Q (F0 m pc ls (.ref (ad k) :: rest)) :=
  va_get B.1 B.2.1 B.2.2.2.2.1 hin B.2.2.2.1 B.2.2.2.2.2 hW.1 k (by rw [pw_get hk, he]; rfl) hc i hi (B.2.2.2.2.1 _ hlink) (fun x h => by rw [← href]; exact h) hv hdg kk
theorem z_put (B : Bs G p s m args c cc nL own) (hW : Wo G A H0 n ad w H locs) (k : Nat) (hk : k < n) {ci : Nat} {fs : List Value} (he : w k = eO ci fs) {C : String} {T : u_T} {N : Nat} (hc : zC[ci]? = some (C, T, N)) (hin : ∀ q ∈ u_ws C T N, q ∈ lw_gd) (ty0 : Nat → FieldType) (hty : ∀ k, k < N → parseFieldDescriptor (T k).2.2.1 = some (ty0 k)) (hnm : ∀ a, a < N → ∀ b, b < N → a ≠ b → (T a).2.1 ≠ (T b).2.1) (i : Nat) (hi : i < N) {index : Nat} {ref : String} (hlink : Cond.fieldLink own index ref (T i).2.1 (T i).2.2.1 ∈ lw_gd) (href : (T i).1 = ref) (hfin : (T i).2.2.2 = false) {v : Value} (hn : narrow (ty0 i) v = v) (hfit : fits (ty0 i) v = true) (hl : i < fs.length) (hdg : decode cc pc = .ok (.putfield index, 3))
    (kk : ∀ (H1 : Heap) (locs1 : List Loc), Wo G A H0 n ad (va_up w k (eO ci (fs.set i v))) H1 locs1 → W p l e R s m args below meth c H1 locs1 cells slots Q (F0 m (pc + 3) ls rest)) : W p l e R s m args below meth c H locs cells slots Q (F0 m pc ls (v :: .ref (ad k) :: rest)) :=
  va_put B.1 B.2.1 B.2.2.2.2.1 hin ty0 hty hnm B.2.2.2.1 B.2.2.2.2.2 hW.1 hW.2.1 hW.2.2 k (by rw [pw_get hk, he]; rfl) hc i hi (B.2.2.2.2.1 _ hlink) (fun x h => by rw [← href]; exact h) hfin (hty i hi) hn hfit hl hdg (fun H1 locs1 h1 h2 h3 => by
    refine kk H1 locs1 ⟨?_, ?_, h3⟩
    · rw [← pw_set hk]; exact h1
    · rw [← pw_set hk]; exact h2)
theorem z_putF (B : Bs G p s m args c cc nL own) (hW : Wo G A H0 n ad w H locs) (k : Nat) (hk : k < n) {ci : Nat} {fs : List Value} (he : w k = eO ci fs) {C : String} {T : u_T} {N : Nat} (hc : zC[ci]? = some (C, T, N)) (hin : ∀ q ∈ u_ws C T N, q ∈ lw_gd) (ty0 : Nat → FieldType) (hty : ∀ k, k < N → parseFieldDescriptor (T k).2.2.1 = some (ty0 k)) (hnm : ∀ a, a < N → ∀ b, b < N → a ≠ b → (T a).2.1 ≠ (T b).2.1) (i : Nat) (hi : i < N) {index : Nat} {ref : String} (hlink : Cond.fieldLink own index ref (T i).2.1 (T i).2.2.1 ∈ lw_gd) (href : (T i).1 = ref) (hfin : (T i).2.2.2 = true) (hin2 : meth.name = "<init>") (hdecl : (T i).1 = own) {v : Value} (hn : narrow (ty0 i) v = v) (hfit : fits (ty0 i) v = true) (hl : i < fs.length) (hdg : decode cc pc = .ok (.putfield index, 3))
    (kk : ∀ (H1 : Heap) (locs1 : List Loc), Wo G A H0 n ad (va_up w k (eO ci (fs.set i v))) H1 locs1 → W p l e R s m args below meth c H1 locs1 cells slots Q (F0 m (pc + 3) ls rest)) : W p l e R s m args below meth c H locs cells slots Q (F0 m pc ls (v :: .ref (ad k) :: rest)) :=
  va_putF B.1 B.2.1 B.2.2.2.2.1 hin ty0 hty hnm B.2.2.2.1 B.2.2.2.2.2 hW.1 hW.2.1 hW.2.2 k (by rw [pw_get hk, he]; rfl) hc i hi (B.2.2.2.2.1 _ hlink) (fun x h => by rw [← href]; exact h) hfin hin2 hdecl (hty i hi) hn hfit hl hdg (fun H1 locs1 h1 h2 h3 => by
    refine kk H1 locs1 ⟨?_, ?_, h3⟩
    · rw [← pw_set hk]; exact h1
    · rw [← pw_set hk]; exact h2)
theorem z_alen (B : Bs G p s m args c cc nL own) (hW : Wo G A H0 n ad w H locs) (k : Nat) (hk : k < n) (t0 : Nat) {cA : ClassId} {x : vp_A} (he : w k = .inl (cA, x)) {ty : FieldType} (ht : (zT G)[t0]? = some (cA, ty)) (hdg : decode cc pc = .ok (.arraylength, 1))
    (kk : W p l e R s m args below meth c H locs cells slots Q (F0 m (pc + 1) ls (.int (nI x.1) :: rest))) : W p l e R s m args below meth c H locs cells slots Q (F0 m pc ls (.ref (ad k) :: rest)) :=
  va_alen B.1 B.2.1 B.2.2.2.2.2 hW.1 k t0 (by rw [pw_get hk, he]) ht rfl hdg kk
theorem z_copyl (B : Bs G p s m args c cc nL own) (hW : Wo G A H0 n ad w H locs) (hsz : ls.size = nL) {index : Nat} (hlink : Cond.methodLink own index arraycopyName ∈ lw_gd) (hnat : Cond.native arraycopyName ∈ lw_gd) (hstat : Cond.static arraycopyName ∈ lw_gd) (hini : Cond.initialized "java/lang/System" ∈ lw_gd)
    (k0 k1 : Nat) (hk0 : k0 < n) (hk1 : k1 < n) {n0 n1 : Nat} {f g : Nat → Int64} (he0 : w k0 = eL G n0 f) (he1 : w k1 = eL G n1 g) (sp dp t : Nat) (h4 : sp + t ≤ n0) (h5 : dp + t ≤ n1) (hn0 : n0 < 2 ^ 31) (hn1 : n1 < 2 ^ 31)
    (hframes : 1 ≤ R.frames) (hlocals : (rest.map fun v => v.category).sum + (nativeFrameWords "java/lang/System" "arraycopy" 5 + 11) ≤ R.locals) (hdg : decode cc pc = .ok (.invokestatic index, 3))
    (kk : ∀ (H1 : Heap) (locs1 : List Loc), Wo G A H0 n ad (va_up w k1 (eL G n1 (va_cpy f g sp dp t))) H1 locs1 → W p l e R s m args below meth c H1 locs1 cells slots Q (F0 m (pc + 3) ls rest)) : W p l e R s m args below meth c H locs cells slots Q (F0 m pc ls (.int (nI t) :: .int (nI dp) :: .ref (ad k1) :: .int (nI sp) :: .ref (ad k0) :: rest)) := by
  have c1 : (nI sp).toNatClampNeg = sp := nI_clamp (by omega)
  have c2 : (nI dp).toNatClampNeg = dp := nI_clamp (by omega)
  have c3 : (nI t).toNatClampNeg = t := nI_clamp (by omega)
  exact va_copyl (ty := .long) B.1 B.2.1 (by rw [B.2.2.1, hsz]) B.2.2.2.1 (B.2.2.2.2.1 _ hlink) (B.2.2.2.2.1 _ hnat) (B.2.2.2.2.1 _ hstat) (B.2.2.2.2.1 _ hini) B.2.2.2.2.2 hW.1 hW.2.1 hW.2.2 k0 k1 1 1 (by rw [pw_get hk0, he0]; rfl) (by rw [pw_get hk1, he1]; rfl) rfl rfl rfl (nI_pos (by omega)) (nI_pos (by omega)) (nI_pos (by omega)) (by rw [c1, c3]; exact h4) (by rw [c2, c3]; exact h5) (fun _ _ => rfl) hframes hlocals hdg (fun H1 locs1 h1 h2 h3 => by
    rw [c1, c2, c3] at h1 h2
    refine kk H1 locs1 ⟨?_, ?_, h3⟩
    · rw [← pw_set hk1]; exact h1
    · rw [← pw_set hk1]; exact h2)
end ZR
end
section
/-! ===== contracts over a world of places; entries, answers, calls ===== -/
theorem goodAll : ∀ q ∈ lw_gd, goodWord q = true := fun _ h => (List.mem_filter.mp h).2
set_option maxRecDepth 100000 in
theorem inX0 : ∀ q ∈ u_ws RX0 TX0 8, q ∈ lw_gd := by decide +kernel
set_option maxRecDepth 100000 in
theorem inX1 : ∀ q ∈ u_ws RX1 TX1 4, q ∈ lw_gd := by decide +kernel
set_option maxRecDepth 100000 in
theorem inX4 : ∀ q ∈ u_ws RX4 TX4 9, q ∈ lw_gd := by decide +kernel
set_option maxRecDepth 100000 in
theorem inX5 : ∀ q ∈ u_ws RX5 TX5 20, q ∈ lw_gd := by decide +kernel
/-- the room of a method that makes nothing, d calls deep -/
def zr (d : Nat) : Room := { frames := d, cells := 0, slots := 0, locals := 40 * d }
def Kt (G : zG) (n : Nat) (ad : Nat → Nat) (w : Nat → va_E) (sz : Nat) (U : State) : Prop := U.heap.size = sz ∧ va_P G.1 zC (pw n ad w) U.heap ∧ va_K G.1 zC (zT G) U ∧ va_D (fun _ => True) (pw n ad w)
def Kp (G : zG) (n : Nat) (ad : Nat → Nat) (A : Nat → Prop) (w : Nat → va_E) (t : State) : Prop := va_P G.1 zC (pw n ad w) t.heap ∧ va_K G.1 zC (zT G) t ∧ va_D A (pw n ad w)
def Ci (l : Launch) (G : zG) (y : MethodName) (cd : Cond) (rm : Room) (n : Nat) (ad : Nat → Nat) (w : Nat → va_E) (av : List Value) (post : Int32 → (Nat → va_E) → Prop) : Prop :=
  ∀ sz : Nat, Met l y (cd :: lw_gd) rm (va_Pc av (Kt G n ad w sz)) (va_Qi post (Kp G n ad (va_A (pw n ad w) sz)) (va_A (pw n ad w) sz)) 0 0 (va_A (pw n ad w) sz)
def Cl (l : Launch) (G : zG) (y : MethodName) (cd : Cond) (rm : Room) (n : Nat) (ad : Nat → Nat) (w : Nat → va_E) (av : List Value) (post : Int64 → (Nat → va_E) → Prop) : Prop :=
  ∀ sz : Nat, Met l y (cd :: lw_gd) rm (va_Pc av (Kt G n ad w sz)) (va_Ql post (Kp G n ad (va_A (pw n ad w) sz)) (va_A (pw n ad w) sz)) 0 0 (va_A (pw n ad w) sz)
def Cv (l : Launch) (G : zG) (y : MethodName) (cd : Cond) (rm : Room) (n : Nat) (ad : Nat → Nat) (w : Nat → va_E) (av : List Value) (post : (Nat → va_E) → Prop) : Prop :=
  ∀ sz : Nat, Met l y (cd :: lw_gd) rm (va_Pc av (Kt G n ad w sz)) (va_Qv post (Kp G n ad (va_A (pw n ad w) sz)) (va_A (pw n ad w) sz)) 0 0 (va_A (pw n ad w) sz)
def Kr (G : zG) (n : Nat) (ad : Nat → Nat) (A : Nat → Prop) (u : Nat × (Nat → va_E)) (a : Nat) (t : State) : Prop := a = u.1 ∧ Kp G n ad A u.2 t
def Cr (l : Launch) (G : zG) (y : MethodName) (cd : Cond) (rm : Room) (n : Nat) (ad : Nat → Nat) (w : Nat → va_E) (av : List Value) (post : Nat → (Nat → va_E) → Prop) : Prop :=
  ∀ sz : Nat, Met l y (cd :: lw_gd) rm (va_Pc av (Kt G n ad w sz)) (va_Qr (fun u : Nat × (Nat → va_E) => post u.1 u.2) (Kr G n ad (va_A (pw n ad w) sz)) (va_A (pw n ad w) sz)) 0 0 (va_A (pw n ad w) sz)
theorem Kt_blind {G : zG} {n : Nat} {ad : Nat → Nat} {w : Nat → va_E} {sz : Nat} {av : List Value} : FrameBlind (va_Pc av (Kt G n ad w sz)) := fun a U g mk q => by
  obtain ⟨q0, q1, qP, qK, qD⟩ := q
  exact ⟨q0, q1, qP, va_K.moved (u := U) (U := U.calling g mk a) (Vm.Alike.refl U.vm) qK, qD⟩
/-- what the tables say of a static method -/
def MfS (y : MethodName) (cd : Cond) (bytes : ByteArray) (maxL : Nat) (ret : Option FieldType) (np : Nat) : Prop :=
  cd = Cond.code y bytes maxL ret ∧ cd ∈ lw_gd ∧ Cond.static y ∈ lw_gd ∧ Cond.initialized y.cls ∈ lw_gd ∧ y.cls ≠ "java/lang/invoke/MethodHandle" ∧ y.cls ≠ "java/lang/invoke/VarHandle" ∧ (parseMethodDescriptor y.desc).map (fun d => d.parameters.length) = some np
/-- what the tables say of a method of objects -/
def MfV (y : MethodName) (cd : Cond) (bytes : ByteArray) (maxL : Nat) (ret : Option FieldType) (np : Nat) : Prop :=
  cd = Cond.code y bytes maxL ret ∧ cd ∈ lw_gd ∧ Cond.instanceMethod y ∈ lw_gd ∧ Cond.selects y.cls y y ∈ lw_gd ∧ Cond.initialized y.cls ∈ lw_gd ∧ y.cls ≠ "java/lang/invoke/MethodHandle" ∧ y.cls ≠ "java/lang/invoke/VarHandle" ∧ (parseMethodDescriptor y.desc).map (fun d => d.parameters.length) = some np
theorem goodS {y : MethodName} {cd : Cond} {bytes : ByteArray} {maxL : Nat} {ret : Option FieldType} {np : Nat} {own : String} {index : Nat} (M : MfS y cd bytes maxL ret np) (hl : Cond.methodLink own index y ∈ lw_gd) : GoodIn lw_gd (va_wsS own index y (cd :: lw_gd)) := by
  intro q hq
  have hm : q ∈ lw_gd := by
    simp only [va_wsS, List.cons_append, List.nil_append, List.mem_cons] at hq
    rcases hq with rfl | rfl | rfl | rfl | hq
    · exact hl
    · exact M.2.2.1
    · exact M.2.2.2.1
    · exact M.2.1
    · exact hq
  exact ⟨hm, good_of_word (goodAll q hm)⟩
theorem goodV {y : MethodName} {cd : Cond} {bytes : ByteArray} {maxL : Nat} {ret : Option FieldType} {np : Nat} {own : String} {index : Nat} (M : MfV y cd bytes maxL ret np) (hl : Cond.methodLink own index y ∈ lw_gd) : GoodIn lw_gd (wsV own index y.cls y (cd :: lw_gd)) := by
  intro q hq
  have hm : q ∈ lw_gd := by
    simp only [wsV, List.cons_append, List.nil_append, List.mem_cons] at hq
    rcases hq with rfl | rfl | rfl | rfl | rfl | hq
    · exact hl
    · exact M.2.2.1
    · exact M.2.2.2.1
    · exact M.2.2.2.2.1
    · exact M.2.1
    · exact hq
  exact ⟨hm, good_of_word (goodAll q hm)⟩
section ZE
variable {l : Launch} {G : zG} {y : MethodName} {cd : Cond} {rm : Room} {n : Nat} {ad : Nat → Nat} {w : Nat → va_E} {av : List Value} {cc : ByteArray} {maxL : Nat}
theorem ent_i {post : Int32 → (Nat → va_E) → Prop} {ret : Option FieldType} (hy : plainName y.cls = true) (hcd : cd = Cond.code y cc maxL ret) (hargs : (lg_sl av).length ≤ maxL)
    (body : ∀ (p : Program) (e : Env) (s : State) (m : MethodId) (args : Array Value) (below : List Frame) (meth : Method) (c : Code) (A : Nat → Prop), Bs G p s m args c cc maxL y.cls → meth.sig.returnType = ret → meth.locks = false → (∀ q, s.heap.size ≤ q → A q) → ∀ (H : Heap) (locs : List Loc) (ls : Array Slot), Wo G A s.heap n ad w H locs → lv_has ls maxL (lv_args 0 av) →
      W p l e rm s m args below meth c H locs 0 0 (MQ below (va_Qi post (Kp G n ad A) A) args s 0 0 A) (F0 m 0 ls [])) : Ci l G y cd rm n ad w av post := by
  intro sz
  refine Met.ofW (cc := cc) (maxL := maxL) (ret := ret) hy (by rw [hcd]) ?_
  intro p e s m args below meth c s₁ B hml hv
  obtain ⟨rfl, hsz, hP, hK, hD0⟩ := hv
  subst hsz
  have hts := atoms_spec (ws := cd :: lw_gd) B.pre
  have hl := lv_entry av (n := maxL) hargs
  rw [lg_entry_eq]
  exact body p e s m _ below meth c _ ⟨B.exec, B.bytes, hml, findClass_of_methodNamed B.named, fun q hq => hts q (List.mem_cons_of_mem _ hq), hK⟩ B.returns B.notSynchronized (fun q h => Or.inr h) _ _ _ ⟨hP, hD0.self, va_S.rf⟩ hl
theorem ent_l {post : Int64 → (Nat → va_E) → Prop} {ret : Option FieldType} (hy : plainName y.cls = true) (hcd : cd = Cond.code y cc maxL ret) (hargs : (lg_sl av).length ≤ maxL)
    (body : ∀ (p : Program) (e : Env) (s : State) (m : MethodId) (args : Array Value) (below : List Frame) (meth : Method) (c : Code) (A : Nat → Prop), Bs G p s m args c cc maxL y.cls → meth.sig.returnType = ret → meth.locks = false → (∀ q, s.heap.size ≤ q → A q) → ∀ (H : Heap) (locs : List Loc) (ls : Array Slot), Wo G A s.heap n ad w H locs → lv_has ls maxL (lv_args 0 av) →
      W p l e rm s m args below meth c H locs 0 0 (MQ below (va_Ql post (Kp G n ad A) A) args s 0 0 A) (F0 m 0 ls [])) : Cl l G y cd rm n ad w av post := by
  intro sz
  refine Met.ofW (cc := cc) (maxL := maxL) (ret := ret) hy (by rw [hcd]) ?_
  intro p e s m args below meth c s₁ B hml hv
  obtain ⟨rfl, hsz, hP, hK, hD0⟩ := hv
  subst hsz
  have hts := atoms_spec (ws := cd :: lw_gd) B.pre
  have hl := lv_entry av (n := maxL) hargs
  rw [lg_entry_eq]
  exact body p e s m _ below meth c _ ⟨B.exec, B.bytes, hml, findClass_of_methodNamed B.named, fun q hq => hts q (List.mem_cons_of_mem _ hq), hK⟩ B.returns B.notSynchronized (fun q h => Or.inr h) _ _ _ ⟨hP, hD0.self, va_S.rf⟩ hl
theorem ent_v {post : (Nat → va_E) → Prop} {ret : Option FieldType} (hy : plainName y.cls = true) (hcd : cd = Cond.code y cc maxL ret) (hargs : (lg_sl av).length ≤ maxL)
    (body : ∀ (p : Program) (e : Env) (s : State) (m : MethodId) (args : Array Value) (below : List Frame) (meth : Method) (c : Code) (A : Nat → Prop), Bs G p s m args c cc maxL y.cls → meth.sig.returnType = ret → meth.locks = false → (∀ q, s.heap.size ≤ q → A q) → ∀ (H : Heap) (locs : List Loc) (ls : Array Slot), Wo G A s.heap n ad w H locs → lv_has ls maxL (lv_args 0 av) →
      W p l e rm s m args below meth c H locs 0 0 (MQ below (va_Qv post (Kp G n ad A) A) args s 0 0 A) (F0 m 0 ls [])) : Cv l G y cd rm n ad w av post := by
  intro sz
  refine Met.ofW (cc := cc) (maxL := maxL) (ret := ret) hy (by rw [hcd]) ?_
  intro p e s m args below meth c s₁ B hml hv
  obtain ⟨rfl, hsz, hP, hK, hD0⟩ := hv
  subst hsz
  have hts := atoms_spec (ws := cd :: lw_gd) B.pre
  have hl := lv_entry av (n := maxL) hargs
  rw [lg_entry_eq]
  exact body p e s m _ below meth c _ ⟨B.exec, B.bytes, hml, findClass_of_methodNamed B.named, fun q hq => hts q (List.mem_cons_of_mem _ hq), hK⟩ B.returns B.notSynchronized (fun q h => Or.inr h) _ _ _ ⟨hP, hD0.self, va_S.rf⟩ hl
theorem ent_r {post : Nat → (Nat → va_E) → Prop} {ret : Option FieldType} (hy : plainName y.cls = true) (hcd : cd = Cond.code y cc maxL ret) (hargs : (lg_sl av).length ≤ maxL)
    (body : ∀ (p : Program) (e : Env) (s : State) (m : MethodId) (args : Array Value) (below : List Frame) (meth : Method) (c : Code) (A : Nat → Prop), Bs G p s m args c cc maxL y.cls → meth.sig.returnType = ret → meth.locks = false → (∀ q, s.heap.size ≤ q → A q) → ∀ (H : Heap) (locs : List Loc) (ls : Array Slot), Wo G A s.heap n ad w H locs → lv_has ls maxL (lv_args 0 av) →
      W p l e rm s m args below meth c H locs 0 0 (MQ below (va_Qr (fun u : Nat × (Nat → va_E) => post u.1 u.2) (Kr G n ad A) A) args s 0 0 A) (F0 m 0 ls [])) : Cr l G y cd rm n ad w av post := by
  intro sz
  refine Met.ofW (cc := cc) (maxL := maxL) (ret := ret) hy (by rw [hcd]) ?_
  intro p e s m args below meth c s₁ B hml hv
  obtain ⟨rfl, hsz, hP, hK, hD0⟩ := hv
  subst hsz
  have hts := atoms_spec (ws := cd :: lw_gd) B.pre
  have hl := lv_entry av (n := maxL) hargs
  rw [lg_entry_eq]
  exact body p e s m _ below meth c _ ⟨B.exec, B.bytes, hml, findClass_of_methodNamed B.named, fun q hq => hts q (List.mem_cons_of_mem _ hq), hK⟩ B.returns B.notSynchronized (fun q h => Or.inr h) _ _ _ ⟨hP, hD0.self, va_S.rf⟩ hl
end ZE
section ZK
variable {p : Program} {l : Launch} {e : Env} {R : Room} {s : State} {m : MethodId} {args : Array Value} {below : List Frame} {meth : Method} {c : Code} {H : Heap} {locs : List Loc} {cells slots : Nat} {Q : State → Prop}
variable {cc : ByteArray} {pc : Nat} {ls : Array Slot} {rest st : List Value} {A : Nat → Prop} {G : zG} {n : Nat} {ad : Nat → Nat} {w : Nat → va_E} {own : String} {nL : Nat}
theorem ret_i {post : Int32 → (Nat → va_E) → Prop} (B : Bs G p s m args c cc nL own) (hr : meth.sig.returnType = some .int) (hlk : meth.locks = false) (hW : Wo G A s.heap n ad w H locs) {v : Int32} (hp : post v w) (hdg : decode cc pc = .ok (.ireturn, 1)) :
    W p l e R s m args below meth c H locs cells slots (MQ below (va_Qi post (Kp G n ad A) A) args s cells slots A) (F0 m pc ls [.int v]) :=
  W.iret B.1 B.2.1 hr (fun t ht hWm => ⟨⟨v, w, rfl, hp, by rw [ht]; exact hW.1, va_K.moved hWm.alike B.2.2.2.2.2, hW.2.1⟩, hW.2.2.F ht⟩) hW.2.2.2.2 hdg hlk
theorem ret_z {post : Int32 → (Nat → va_E) → Prop} (B : Bs G p s m args c cc nL own) (hr : meth.sig.returnType = some .boolean) (hlk : meth.locks = false) (hW : Wo G A s.heap n ad w H locs) {v : Int32} (hn : narrow .boolean (.int v) = .int v) (hp : post v w) (hdg : decode cc pc = .ok (.ireturn, 1)) :
    W p l e R s m args below meth c H locs cells slots (MQ below (va_Qi post (Kp G n ad A) A) args s cells slots A) (F0 m pc ls [.int v]) :=
  W.zret B.1 B.2.1 hr hn (fun t ht hWm => ⟨⟨v, w, rfl, hp, by rw [ht]; exact hW.1, va_K.moved hWm.alike B.2.2.2.2.2, hW.2.1⟩, hW.2.2.F ht⟩) hW.2.2.2.2 hdg hlk
theorem ret_l {post : Int64 → (Nat → va_E) → Prop} (B : Bs G p s m args c cc nL own) (hr : meth.sig.returnType = some .long) (hlk : meth.locks = false) (hW : Wo G A s.heap n ad w H locs) {v : Int64} (hp : post v w) (hdg : decode cc pc = .ok (.lreturn, 1)) :
    W p l e R s m args below meth c H locs cells slots (MQ below (va_Ql post (Kp G n ad A) A) args s cells slots A) (F0 m pc ls [.long v]) :=
  W.lret B.1 B.2.1 hr (fun t ht hWm => ⟨⟨v, w, rfl, hp, by rw [ht]; exact hW.1, va_K.moved hWm.alike B.2.2.2.2.2, hW.2.1⟩, hW.2.2.F ht⟩) hW.2.2.2.2 hdg hlk
theorem ret_v {post : (Nat → va_E) → Prop} (B : Bs G p s m args c cc nL own) (hr : meth.sig.returnType = none) (hlk : meth.locks = false) (hW : Wo G A s.heap n ad w H locs) (hp : post w) (hdg : decode cc pc = .ok (.return_, 1)) :
    W p l e R s m args below meth c H locs cells slots (MQ below (va_Qv post (Kp G n ad A) A) args s cells slots A) (F0 m pc ls []) :=
  W.vret B.1 B.2.1 hr (fun t ht hWm => ⟨⟨w, rfl, hp, by rw [ht]; exact hW.1, va_K.moved hWm.alike B.2.2.2.2.2, hW.2.1⟩, hW.2.2.F ht⟩) hW.2.2.2.2 hdg hlk
theorem ret_r {post : Nat → (Nat → va_E) → Prop} {rt : FieldType} (B : Bs G p s m args c cc nL own) (hr : meth.sig.returnType = some rt) (hrt : (∃ n, rt = .object n) ∨ ∃ t, rt = .array t) (hlk : meth.locks = false) (hW : Wo G A s.heap n ad w H locs) {a : Nat} (hp : post a w) (hdg : decode cc pc = .ok (.areturn, 1)) :
    W p l e R s m args below meth c H locs cells slots (MQ below (va_Qr (fun u : Nat × (Nat → va_E) => post u.1 u.2) (Kr G n ad A) A) args s cells slots A) (F0 m pc ls [.ref a]) :=
  W.aret B.1 B.2.1 hr hrt (Or.inr ⟨a, rfl⟩) (fun t ht hWm => ⟨⟨(a, w), a, rfl, hp, rfl, by rw [ht]; exact hW.1, va_K.moved hWm.alike B.2.2.2.2.2, hW.2.1⟩, hW.2.2.F ht⟩) hW.2.2.2.2 hdg hlk
theorem Wo.fr (hA : ∀ q, s.heap.size ≤ q → A q) (hW : Wo G A s.heap n ad w H locs) : ∀ q, va_A (pw n ad w) H.size q → A q := by
  intro q h
  rcases h with ⟨k, e, h⟩ | h
  · exact hW.2.1.2 k _ h
  · exact hA q (Nat.le_trans hW.2.2.1 h)
variable {y : MethodName} {cd : Cond} {rm : Room} {av As : List Value} {bytes : ByteArray} {maxL np index : Nat}
theorem call_si {post : Int32 → (Nat → va_E) → Prop} {ret : Option FieldType} (B : Bs G p s m args c cc nL own) (hA : ∀ q, s.heap.size ≤ q → A q) (hW : Wo G A s.heap n ad w H locs) (hC : Ci l G y cd rm n ad w av post) (M : MfS y cd bytes maxL ret np) (hlink : Cond.methodLink own index y ∈ lw_gd) (hn : av.length = np) (hR : (rm.cells = 0 ∧ rm.slots = 0) ∧ rm.frames + 1 ≤ R.frames ∧ 8 + (maxL + 11) + rm.locals ≤ R.locals) (hcs : cells ≤ R.cells ∧ slots ≤ R.slots) (hsize : ls.size = nL) (hst : st = av.reverse ++ rest) (hcat : (rest.map fun v => v.category).sum ≤ 8) (hdg : decode cc pc = .ok (.invokestatic index, 3))
    (kk : ∀ (r : Int32) (w' : Nat → va_E) (H1 : Heap) (locs1 : List Loc), post r w' → Wo G A s.heap n ad w' H1 locs1 → W p l e R s m args below meth c H1 locs1 cells slots Q (F0 m (pc + 3) ls (.int r :: rest))) : W p l e R s m args below meth c H locs cells slots Q (F0 m pc ls st) := by
  subst hst
  have hAf := hW.fr hA
  refine va_calli (va_runS (As := av) (rest := rest) ⟨B.1, B.2.1, B.2.2.1, B.2.2.2.1, B.2.2.2.2.1⟩ (hC H.size) (va_cwS (ret := ret) (bytes := bytes) (maxL := maxL) np B.2.2.2.2.1 (goodS M hlink) (by rw [M.1]) hR.1.1 hR.1.2 ⟨M.2.2.2.2.1, M.2.2.2.2.2.1, M.2.2.2.2.2.2⟩ hR.2) ⟨Kt_blind, fun U hU hWm => ⟨rfl, by rw [hU], by rw [hU]; exact hW.1, va_K.moved hWm.alike B.2.2.2.2.2, hW.2.1.weaken (fun _ _ _ _ => trivial)⟩⟩ rfl hn hsize rfl (lv_room hcat) hdg hcs) hW.2.2 (fun q _ h => hAf q h) hAf (fun r w' t H1 locs1 ht hvm hw hB hz1 hk1 hS => ?_)
  obtain ⟨hP1, hK1, hD1⟩ := hB
  rw [ht] at hP1
  exact kk r w' H1 locs1 hw ⟨hP1, hD1.weaken (fun k q hq h => hAf _ h), hS⟩
theorem call_sl {post : Int64 → (Nat → va_E) → Prop} {ret : Option FieldType} (B : Bs G p s m args c cc nL own) (hA : ∀ q, s.heap.size ≤ q → A q) (hW : Wo G A s.heap n ad w H locs) (hC : Cl l G y cd rm n ad w av post) (M : MfS y cd bytes maxL ret np) (hlink : Cond.methodLink own index y ∈ lw_gd) (hn : av.length = np) (hR : (rm.cells = 0 ∧ rm.slots = 0) ∧ rm.frames + 1 ≤ R.frames ∧ 8 + (maxL + 11) + rm.locals ≤ R.locals) (hcs : cells ≤ R.cells ∧ slots ≤ R.slots) (hsize : ls.size = nL) (hst : st = av.reverse ++ rest) (hcat : (rest.map fun v => v.category).sum ≤ 8) (hdg : decode cc pc = .ok (.invokestatic index, 3))
    (kk : ∀ (r : Int64) (w' : Nat → va_E) (H1 : Heap) (locs1 : List Loc), post r w' → Wo G A s.heap n ad w' H1 locs1 → W p l e R s m args below meth c H1 locs1 cells slots Q (F0 m (pc + 3) ls (.long r :: rest))) : W p l e R s m args below meth c H locs cells slots Q (F0 m pc ls st) := by
  subst hst
  have hAf := hW.fr hA
  refine va_calll (va_runS (As := av) (rest := rest) ⟨B.1, B.2.1, B.2.2.1, B.2.2.2.1, B.2.2.2.2.1⟩ (hC H.size) (va_cwS (ret := ret) (bytes := bytes) (maxL := maxL) np B.2.2.2.2.1 (goodS M hlink) (by rw [M.1]) hR.1.1 hR.1.2 ⟨M.2.2.2.2.1, M.2.2.2.2.2.1, M.2.2.2.2.2.2⟩ hR.2) ⟨Kt_blind, fun U hU hWm => ⟨rfl, by rw [hU], by rw [hU]; exact hW.1, va_K.moved hWm.alike B.2.2.2.2.2, hW.2.1.weaken (fun _ _ _ _ => trivial)⟩⟩ rfl hn hsize rfl (lv_room hcat) hdg hcs) hW.2.2 (fun q _ h => hAf q h) hAf (fun r w' t H1 locs1 ht hvm hw hB hz1 hk1 hS => ?_)
  obtain ⟨hP1, hK1, hD1⟩ := hB
  rw [ht] at hP1
  exact kk r w' H1 locs1 hw ⟨hP1, hD1.weaken (fun k q hq h => hAf _ h), hS⟩
theorem call_sv {post : (Nat → va_E) → Prop} {ret : Option FieldType} (B : Bs G p s m args c cc nL own) (hA : ∀ q, s.heap.size ≤ q → A q) (hW : Wo G A s.heap n ad w H locs) (hC : Cv l G y cd rm n ad w av post) (M : MfS y cd bytes maxL ret np) (hlink : Cond.methodLink own index y ∈ lw_gd) (hn : av.length = np) (hR : (rm.cells = 0 ∧ rm.slots = 0) ∧ rm.frames + 1 ≤ R.frames ∧ 8 + (maxL + 11) + rm.locals ≤ R.locals) (hcs : cells ≤ R.cells ∧ slots ≤ R.slots) (hsize : ls.size = nL) (hst : st = av.reverse ++ rest) (hcat : (rest.map fun v => v.category).sum ≤ 8) (hdg : decode cc pc = .ok (.invokestatic index, 3))
    (kk : ∀ (w' : Nat → va_E) (H1 : Heap) (locs1 : List Loc), post w' → Wo G A s.heap n ad w' H1 locs1 → W p l e R s m args below meth c H1 locs1 cells slots Q (F0 m (pc + 3) ls rest)) : W p l e R s m args below meth c H locs cells slots Q (F0 m pc ls st) := by
  subst hst
  have hAf := hW.fr hA
  refine va_callv (va_runS (As := av) (rest := rest) ⟨B.1, B.2.1, B.2.2.1, B.2.2.2.1, B.2.2.2.2.1⟩ (hC H.size) (va_cwS (ret := ret) (bytes := bytes) (maxL := maxL) np B.2.2.2.2.1 (goodS M hlink) (by rw [M.1]) hR.1.1 hR.1.2 ⟨M.2.2.2.2.1, M.2.2.2.2.2.1, M.2.2.2.2.2.2⟩ hR.2) ⟨Kt_blind, fun U hU hWm => ⟨rfl, by rw [hU], by rw [hU]; exact hW.1, va_K.moved hWm.alike B.2.2.2.2.2, hW.2.1.weaken (fun _ _ _ _ => trivial)⟩⟩ rfl hn hsize rfl (lv_room hcat) hdg hcs) hW.2.2 (fun q _ h => hAf q h) hAf (fun w' t H1 locs1 ht hvm hw hB hz1 hk1 hS => ?_)
  obtain ⟨hP1, hK1, hD1⟩ := hB
  rw [ht] at hP1
  exact kk w' H1 locs1 hw ⟨hP1, hD1.weaken (fun k q hq h => hAf _ h), hS⟩
theorem call_vi {post : Int32 → (Nat → va_E) → Prop} {ret : Option FieldType} (B : Bs G p s m args c cc nL own) (hA : ∀ q, s.heap.size ≤ q → A q) (hW : Wo G A s.heap n ad w H locs) (k : Nat) (hk : k < n) {ci : Nat} {fs : List Value} (he : w k = eO ci fs) {r : vw_C} (hcl : zC[ci]? = some r) (hrn : r.1 = y.cls) (hC : Ci l G y cd rm n ad w (.ref (ad k) :: As) post) (M : MfV y cd bytes maxL ret np) (hlink : Cond.methodLink own index y ∈ lw_gd) (hn : As.length = np) (hR : (rm.cells = 0 ∧ rm.slots = 0) ∧ rm.frames + 1 ≤ R.frames ∧ 8 + (maxL + 11) + rm.locals ≤ R.locals) (hcs : cells ≤ R.cells ∧ slots ≤ R.slots) (hsize : ls.size = nL) (hst : st = As.reverse ++ .ref (ad k) :: rest) (hcat : (rest.map fun v => v.category).sum ≤ 8) (hdg : decode cc pc = .ok (.invokevirtual index, 3))
    (kk : ∀ (r : Int32) (w' : Nat → va_E) (H1 : Heap) (locs1 : List Loc), post r w' → Wo G A s.heap n ad w' H1 locs1 → W p l e R s m args below meth c H1 locs1 cells slots Q (F0 m (pc + 3) ls (.int r :: rest))) : W p l e R s m args below meth c H locs cells slots Q (F0 m pc ls st) := by
  subst hst
  have hAf := hW.fr hA
  refine va_calli (va_runV (C := y.cls) (As := As) (rest := rest) ⟨B.1, B.2.1, B.2.2.1, B.2.2.2.1, B.2.2.2.2.1⟩ (hC H.size) (cwV (ret := ret) (bytes := bytes) (maxL := maxL) np B.2.2.2.2.1 (goodV M hlink) (by rw [M.1]) hR.1.1 hR.1.2 ⟨rfl, M.2.2.2.2.2.1, M.2.2.2.2.2.2.1, M.2.2.2.2.2.2.2⟩ hR.2) ⟨Kt_blind, by rw [← hrn]; exact va_recv B.2.2.2.2.2 hW.1 hcl (by rw [pw_get hk, he]; rfl), fun U hU hWm => ⟨rfl, by rw [hU], by rw [hU]; exact hW.1, va_K.moved hWm.alike B.2.2.2.2.2, hW.2.1.weaken (fun _ _ _ _ => trivial)⟩⟩ rfl hn hsize rfl (lv_room hcat) hdg hcs) hW.2.2 (fun q _ h => hAf q h) hAf (fun r w' t H1 locs1 ht hvm hw hB hz1 hk1 hS => ?_)
  obtain ⟨hP1, hK1, hD1⟩ := hB
  rw [ht] at hP1
  exact kk r w' H1 locs1 hw ⟨hP1, hD1.weaken (fun k q hq h => hAf _ h), hS⟩
theorem call_vv {post : (Nat → va_E) → Prop} {ret : Option FieldType} (B : Bs G p s m args c cc nL own) (hA : ∀ q, s.heap.size ≤ q → A q) (hW : Wo G A s.heap n ad w H locs) (k : Nat) (hk : k < n) {ci : Nat} {fs : List Value} (he : w k = eO ci fs) {r : vw_C} (hcl : zC[ci]? = some r) (hrn : r.1 = y.cls) (hC : Cv l G y cd rm n ad w (.ref (ad k) :: As) post) (M : MfV y cd bytes maxL ret np) (hlink : Cond.methodLink own index y ∈ lw_gd) (hn : As.length = np) (hR : (rm.cells = 0 ∧ rm.slots = 0) ∧ rm.frames + 1 ≤ R.frames ∧ 8 + (maxL + 11) + rm.locals ≤ R.locals) (hcs : cells ≤ R.cells ∧ slots ≤ R.slots) (hsize : ls.size = nL) (hst : st = As.reverse ++ .ref (ad k) :: rest) (hcat : (rest.map fun v => v.category).sum ≤ 8) (hdg : decode cc pc = .ok (.invokevirtual index, 3))
    (kk : ∀ (w' : Nat → va_E) (H1 : Heap) (locs1 : List Loc), post w' → Wo G A s.heap n ad w' H1 locs1 → W p l e R s m args below meth c H1 locs1 cells slots Q (F0 m (pc + 3) ls rest)) : W p l e R s m args below meth c H locs cells slots Q (F0 m pc ls st) := by
  subst hst
  have hAf := hW.fr hA
  refine va_callv (va_runV (C := y.cls) (As := As) (rest := rest) ⟨B.1, B.2.1, B.2.2.1, B.2.2.2.1, B.2.2.2.2.1⟩ (hC H.size) (cwV (ret := ret) (bytes := bytes) (maxL := maxL) np B.2.2.2.2.1 (goodV M hlink) (by rw [M.1]) hR.1.1 hR.1.2 ⟨rfl, M.2.2.2.2.2.1, M.2.2.2.2.2.2.1, M.2.2.2.2.2.2.2⟩ hR.2) ⟨Kt_blind, by rw [← hrn]; exact va_recv B.2.2.2.2.2 hW.1 hcl (by rw [pw_get hk, he]; rfl), fun U hU hWm => ⟨rfl, by rw [hU], by rw [hU]; exact hW.1, va_K.moved hWm.alike B.2.2.2.2.2, hW.2.1.weaken (fun _ _ _ _ => trivial)⟩⟩ rfl hn hsize rfl (lv_room hcat) hdg hcs) hW.2.2 (fun q _ h => hAf q h) hAf (fun w' t H1 locs1 ht hvm hw hB hz1 hk1 hS => ?_)
  obtain ⟨hP1, hK1, hD1⟩ := hB
  rw [ht] at hP1
  exact kk w' H1 locs1 hw ⟨hP1, hD1.weaken (fun k q hq h => hAf _ h), hS⟩
theorem call_vr {post : Nat → (Nat → va_E) → Prop} {ret : Option FieldType} (B : Bs G p s m args c cc nL own) (hA : ∀ q, s.heap.size ≤ q → A q) (hW : Wo G A s.heap n ad w H locs) (k : Nat) (hk : k < n) {ci : Nat} {fs : List Value} (he : w k = eO ci fs) {r : vw_C} (hcl : zC[ci]? = some r) (hrn : r.1 = y.cls) (hC : Cr l G y cd rm n ad w (.ref (ad k) :: As) post) (M : MfV y cd bytes maxL ret np) (hlink : Cond.methodLink own index y ∈ lw_gd) (hn : As.length = np) (hR : (rm.cells = 0 ∧ rm.slots = 0) ∧ rm.frames + 1 ≤ R.frames ∧ 8 + (maxL + 11) + rm.locals ≤ R.locals) (hcs : cells ≤ R.cells ∧ slots ≤ R.slots) (hsize : ls.size = nL) (hst : st = As.reverse ++ .ref (ad k) :: rest) (hcat : (rest.map fun v => v.category).sum ≤ 8) (hdg : decode cc pc = .ok (.invokevirtual index, 3))
    (kk : ∀ (a : Nat) (w' : Nat → va_E) (H1 : Heap) (locs1 : List Loc), post a w' → Wo G A s.heap n ad w' H1 locs1 → W p l e R s m args below meth c H1 locs1 cells slots Q (F0 m (pc + 3) ls (.ref a :: rest))) : W p l e R s m args below meth c H locs cells slots Q (F0 m pc ls st) := by
  subst hst
  have hAf := hW.fr hA
  refine va_callr (va_runV (C := y.cls) (As := As) (rest := rest) ⟨B.1, B.2.1, B.2.2.1, B.2.2.2.1, B.2.2.2.2.1⟩ (hC H.size) (cwV (ret := ret) (bytes := bytes) (maxL := maxL) np B.2.2.2.2.1 (goodV M hlink) (by rw [M.1]) hR.1.1 hR.1.2 ⟨rfl, M.2.2.2.2.2.1, M.2.2.2.2.2.2.1, M.2.2.2.2.2.2.2⟩ hR.2) ⟨Kt_blind, by rw [← hrn]; exact va_recv B.2.2.2.2.2 hW.1 hcl (by rw [pw_get hk, he]; rfl), fun U hU hWm => ⟨rfl, by rw [hU], by rw [hU]; exact hW.1, va_K.moved hWm.alike B.2.2.2.2.2, hW.2.1.weaken (fun _ _ _ _ => trivial)⟩⟩ rfl hn hsize rfl (lv_room hcat) hdg hcs) hW.2.2 (fun q _ h => hAf q h) hAf (fun u a t H1 locs1 ht hvm hw hB hz1 hk1 hS => ?_)
  obtain ⟨e1, hP1, hK1, hD1⟩ := hB
  rw [ht] at hP1
  subst e1
  exact kk u.1 u.2 H1 locs1 hw ⟨hP1, hD1.weaken (fun k q hq h => hAf _ h), hS⟩
end ZK
end
section
/-! ===== numbers on the stack: naturals (nI, lN) and integers (iZ, lZ); loops ===== -/
def iZ (z : Int) : Int32 := Int32.ofInt z
def lZ (z : Int) : Int64 := Int64.ofInt z
theorem lN_Z (n : Nat) : lN n = lZ (n : Int) := by
  apply Int64.toBitVec_inj.mp
  simp [lN, lZ]
theorem nI_Z (n : Nat) : nI n = iZ (n : Int) := by
  apply Int32.toBitVec_inj.mp
  simp [nI, iZ]
theorem lZ_add (a b : Int) : lZ a + lZ b = lZ (a + b) := (Int64.ofInt_add a b).symm
theorem lZ_sub (a b : Int) : lZ a - lZ b = lZ (a - b) := (Int64.ofInt_sub a b).symm
theorem lZ_mul (a b : Int) : lZ a * lZ b = lZ (a * b) := (Int64.ofInt_mul a b).symm
theorem iZ_add (a b : Int) : iZ a + iZ b = iZ (a + b) := (Int32.ofInt_add a b).symm
theorem iZ_sub (a b : Int) : iZ a - iZ b = iZ (a - b) := (Int32.ofInt_sub a b).symm
theorem iZ_mul (a b : Int) : iZ a * iZ b = iZ (a * b) := (Int32.ofInt_mul a b).symm
theorem lZ_toInt {z : Int} (h1 : -9223372036854775808 ≤ z) (h2 : z < 9223372036854775808) : (lZ z).toInt = z := by
  unfold lZ
  rw [Int64.toInt_ofInt, show Int64.size = 18446744073709551616 from rfl]
  rw [Int.bmod_eq_of_le] <;> omega
theorem iZ_toInt {z : Int} (h1 : -2147483648 ≤ z) (h2 : z < 2147483648) : (iZ z).toInt = z := by
  unfold iZ
  rw [Int32.toInt_ofInt, show Int32.size = 4294967296 from rfl]
  rw [Int.bmod_eq_of_le] <;> omega
theorem iZ_of (x : Int32) : iZ x.toInt = x := Int32.ofInt_toInt x
theorem lZ_of (x : Int64) : lZ x.toInt = x := Int64.ofInt_toInt x
theorem rngI (x : Int32) : -2147483648 ≤ x.toInt ∧ x.toInt < 2147483648 := by
  have h1 := Int32.le_toInt x
  have h2 := Int32.toInt_lt x
  omega
theorem i2l_Z (x : Int32) : x.toInt64 = lZ x.toInt := by
  apply Int64.toInt_inj.mp
  have h := rngI x
  rw [lZ_toInt (by omega) (by omega)]
  exact Int32.toInt_toInt64 x
theorem iZ_i2l {z : Int} (h1 : -2147483648 ≤ z) (h2 : z < 2147483648) : (iZ z).toInt64 = lZ z := by
  rw [i2l_Z, iZ_toInt h1 h2]
theorem lN_ne0 {b : Nat} (h0 : 0 < b) (h : b < 2 ^ 63) : ¬ lN b = 0 := by
  intro h2
  have h3 : lN b = lN 0 := h2
  have := (pk_lEQ h (by omega)).mp h3
  omega
theorem iinc1 (a : Nat) : nI a + Int32.ofInt 1 = nI (a + 1) := nI_1 a
theorem iincN (k a : Nat) : nI a + Int32.ofInt (k : Int) = nI (a + k) := by
  rw [nI_Z a, nI_Z (a + k), Int.natCast_add, ← iZ_add]
  rfl
theorem im1 (x : Int32) : x + Int32.ofInt (-1) = x - 1 := by
  apply Int32.toBitVec_inj.mp
  simp [Int32.toBitVec_add, Int32.toBitVec_sub, BitVec.sub_eq_add_neg]

section ZN
variable {p : Program} {l : Launch} {e : Env} {R : Room} {s : State} {m : MethodId} {args : Array Value} {below : List Frame} {meth : Method} {c : Code} {H : Heap} {locs : List Loc} {cells slots : Nat} {Q : State → Prop}
variable {cc : ByteArray} {pc : Nat} {ls : Array Slot} {rest : List Value}

theorem topi {x y : Int32} (h : x = y) (k : W p l e R s m args below meth c H locs cells slots Q (F0 m pc ls (.int y :: rest))) : W p l e R s m args below meth c H locs cells slots Q (F0 m pc ls (.int x :: rest)) := by
  subst h; exact k
theorem topl {x y : Int64} (h : x = y) (k : W p l e R s m args below meth c H locs cells slots Q (F0 m pc ls (.long y :: rest))) : W p l e R s m args below meth c H locs cells slots Q (F0 m pc ls (.long x :: rest)) := by
  subst h; exact k
theorem n_iadd (hx : p.tables.exec = Jvm.exec) (hb : c.code = cc) {a b : Nat} (hdg : decode cc pc = .ok (.iadd, 1)) (k : W p l e R s m args below meth c H locs cells slots Q (F0 m (pc + 1) ls (.int (nI (a + b)) :: rest))) : W p l e R s m args below meth c H locs cells slots Q (F0 m pc ls (.int (nI b) :: .int (nI a) :: rest)) :=
  lv_iadd hx hb hdg (topi (nI_add a b) k)
theorem n_isub (hx : p.tables.exec = Jvm.exec) (hb : c.code = cc) {a b : Nat} (h : b ≤ a) (hdg : decode cc pc = .ok (.isub, 1)) (k : W p l e R s m args below meth c H locs cells slots Q (F0 m (pc + 1) ls (.int (nI (a - b)) :: rest))) : W p l e R s m args below meth c H locs cells slots Q (F0 m pc ls (.int (nI b) :: .int (nI a) :: rest)) :=
  lv_isub hx hb hdg (topi (pk_sub h) k)
theorem n_imul (hx : p.tables.exec = Jvm.exec) (hb : c.code = cc) {a b : Nat} (hdg : decode cc pc = .ok (.imul, 1)) (k : W p l e R s m args below meth c H locs cells slots Q (F0 m (pc + 1) ls (.int (nI (a * b)) :: rest))) : W p l e R s m args below meth c H locs cells slots Q (F0 m pc ls (.int (nI b) :: .int (nI a) :: rest)) :=
  lv_imul hx hb hdg (topi (pk_mul a b) k)
theorem n_idiv (hx : p.tables.exec = Jvm.exec) (hb : c.code = cc) {a b : Nat} (ha : a < 2 ^ 31) (h0 : 0 < b) (h : b < 2 ^ 31) (hdg : decode cc pc = .ok (.idiv, 1)) (k : W p l e R s m args below meth c H locs cells slots Q (F0 m (pc + 1) ls (.int (nI (a / b)) :: rest))) : W p l e R s m args below meth c H locs cells slots Q (F0 m pc ls (.int (nI b) :: .int (nI a) :: rest)) :=
  lv_idiv hx hb hdg (nI_ne0 h0 h) (topi (pk_div ha h0 h) k)
theorem n_irem (hx : p.tables.exec = Jvm.exec) (hb : c.code = cc) {a b : Nat} (ha : a < 2 ^ 31) (h0 : 0 < b) (h : b < 2 ^ 31) (hdg : decode cc pc = .ok (.irem, 1)) (k : W p l e R s m args below meth c H locs cells slots Q (F0 m (pc + 1) ls (.int (nI (a % b)) :: rest))) : W p l e R s m args below meth c H locs cells slots Q (F0 m pc ls (.int (nI b) :: .int (nI a) :: rest)) :=
  lv_irem hx hb hdg (nI_ne0 h0 h) (topi (pk_rem ha h0 h) k)
theorem n_ladd (hx : p.tables.exec = Jvm.exec) (hb : c.code = cc) {a b : Nat} (hdg : decode cc pc = .ok (.ladd, 1)) (k : W p l e R s m args below meth c H locs cells slots Q (F0 m (pc + 1) ls (.long (lN (a + b)) :: rest))) : W p l e R s m args below meth c H locs cells slots Q (F0 m pc ls (.long (lN b) :: .long (lN a) :: rest)) :=
  lv_ladd hx hb hdg (topl (lN_add a b) k)
theorem n_lsub (hx : p.tables.exec = Jvm.exec) (hb : c.code = cc) {a b : Nat} (h : b ≤ a) (hdg : decode cc pc = .ok (.lsub, 1)) (k : W p l e R s m args below meth c H locs cells slots Q (F0 m (pc + 1) ls (.long (lN (a - b)) :: rest))) : W p l e R s m args below meth c H locs cells slots Q (F0 m pc ls (.long (lN b) :: .long (lN a) :: rest)) :=
  lv_lsub hx hb hdg (topl (lN_sub h) k)
theorem n_lmul (hx : p.tables.exec = Jvm.exec) (hb : c.code = cc) {a b : Nat} (hdg : decode cc pc = .ok (.lmul, 1)) (k : W p l e R s m args below meth c H locs cells slots Q (F0 m (pc + 1) ls (.long (lN (a * b)) :: rest))) : W p l e R s m args below meth c H locs cells slots Q (F0 m pc ls (.long (lN b) :: .long (lN a) :: rest)) :=
  lv_lmul hx hb hdg (topl (lN_mul a b) k)
theorem n_ldiv (hx : p.tables.exec = Jvm.exec) (hb : c.code = cc) {a b : Nat} (ha : a < 2 ^ 63) (h0 : 0 < b) (h : b < 2 ^ 63) (hdg : decode cc pc = .ok (.ldiv, 1)) (k : W p l e R s m args below meth c H locs cells slots Q (F0 m (pc + 1) ls (.long (lN (a / b)) :: rest))) : W p l e R s m args below meth c H locs cells slots Q (F0 m pc ls (.long (lN b) :: .long (lN a) :: rest)) :=
  lv_ldiv hx hb hdg (lN_ne0 h0 h) (topl (pk_lDiv ha h0 h) k)
theorem n_lrem (hx : p.tables.exec = Jvm.exec) (hb : c.code = cc) {a b : Nat} (ha : a < 2 ^ 63) (h0 : 0 < b) (h : b < 2 ^ 63) (hdg : decode cc pc = .ok (.lrem, 1)) (k : W p l e R s m args below meth c H locs cells slots Q (F0 m (pc + 1) ls (.long (lN (a % b)) :: rest))) : W p l e R s m args below meth c H locs cells slots Q (F0 m pc ls (.long (lN b) :: .long (lN a) :: rest)) :=
  lv_lrem hx hb hdg (lN_ne0 h0 h) (topl (pk_lRem ha h0 h) k)
theorem z_iadd (hx : p.tables.exec = Jvm.exec) (hb : c.code = cc) {a b : Int} (hdg : decode cc pc = .ok (.iadd, 1)) (k : W p l e R s m args below meth c H locs cells slots Q (F0 m (pc + 1) ls (.int (iZ (a + b)) :: rest))) : W p l e R s m args below meth c H locs cells slots Q (F0 m pc ls (.int (iZ b) :: .int (iZ a) :: rest)) :=
  lv_iadd hx hb hdg (topi (iZ_add a b) k)
theorem z_ladd (hx : p.tables.exec = Jvm.exec) (hb : c.code = cc) {a b : Int} (hdg : decode cc pc = .ok (.ladd, 1)) (k : W p l e R s m args below meth c H locs cells slots Q (F0 m (pc + 1) ls (.long (lZ (a + b)) :: rest))) : W p l e R s m args below meth c H locs cells slots Q (F0 m pc ls (.long (lZ b) :: .long (lZ a) :: rest)) :=
  lv_ladd hx hb hdg (topl (lZ_add a b) k)
theorem z_isub (hx : p.tables.exec = Jvm.exec) (hb : c.code = cc) {a b : Int} (hdg : decode cc pc = .ok (.isub, 1)) (k : W p l e R s m args below meth c H locs cells slots Q (F0 m (pc + 1) ls (.int (iZ (a - b)) :: rest))) : W p l e R s m args below meth c H locs cells slots Q (F0 m pc ls (.int (iZ b) :: .int (iZ a) :: rest)) :=
  lv_isub hx hb hdg (topi (iZ_sub a b) k)
theorem z_lsub (hx : p.tables.exec = Jvm.exec) (hb : c.code = cc) {a b : Int} (hdg : decode cc pc = .ok (.lsub, 1)) (k : W p l e R s m args below meth c H locs cells slots Q (F0 m (pc + 1) ls (.long (lZ (a - b)) :: rest))) : W p l e R s m args below meth c H locs cells slots Q (F0 m pc ls (.long (lZ b) :: .long (lZ a) :: rest)) :=
  lv_lsub hx hb hdg (topl (lZ_sub a b) k)
theorem z_imul (hx : p.tables.exec = Jvm.exec) (hb : c.code = cc) {a b : Int} (hdg : decode cc pc = .ok (.imul, 1)) (k : W p l e R s m args below meth c H locs cells slots Q (F0 m (pc + 1) ls (.int (iZ (a * b)) :: rest))) : W p l e R s m args below meth c H locs cells slots Q (F0 m pc ls (.int (iZ b) :: .int (iZ a) :: rest)) :=
  lv_imul hx hb hdg (topi (iZ_mul a b) k)
theorem z_lmul (hx : p.tables.exec = Jvm.exec) (hb : c.code = cc) {a b : Int} (hdg : decode cc pc = .ok (.lmul, 1)) (k : W p l e R s m args below meth c H locs cells slots Q (F0 m (pc + 1) ls (.long (lZ (a * b)) :: rest))) : W p l e R s m args below meth c H locs cells slots Q (F0 m pc ls (.long (lZ b) :: .long (lZ a) :: rest)) :=
  lv_lmul hx hb hdg (topl (lZ_mul a b) k)
theorem n_i2l (hx : p.tables.exec = Jvm.exec) (hb : c.code = cc) {a : Nat} (h : a < 2 ^ 31) (hdg : decode cc pc = .ok (.i2l, 1)) (k : W p l e R s m args below meth c H locs cells slots Q (F0 m (pc + 1) ls (.long (lN a) :: rest))) : W p l e R s m args below meth c H locs cells slots Q (F0 m pc ls (.int (nI a) :: rest)) :=
  lv_i2l hx hb hdg (nI_l h) k
theorem n_l2i (hx : p.tables.exec = Jvm.exec) (hb : c.code = cc) {a : Nat} (hdg : decode cc pc = .ok (.l2i, 1)) (k : W p l e R s m args below meth c H locs cells slots Q (F0 m (pc + 1) ls (.int (nI a) :: rest))) : W p l e R s m args below meth c H locs cells slots Q (F0 m pc ls (.long (lN a) :: rest)) :=
  lv_l2i hx hb hdg (lN_i a) k
theorem z_i2l (hx : p.tables.exec = Jvm.exec) (hb : c.code = cc) {a : Int} (h1 : -2147483648 ≤ a) (h2 : a < 2147483648) (hdg : decode cc pc = .ok (.i2l, 1)) (k : W p l e R s m args below meth c H locs cells slots Q (F0 m (pc + 1) ls (.long (lZ a) :: rest))) : W p l e R s m args below meth c H locs cells slots Q (F0 m pc ls (.int (iZ a) :: rest)) :=
  lv_i2l hx hb hdg (iZ_i2l h1 h2) k
theorem r_i2l (hx : p.tables.exec = Jvm.exec) (hb : c.code = cc) {x : Int32} (hdg : decode cc pc = .ok (.i2l, 1)) (k : W p l e R s m args below meth c H locs cells slots Q (F0 m (pc + 1) ls (.long (lZ x.toInt) :: rest))) : W p l e R s m args below meth c H locs cells slots Q (F0 m pc ls (.int x :: rest)) :=
  lv_i2l hx hb hdg (i2l_Z x) k
theorem n_icmp_eq (hx : p.tables.exec = Jvm.exec) (hb : c.code = cc) {a b : Nat} (ha : a < 2 ^ 31) (hb2 : b < 2 ^ 31) {off : Int} {tgt : Nat} (hdg : decode cc pc = .ok (.if_icmp .eq off, 3)) (ht : (pc : Int) + off = (tgt : Int)) (kt : a = b → W p l e R s m args below meth c H locs cells slots Q (F0 m tgt ls rest)) (kf : ¬ a = b → W p l e R s m args below meth c H locs cells slots Q (F0 m (pc + 3) ls rest)) : W p l e R s m args below meth c H locs cells slots Q (F0 m pc ls (.int (nI b) :: .int (nI a) :: rest)) :=
  lv_icmp_eq hx hb hdg ht (fun h => kt ((nI_eq ha hb2).mp h)) (fun h => kf (fun q => h ((nI_eq ha hb2).mpr q)))
theorem n_icmp_ne (hx : p.tables.exec = Jvm.exec) (hb : c.code = cc) {a b : Nat} (ha : a < 2 ^ 31) (hb2 : b < 2 ^ 31) {off : Int} {tgt : Nat} (hdg : decode cc pc = .ok (.if_icmp .ne off, 3)) (ht : (pc : Int) + off = (tgt : Int)) (kt : ¬ a = b → W p l e R s m args below meth c H locs cells slots Q (F0 m tgt ls rest)) (kf : a = b → W p l e R s m args below meth c H locs cells slots Q (F0 m (pc + 3) ls rest)) : W p l e R s m args below meth c H locs cells slots Q (F0 m pc ls (.int (nI b) :: .int (nI a) :: rest)) :=
  lv_icmp_ne hx hb hdg ht (fun h => kt (fun q => h ((nI_eq ha hb2).mpr q))) (fun h => kf ((nI_eq ha hb2).mp h))
theorem n_icmp_lt (hx : p.tables.exec = Jvm.exec) (hb : c.code = cc) {a b : Nat} (ha : a < 2 ^ 31) (hb2 : b < 2 ^ 31) {off : Int} {tgt : Nat} (hdg : decode cc pc = .ok (.if_icmp .lt off, 3)) (ht : (pc : Int) + off = (tgt : Int)) (kt : a < b → W p l e R s m args below meth c H locs cells slots Q (F0 m tgt ls rest)) (kf : b ≤ a → W p l e R s m args below meth c H locs cells slots Q (F0 m (pc + 3) ls rest)) : W p l e R s m args below meth c H locs cells slots Q (F0 m pc ls (.int (nI b) :: .int (nI a) :: rest)) :=
  lv_icmp_lt hx hb hdg ht (fun h => kt ((nI_ltI ha hb2).mp h)) (fun h => kf (Nat.not_lt.mp (fun q => h ((nI_ltI ha hb2).mpr q))))
theorem n_icmp_ge (hx : p.tables.exec = Jvm.exec) (hb : c.code = cc) {a b : Nat} (ha : a < 2 ^ 31) (hb2 : b < 2 ^ 31) {off : Int} {tgt : Nat} (hdg : decode cc pc = .ok (.if_icmp .ge off, 3)) (ht : (pc : Int) + off = (tgt : Int)) (kt : b ≤ a → W p l e R s m args below meth c H locs cells slots Q (F0 m tgt ls rest)) (kf : a < b → W p l e R s m args below meth c H locs cells slots Q (F0 m (pc + 3) ls rest)) : W p l e R s m args below meth c H locs cells slots Q (F0 m pc ls (.int (nI b) :: .int (nI a) :: rest)) :=
  lv_icmp_ge hx hb hdg ht (fun h => kt ((nI_leI hb2 ha).mp h)) (fun h => kf (Nat.not_le.mp (fun q => h ((nI_leI hb2 ha).mpr q))))
theorem n_icmp_gt (hx : p.tables.exec = Jvm.exec) (hb : c.code = cc) {a b : Nat} (ha : a < 2 ^ 31) (hb2 : b < 2 ^ 31) {off : Int} {tgt : Nat} (hdg : decode cc pc = .ok (.if_icmp .gt off, 3)) (ht : (pc : Int) + off = (tgt : Int)) (kt : b < a → W p l e R s m args below meth c H locs cells slots Q (F0 m tgt ls rest)) (kf : a ≤ b → W p l e R s m args below meth c H locs cells slots Q (F0 m (pc + 3) ls rest)) : W p l e R s m args below meth c H locs cells slots Q (F0 m pc ls (.int (nI b) :: .int (nI a) :: rest)) :=
  lv_icmp_gt hx hb hdg ht (fun h => kt ((nI_ltI hb2 ha).mp h)) (fun h => kf (Nat.not_lt.mp (fun q => h ((nI_ltI hb2 ha).mpr q))))
theorem n_icmp_le (hx : p.tables.exec = Jvm.exec) (hb : c.code = cc) {a b : Nat} (ha : a < 2 ^ 31) (hb2 : b < 2 ^ 31) {off : Int} {tgt : Nat} (hdg : decode cc pc = .ok (.if_icmp .le off, 3)) (ht : (pc : Int) + off = (tgt : Int)) (kt : a ≤ b → W p l e R s m args below meth c H locs cells slots Q (F0 m tgt ls rest)) (kf : b < a → W p l e R s m args below meth c H locs cells slots Q (F0 m (pc + 3) ls rest)) : W p l e R s m args below meth c H locs cells slots Q (F0 m pc ls (.int (nI b) :: .int (nI a) :: rest)) :=
  lv_icmp_le hx hb hdg ht (fun h => kt ((nI_leI ha hb2).mp h)) (fun h => kf (Nat.not_le.mp (fun q => h ((nI_leI ha hb2).mpr q))))
theorem n_if_eq (hx : p.tables.exec = Jvm.exec) (hb : c.code = cc) {a : Nat} (ha : a < 2 ^ 31) {off : Int} {tgt : Nat} (hdg : decode cc pc = .ok (.ifCond .eq off, 3)) (ht : (pc : Int) + off = (tgt : Int)) (kt : a = 0 → W p l e R s m args below meth c H locs cells slots Q (F0 m tgt ls rest)) (kf : ¬ a = 0 → W p l e R s m args below meth c H locs cells slots Q (F0 m (pc + 3) ls rest)) : W p l e R s m args below meth c H locs cells slots Q (F0 m pc ls (.int (nI a) :: rest)) :=
  lv_if_eq hx hb hdg ht (fun h => kt ((nI_eq ha (by omega)).mp (h.trans nI_0.symm))) (fun h => kf (fun q => h (by rw [q]; exact nI_0)))
theorem n_if_ne (hx : p.tables.exec = Jvm.exec) (hb : c.code = cc) {a : Nat} (ha : a < 2 ^ 31) {off : Int} {tgt : Nat} (hdg : decode cc pc = .ok (.ifCond .ne off, 3)) (ht : (pc : Int) + off = (tgt : Int)) (kt : ¬ a = 0 → W p l e R s m args below meth c H locs cells slots Q (F0 m tgt ls rest)) (kf : a = 0 → W p l e R s m args below meth c H locs cells slots Q (F0 m (pc + 3) ls rest)) : W p l e R s m args below meth c H locs cells slots Q (F0 m pc ls (.int (nI a) :: rest)) :=
  lv_if_ne hx hb hdg ht (fun h => kt (fun q => h (by rw [q]; exact nI_0))) (fun h => kf ((nI_eq ha (by omega)).mp (h.trans nI_0.symm)))
theorem n_if_gt (hx : p.tables.exec = Jvm.exec) (hb : c.code = cc) {a : Nat} (ha : a < 2 ^ 31) {off : Int} {tgt : Nat} (hdg : decode cc pc = .ok (.ifCond .gt off, 3)) (ht : (pc : Int) + off = (tgt : Int)) (kt : 0 < a → W p l e R s m args below meth c H locs cells slots Q (F0 m tgt ls rest)) (kf : a = 0 → W p l e R s m args below meth c H locs cells slots Q (F0 m (pc + 3) ls rest)) : W p l e R s m args below meth c H locs cells slots Q (F0 m pc ls (.int (nI a) :: rest)) :=
  lv_if_gt hx hb hdg ht (fun h => kt (Nat.pos_of_ne_zero (fun q => by rw [q, nI_0] at h; exact absurd h (by decide)))) (fun h => kf (Nat.eq_zero_of_not_pos (fun q => h (by have := (nI_ltI (a := 0) (b := a) (by omega) ha).mpr q; rwa [nI_0] at this))))
theorem n_if_le (hx : p.tables.exec = Jvm.exec) (hb : c.code = cc) {a : Nat} (ha : a < 2 ^ 31) {off : Int} {tgt : Nat} (hdg : decode cc pc = .ok (.ifCond .le off, 3)) (ht : (pc : Int) + off = (tgt : Int)) (kt : a = 0 → W p l e R s m args below meth c H locs cells slots Q (F0 m tgt ls rest)) (kf : 0 < a → W p l e R s m args below meth c H locs cells slots Q (F0 m (pc + 3) ls rest)) : W p l e R s m args below meth c H locs cells slots Q (F0 m pc ls (.int (nI a) :: rest)) :=
  lv_if_le hx hb hdg ht (fun h => kt (Nat.eq_zero_of_not_pos (fun q => nI_nle q ha h))) (fun h => kf (Nat.pos_of_ne_zero (fun q => h (by rw [q, nI_0]; decide))))
theorem n_if_lt (hx : p.tables.exec = Jvm.exec) (hb : c.code = cc) {a : Nat} (ha : a < 2 ^ 31) {off : Int} (hdg : decode cc pc = .ok (.ifCond .lt off, 3)) {tgt : Nat} (ht : (pc : Int) + off = (tgt : Int)) (kf : W p l e R s m args below meth c H locs cells slots Q (F0 m (pc + 3) ls rest)) : W p l e R s m args below meth c H locs cells slots Q (F0 m pc ls (.int (nI a) :: rest)) :=
  lv_if_lt hx hb hdg ht (fun h => absurd h (nI_pos ha)) (fun _ => kf)
theorem n_if_ge (hx : p.tables.exec = Jvm.exec) (hb : c.code = cc) {a : Nat} (ha : a < 2 ^ 31) {off : Int} {tgt : Nat} (hdg : decode cc pc = .ok (.ifCond .ge off, 3)) (ht : (pc : Int) + off = (tgt : Int)) (kt : W p l e R s m args below meth c H locs cells slots Q (F0 m tgt ls rest)) : W p l e R s m args below meth c H locs cells slots Q (F0 m pc ls (.int (nI a) :: rest)) :=
  lv_if_ge hx hb hdg ht (fun _ => kt) (fun h => absurd (nI_pos' ha) h)
theorem lc_eq (hx : p.tables.exec = Jvm.exec) (hb : c.code = cc) {x y : Int64} {off : Int} {tgt : Nat} (hdc : decode cc pc = .ok (.lcmp, 1)) (hdg : decode cc (pc + 1) = .ok (.ifCond .eq off, 3)) (ht : ((pc + 1 : Nat) : Int) + off = (tgt : Int)) (kt : x = y → W p l e R s m args below meth c H locs cells slots Q (F0 m tgt ls rest)) (kf : ¬ x = y → W p l e R s m args below meth c H locs cells slots Q (F0 m (pc + 4) ls rest)) : W p l e R s m args below meth c H locs cells slots Q (F0 m pc ls (.long y :: .long x :: rest)) := by
  refine W.lcmp hx hb hdc ?_
  refine lv_if_eq hx hb hdg ht (fun h => kt ?_) (fun h => kf ?_)
  all_goals (unfold lg_cmp at h; simp only [gt_iff_lt, Int64.lt_iff_toInt_lt, Int64.le_iff_toInt_le, ← Int64.toInt_inj] at h ⊢; split at h <;> (try split at h) <;> (revert h; first | omega | (intro h; simp at h; omega) | (intro h; omega) | (intro h; exact absurd h (by decide)) | simp))
theorem lc_ne (hx : p.tables.exec = Jvm.exec) (hb : c.code = cc) {x y : Int64} {off : Int} {tgt : Nat} (hdc : decode cc pc = .ok (.lcmp, 1)) (hdg : decode cc (pc + 1) = .ok (.ifCond .ne off, 3)) (ht : ((pc + 1 : Nat) : Int) + off = (tgt : Int)) (kt : ¬ x = y → W p l e R s m args below meth c H locs cells slots Q (F0 m tgt ls rest)) (kf : x = y → W p l e R s m args below meth c H locs cells slots Q (F0 m (pc + 4) ls rest)) : W p l e R s m args below meth c H locs cells slots Q (F0 m pc ls (.long y :: .long x :: rest)) := by
  refine W.lcmp hx hb hdc ?_
  refine lv_if_ne hx hb hdg ht (fun h => kt ?_) (fun h => kf ?_)
  all_goals (unfold lg_cmp at h; simp only [gt_iff_lt, Int64.lt_iff_toInt_lt, Int64.le_iff_toInt_le, ← Int64.toInt_inj] at h ⊢; split at h <;> (try split at h) <;> (revert h; first | omega | (intro h; simp at h; omega) | (intro h; omega) | (intro h; exact absurd h (by decide)) | simp))
theorem lc_lt (hx : p.tables.exec = Jvm.exec) (hb : c.code = cc) {x y : Int64} {off : Int} {tgt : Nat} (hdc : decode cc pc = .ok (.lcmp, 1)) (hdg : decode cc (pc + 1) = .ok (.ifCond .lt off, 3)) (ht : ((pc + 1 : Nat) : Int) + off = (tgt : Int)) (kt : x < y → W p l e R s m args below meth c H locs cells slots Q (F0 m tgt ls rest)) (kf : y ≤ x → W p l e R s m args below meth c H locs cells slots Q (F0 m (pc + 4) ls rest)) : W p l e R s m args below meth c H locs cells slots Q (F0 m pc ls (.long y :: .long x :: rest)) := by
  refine W.lcmp hx hb hdc ?_
  refine lv_if_lt hx hb hdg ht (fun h => kt ?_) (fun h => kf ?_)
  all_goals (unfold lg_cmp at h; simp only [gt_iff_lt, Int64.lt_iff_toInt_lt, Int64.le_iff_toInt_le, ← Int64.toInt_inj] at h ⊢; split at h <;> (try split at h) <;> (revert h; first | omega | (intro h; simp at h; omega) | (intro h; omega) | (intro h; exact absurd h (by decide)) | simp))
theorem lc_ge (hx : p.tables.exec = Jvm.exec) (hb : c.code = cc) {x y : Int64} {off : Int} {tgt : Nat} (hdc : decode cc pc = .ok (.lcmp, 1)) (hdg : decode cc (pc + 1) = .ok (.ifCond .ge off, 3)) (ht : ((pc + 1 : Nat) : Int) + off = (tgt : Int)) (kt : y ≤ x → W p l e R s m args below meth c H locs cells slots Q (F0 m tgt ls rest)) (kf : x < y → W p l e R s m args below meth c H locs cells slots Q (F0 m (pc + 4) ls rest)) : W p l e R s m args below meth c H locs cells slots Q (F0 m pc ls (.long y :: .long x :: rest)) := by
  refine W.lcmp hx hb hdc ?_
  refine lv_if_ge hx hb hdg ht (fun h => kt ?_) (fun h => kf ?_)
  all_goals (unfold lg_cmp at h; simp only [gt_iff_lt, Int64.lt_iff_toInt_lt, Int64.le_iff_toInt_le, ← Int64.toInt_inj] at h ⊢; split at h <;> (try split at h) <;> (revert h; first | omega | (intro h; simp at h; omega) | (intro h; omega) | (intro h; exact absurd h (by decide)) | simp))
theorem lc_gt (hx : p.tables.exec = Jvm.exec) (hb : c.code = cc) {x y : Int64} {off : Int} {tgt : Nat} (hdc : decode cc pc = .ok (.lcmp, 1)) (hdg : decode cc (pc + 1) = .ok (.ifCond .gt off, 3)) (ht : ((pc + 1 : Nat) : Int) + off = (tgt : Int)) (kt : y < x → W p l e R s m args below meth c H locs cells slots Q (F0 m tgt ls rest)) (kf : x ≤ y → W p l e R s m args below meth c H locs cells slots Q (F0 m (pc + 4) ls rest)) : W p l e R s m args below meth c H locs cells slots Q (F0 m pc ls (.long y :: .long x :: rest)) := by
  refine W.lcmp hx hb hdc ?_
  refine lv_if_gt hx hb hdg ht (fun h => kt ?_) (fun h => kf ?_)
  all_goals (unfold lg_cmp at h; simp only [gt_iff_lt, Int64.lt_iff_toInt_lt, Int64.le_iff_toInt_le, ← Int64.toInt_inj] at h ⊢; split at h <;> (try split at h) <;> (revert h; first | omega | (intro h; simp at h; omega) | (intro h; omega) | (intro h; exact absurd h (by decide)) | simp))
theorem lc_le (hx : p.tables.exec = Jvm.exec) (hb : c.code = cc) {x y : Int64} {off : Int} {tgt : Nat} (hdc : decode cc pc = .ok (.lcmp, 1)) (hdg : decode cc (pc + 1) = .ok (.ifCond .le off, 3)) (ht : ((pc + 1 : Nat) : Int) + off = (tgt : Int)) (kt : x ≤ y → W p l e R s m args below meth c H locs cells slots Q (F0 m tgt ls rest)) (kf : y < x → W p l e R s m args below meth c H locs cells slots Q (F0 m (pc + 4) ls rest)) : W p l e R s m args below meth c H locs cells slots Q (F0 m pc ls (.long y :: .long x :: rest)) := by
  refine W.lcmp hx hb hdc ?_
  refine lv_if_le hx hb hdg ht (fun h => kt ?_) (fun h => kf ?_)
  all_goals (unfold lg_cmp at h; simp only [gt_iff_lt, Int64.lt_iff_toInt_lt, Int64.le_iff_toInt_le, ← Int64.toInt_inj] at h ⊢; split at h <;> (try split at h) <;> (revert h; first | omega | (intro h; simp at h; omega) | (intro h; omega) | (intro h; exact absurd h (by decide)) | simp))
theorem n_ldc2 {G : zG} {own : String} {nL : Nat} (B : Bs G p s m args c cc nL own) {index : Nat} {v x : Int64} (hc : Cond.constantLong own index v ∈ lw_gd) (hv : v = x) (hdg : decode cc pc = .ok (.ldc2_w index, 3)) (k : W p l e R s m args below meth c H locs cells slots Q (F0 m (pc + 3) ls (.long x :: rest))) : W p l e R s m args below meth c H locs cells slots Q (F0 m pc ls rest) := by
  subst hv
  exact lv_ldc2 B.1 B.2.1 B.2.2.2.1 (B.2.2.2.2.1 _ hc) hdg k
theorem n_ldc {G : zG} {own : String} {nL : Nat} (B : Bs G p s m args c cc nL own) {index : Nat} {v x : Int32} (hc : Cond.constant own index v ∈ lw_gd) (hv : v = x) (hdg : decode cc pc = .ok (.ldc index, 2)) (k : W p l e R s m args below meth c H locs cells slots Q (F0 m (pc + 2) ls (.int x :: rest))) : W p l e R s m args below meth c H locs cells slots Q (F0 m pc ls rest) := by
  subst hv
  exact lv_ldc B.1 B.2.1 B.2.2.2.1 (B.2.2.2.2.1 _ hc) hdg k
end ZN
theorem z_up {σ1 σ2 σ3 : Type} {I : Nat → σ1 → σ2 → σ3 → Prop} {Wg : σ1 → σ2 → σ3 → Prop} {a b : Nat} (hab : a ≤ b)
    (hstep : ∀ i, a ≤ i → i < b → (∀ x y z, I (i + 1) x y z → Wg x y z) → ∀ x y z, I i x y z → Wg x y z)
    (hexit : ∀ x y z, I b x y z → Wg x y z) : ∀ x y z, I a x y z → Wg x y z := by
  have key : ∀ d i, a ≤ i → i + d = b → ∀ x y z, I i x y z → Wg x y z := by
    intro d
    induction d with
    | zero => intro i _ h x y z hI; rw [Nat.add_zero] at h; rw [h] at hI; exact hexit x y z hI
    | succ d ih => intro i h1 h2 x y z hI; exact hstep i h1 (by omega) (ih (i + 1) (by omega) (by omega)) x y z hI
  exact key (b - a) a (Nat.le_refl a) (by omega)
theorem z_up1 {σ : Type} {I : Nat → σ → Prop} {Wg : σ → Prop} {a b : Nat} (hab : a ≤ b)
    (hstep : ∀ i, a ≤ i → i < b → (∀ x, I (i + 1) x → Wg x) → ∀ x, I i x → Wg x)
    (hexit : ∀ x, I b x → Wg x) : ∀ x, I a x → Wg x := by
  have key : ∀ d i, a ≤ i → i + d = b → ∀ x, I i x → Wg x := by
    intro d
    induction d with
    | zero => intro i _ h x hI; rw [Nat.add_zero] at h; rw [h] at hI; exact hexit x hI
    | succ d ih => intro i h1 h2 x hI; exact hstep i h1 (by omega) (ih (i + 1) (by omega) (by omega)) x hI
  exact key (b - a) a (Nat.le_refl a) (by omega)
theorem z_dn1 {σ : Type} {I : Nat → σ → Prop} {Wg : σ → Prop} (hexit : ∀ x, I 0 x → Wg x) (hstep : ∀ i, (∀ x, I i x → Wg x) → ∀ x, I (i + 1) x → Wg x) : ∀ (b : Nat) (x : σ), I b x → Wg x := by
  intro b
  induction b with
  | zero => exact hexit
  | succ b ih => exact hstep b ih
theorem z_dn {σ1 σ2 σ3 : Type} {I : Nat → σ1 → σ2 → σ3 → Prop} {Wg : σ1 → σ2 → σ3 → Prop}
    (hexit : ∀ x y z, I 0 x y z → Wg x y z)
    (hstep : ∀ i, (∀ x y z, I i x y z → Wg x y z) → ∀ x y z, I (i + 1) x y z → Wg x y z) : ∀ (b : Nat) (x : σ1) (y : σ2) (z : σ3), I b x y z → Wg x y z := by
  intro b
  induction b with
  | zero => exact hexit
  | succ b ih => exact hstep b ih
end
section
/-! ===== the methods: their code words, and what the tables say of them ===== -/
abbrev cdX4_init : Cond := Cond.code yX4_init cX4_init 2 none
abbrev cdX0_init : Cond := Cond.code yX0_init cX0_init 3 none
abbrev cdX2_rest : Cond := Cond.code yX2_rest cX2_rest 2 (some .long)
theorem mf_X2_rest : MfS yX2_rest cdX2_rest cX2_rest 2 (some .long) 1 := ⟨rfl, hw_28, hw_27, hw_3, by decide, by decide, by decide +kernel⟩
abbrev cdJ9_floorMod_f86c9 : Cond := Cond.code yJ9_floorMod_f86c9 cJ9_floorMod_f86c9 6 (some .long)
theorem mf_J9_floorMod_f86c9 : MfS yJ9_floorMod_f86c9 cdJ9_floorMod_f86c9 cJ9_floorMod_f86c9 6 (some .long) 2 := ⟨rfl, hw_32, hw_31, hw_4, by decide, by decide, by decide +kernel⟩
abbrev cdX3_putSums : Cond := Cond.code yX3_putSums cX3_putSums 8 none
theorem mf_X3_putSums : MfS yX3_putSums cdX3_putSums cX3_putSums 8 none 3 := ⟨rfl, hw_35, hw_34, hw_5, by decide, by decide, by decide +kernel⟩
abbrev cdX3_putOne : Cond := Cond.code yX3_putOne cX3_putOne 2 none
theorem mf_X3_putOne : MfS yX3_putOne cdX3_putOne cX3_putOne 2 none 1 := ⟨rfl, hw_38, hw_37, hw_5, by decide, by decide, by decide +kernel⟩
abbrev cdX2_raised : Cond := Cond.code yX2_raised cX2_raised 6 (some .long)
theorem mf_X2_raised : MfS yX2_raised cdX2_raised cX2_raised 6 (some .long) 2 := ⟨rfl, hw_41, hw_40, hw_3, by decide, by decide, by decide +kernel⟩
abbrev cdX3_putD : Cond := Cond.code yX3_putD cX3_putD 4 none
theorem mf_X3_putD : MfS yX3_putD cdX3_putD cX3_putD 4 none 1 := ⟨rfl, hw_47, hw_46, hw_5, by decide, by decide, by decide +kernel⟩
abbrev cdX3_raise : Cond := Cond.code yX3_raise cX3_raise 4 none
theorem mf_X3_raise : MfS yX3_raise cdX3_raise cX3_raise 4 none 3 := ⟨rfl, hw_51, hw_50, hw_5, by decide, by decide, by decide +kernel⟩
abbrev cdX3_multiply : Cond := Cond.code yX3_multiply cX3_multiply 7 none
theorem mf_X3_multiply : MfS yX3_multiply cdX3_multiply cX3_multiply 7 none 3 := ⟨rfl, hw_54, hw_53, hw_5, by decide, by decide, by decide +kernel⟩
abbrev cdX0_countSize : Cond := Cond.code yX0_countSize cX0_countSize 3 (some .int)
theorem mf_X0_countSize : MfS yX0_countSize cdX0_countSize cX0_countSize 3 (some .int) 1 := ⟨rfl, hw_60, hw_59, hw_2, by decide, by decide, by decide +kernel⟩
abbrev cdX1_init : Cond := Cond.code yX1_init cX1_init 1 none
abbrev cdX4_sums : Cond := Cond.code yX4_sums cX4_sums 5 (some .int)
theorem mf_X4_sums : MfV yX4_sums cdX4_sums cX4_sums 5 (some .int) 1 := ⟨rfl, hw_143, hw_141, hw_142, hw_1, by decide, by decide, by decide +kernel⟩
abbrev cdX4_sumsIndex : Cond := Cond.code yX4_sumsIndex cX4_sumsIndex 2 (some .int)
theorem mf_X4_sumsIndex : MfS yX4_sumsIndex cdX4_sumsIndex cX4_sumsIndex 2 (some .int) 1 := ⟨rfl, hw_146, hw_145, hw_1, by decide, by decide, by decide +kernel⟩
abbrev cdX4_refuse : Cond := Cond.code yX4_refuse cX4_refuse 2 (some .int)
theorem mf_X4_refuse : MfV yX4_refuse cdX4_refuse cX4_refuse 2 (some .int) 1 := ⟨rfl, hw_152, hw_151, hs_yX4_refuse, hw_1, by decide, by decide, by decide +kernel⟩
abbrev cdX4_isRefusal : Cond := Cond.code yX4_isRefusal cX4_isRefusal 1 (some .boolean)
theorem mf_X4_isRefusal : MfS yX4_isRefusal cdX4_isRefusal cX4_isRefusal 1 (some .boolean) 1 := ⟨rfl, hw_155, hw_154, hw_1, by decide, by decide, by decide +kernel⟩
abbrev cdX4_hasRoom : Cond := Cond.code yX4_hasRoom cX4_hasRoom 2 (some .boolean)
theorem mf_X4_hasRoom : MfV yX4_hasRoom cdX4_hasRoom cX4_hasRoom 2 (some .boolean) 1 := ⟨rfl, hw_159, hw_158, hs_yX4_hasRoom, hw_1, by decide, by decide, by decide +kernel⟩
abbrev cdX2_quotient : Cond := Cond.code yX2_quotient cX2_quotient 4 (some .long)
theorem mf_X2_quotient : MfS yX2_quotient cdX2_quotient cX2_quotient 4 (some .long) 2 := ⟨rfl, hw_166, hw_165, hw_3, by decide, by decide, by decide +kernel⟩
abbrev cdX4_comeAsTold : Cond := Cond.code yX4_comeAsTold cX4_comeAsTold 5 (some .int)
theorem mf_X4_comeAsTold : MfV yX4_comeAsTold cdX4_comeAsTold cX4_comeAsTold 5 (some .int) 3 := ⟨rfl, hw_174, hw_173, hs_yX4_comeAsTold, hw_1, by decide, by decide, by decide +kernel⟩
abbrev cdX4_product : Cond := Cond.code yX4_product cX4_product 3 (some .int)
theorem mf_X4_product : MfV yX4_product cdX4_product cX4_product 3 (some .int) 1 := ⟨rfl, hw_178, hw_176, hw_177, hw_1, by decide, by decide, by decide +kernel⟩
abbrev cdX4_add : Cond := Cond.code yX4_add cX4_add 10 (some .int)
theorem mf_X4_add : MfV yX4_add cdX4_add cX4_add 10 (some .int) 4 := ⟨rfl, hw_183, hw_181, hw_182, hw_1, by decide, by decide, by decide +kernel⟩
abbrev cdX4_isForm : Cond := Cond.code yX4_isForm cX4_isForm 2 (some .boolean)
theorem mf_X4_isForm : MfV yX4_isForm cdX4_isForm cX4_isForm 2 (some .boolean) 1 := ⟨rfl, hw_187, hw_186, hs_yX4_isForm, hw_1, by decide, by decide, by decide +kernel⟩
abbrev cdX4_comeOfOthers : Cond := Cond.code yX4_comeOfOthers cX4_comeOfOthers 3 (some .int)
theorem mf_X4_comeOfOthers : MfV yX4_comeOfOthers cdX4_comeOfOthers cX4_comeOfOthers 3 (some .int) 1 := ⟨rfl, hw_192, hw_191, hs_yX4_comeOfOthers, hw_1, by decide, by decide, by decide +kernel⟩
abbrev cdX4_times : Cond := Cond.code yX4_times cX4_times 4 (some .int)
theorem mf_X4_times : MfV yX4_times cdX4_times cX4_times 4 (some .int) 2 := ⟨rfl, hw_196, hw_194, hw_195, hw_1, by decide, by decide, by decide +kernel⟩
abbrev cdX4_power : Cond := Cond.code yX4_power cX4_power 4 (some .int)
theorem mf_X4_power : MfV yX4_power cdX4_power cX4_power 4 (some .int) 2 := ⟨rfl, hw_201, hw_199, hw_200, hw_1, by decide, by decide, by decide +kernel⟩
abbrev cdX4_slope : Cond := Cond.code yX4_slope cX4_slope 8 (some .int)
theorem mf_X4_slope : MfV yX4_slope cdX4_slope cX4_slope 8 (some .int) 1 := ⟨rfl, hw_205, hw_203, hw_204, hw_1, by decide, by decide, by decide +kernel⟩
abbrev cdX4_bracket : Cond := Cond.code yX4_bracket cX4_bracket 4 (some .int)
theorem mf_X4_bracket : MfV yX4_bracket cdX4_bracket cX4_bracket 4 (some .int) 2 := ⟨rfl, hw_210, hw_208, hw_209, hw_1, by decide, by decide, by decide +kernel⟩
abbrev cdX1_putBracket : Cond := Cond.code yX1_putBracket cX1_putBracket 8 none
theorem mf_X1_putBracket : MfS yX1_putBracket cdX1_putBracket cX1_putBracket 8 none 3 := ⟨rfl, hw_213, hw_212, hw_7, by decide, by decide, by decide +kernel⟩
abbrev cdX4_over : Cond := Cond.code yX4_over cX4_over 4 (some .int)
theorem mf_X4_over : MfV yX4_over cdX4_over cX4_over 4 (some .int) 1 := ⟨rfl, hw_219, hw_217, hw_218, hw_1, by decide, by decide, by decide +kernel⟩
abbrev cdX0_findParts : Cond := Cond.code yX0_findParts cX0_findParts 8 none
theorem mf_X0_findParts : MfV yX0_findParts cdX0_findParts cX0_findParts 8 none 3 := ⟨rfl, hw_223, hw_221, hw_222, hw_2, by decide, by decide, by decide +kernel⟩
abbrev cdX0_sizeOf : Cond := Cond.code yX0_sizeOf cX0_sizeOf 2 (some .int)
theorem mf_X0_sizeOf : MfV yX0_sizeOf cdX0_sizeOf cX0_sizeOf 2 (some .int) 1 := ⟨rfl, hw_227, hw_225, hw_226, hw_2, by decide, by decide, by decide +kernel⟩
abbrev cdX0_rowOf : Cond := Cond.code yX0_rowOf cX0_rowOf 4 (some (.array .long))
theorem mf_X0_rowOf : MfV yX0_rowOf cdX0_rowOf cX0_rowOf 4 (some (.array .long)) 2 := ⟨rfl, hw_231, hw_229, hw_230, hw_2, by decide, by decide, by decide +kernel⟩
abbrev cdX0_makeRows : Cond := Cond.code yX0_makeRows cX0_makeRows 4 none
theorem mf_X0_makeRows : MfV yX0_makeRows cdX0_makeRows cX0_makeRows 4 none 1 := ⟨rfl, hw_235, hw_234, hs_yX0_makeRows, hw_2, by decide, by decide, by decide +kernel⟩
abbrev cdJ9_max_7cf53 : Cond := Cond.code yJ9_max_7cf53 cJ9_max_7cf53 2 (some .int)
theorem mf_J9_max_7cf53 : MfS yJ9_max_7cf53 cdJ9_max_7cf53 cJ9_max_7cf53 2 (some .int) 2 := ⟨rfl, hw_241, hw_240, hw_4, by decide, by decide, by decide +kernel⟩
abbrev cdX0_join : Cond := Cond.code yX0_join cX0_join 8 none
theorem mf_X0_join : MfV yX0_join cdX0_join cX0_join 8 none 3 := ⟨rfl, hw_246, hw_244, hw_245, hw_2, by decide, by decide, by decide +kernel⟩
abbrev cdX4_prime : Cond := Cond.code yX4_prime cX4_prime 4 (some .int)
theorem mf_X4_prime : MfV yX4_prime cdX4_prime cX4_prime 4 (some .int) 2 := ⟨rfl, hw_251, hw_249, hw_250, hw_1, by decide, by decide, by decide +kernel⟩
abbrev cdX4_isPrime : Cond := Cond.code yX4_isPrime cX4_isPrime 1 (some .boolean)
theorem mf_X4_isPrime : MfS yX4_isPrime cdX4_isPrime cX4_isPrime 1 (some .boolean) 1 := ⟨rfl, hw_254, hw_253, hw_1, by decide, by decide, by decide +kernel⟩
abbrev cdX0_putImage : Cond := Cond.code yX0_putImage cX0_putImage 10 none
theorem mf_X0_putImage : MfV yX0_putImage cdX0_putImage cX0_putImage 10 none 4 := ⟨rfl, hw_258, hw_256, hw_257, hw_2, by decide, by decide, by decide +kernel⟩
abbrev cdX4_basis : Cond := Cond.code yX4_basis cX4_basis 3 (some .int)
theorem mf_X4_basis : MfV yX4_basis cdX4_basis cX4_basis 3 (some .int) 2 := ⟨rfl, hw_263, hw_261, hw_262, hw_1, by decide, by decide, by decide +kernel⟩
abbrev cdX4_isWeight : Cond := Cond.code yX4_isWeight cX4_isWeight 1 (some .boolean)
theorem mf_X4_isWeight : MfS yX4_isWeight cdX4_isWeight cX4_isWeight 1 (some .boolean) 1 := ⟨rfl, hw_266, hw_265, hw_1, by decide, by decide, by decide +kernel⟩
abbrev cdX4_drop : Cond := Cond.code yX4_drop cX4_drop 1 (some .int)
theorem mf_X4_drop : MfV yX4_drop cdX4_drop cX4_drop 1 (some .int) 0 := ⟨rfl, hw_272, hw_270, hw_271, hw_1, by decide, by decide, by decide +kernel⟩
abbrev cdX4_look : Cond := Cond.code yX4_look cX4_look 4 (some .int)
theorem mf_X4_look : MfV yX4_look cdX4_look cX4_look 4 (some .int) 2 := ⟨rfl, hw_276, hw_274, hw_275, hw_1, by decide, by decide, by decide +kernel⟩
abbrev cdX3_leastPlace : Cond := Cond.code yX3_leastPlace cX3_leastPlace 2 (some .int)
theorem mf_X3_leastPlace : MfS yX3_leastPlace cdX3_leastPlace cX3_leastPlace 2 (some .int) 1 := ⟨rfl, hw_279, hw_278, hw_5, by decide, by decide, by decide +kernel⟩
abbrev cdX4_at : Cond := Cond.code yX4_at cX4_at 3 (some .int)
theorem mf_X4_at : MfV yX4_at cdX4_at cX4_at 3 (some .int) 2 := ⟨rfl, hw_283, hw_281, hw_282, hw_1, by decide, by decide, by decide +kernel⟩
abbrev cdX4_part : Cond := Cond.code yX4_part cX4_part 3 (some .int)
theorem mf_X4_part : MfV yX4_part cdX4_part cX4_part 3 (some .int) 2 := ⟨rfl, hw_287, hw_285, hw_286, hw_1, by decide, by decide, by decide +kernel⟩
abbrev cdX4_same : Cond := Cond.code yX4_same cX4_same 5 (some .int)
theorem mf_X4_same : MfV yX4_same cdX4_same cX4_same 5 (some .int) 2 := ⟨rfl, hw_291, hw_289, hw_290, hw_1, by decide, by decide, by decide +kernel⟩
abbrev cdX3_firstUnlike : Cond := Cond.code yX3_firstUnlike cX3_firstUnlike 3 (some .int)
theorem mf_X3_firstUnlike : MfS yX3_firstUnlike cdX3_firstUnlike cX3_firstUnlike 3 (some .int) 2 := ⟨rfl, hw_294, hw_293, hw_5, by decide, by decide, by decide +kernel⟩
abbrev cdX4_apart : Cond := Cond.code yX4_apart cX4_apart 3 (some .int)
theorem mf_X4_apart : MfV yX4_apart cdX4_apart cX4_apart 3 (some .int) 2 := ⟨rfl, hw_298, hw_296, hw_297, hw_1, by decide, by decide, by decide +kernel⟩
abbrev cdX4_size : Cond := Cond.code yX4_size cX4_size 2 (some .int)
theorem mf_X4_size : MfV yX4_size cdX4_size cX4_size 2 (some .int) 1 := ⟨rfl, hw_302, hw_300, hw_301, hw_1, by decide, by decide, by decide +kernel⟩
abbrev cdX4_own : Cond := Cond.code yX4_own cX4_own 4 (some .int)
theorem mf_X4_own : MfV yX4_own cdX4_own cX4_own 4 (some .int) 2 := ⟨rfl, hw_306, hw_304, hw_305, hw_1, by decide, by decide, by decide +kernel⟩
abbrev cdX3_ratio : Cond := Cond.code yX3_ratio cX3_ratio 7 (some .int)
theorem mf_X3_ratio : MfS yX3_ratio cdX3_ratio cX3_ratio 7 (some .int) 3 := ⟨rfl, hw_309, hw_308, hw_5, by decide, by decide, by decide +kernel⟩
abbrev cdX4_trace : Cond := Cond.code yX4_trace cX4_trace 7 (some .int)
theorem mf_X4_trace : MfV yX4_trace cdX4_trace cX4_trace 7 (some .int) 3 := ⟨rfl, hw_315, hw_313, hw_314, hw_1, by decide, by decide, by decide +kernel⟩
abbrev cdX4_squares : Cond := Cond.code yX4_squares cX4_squares 4 (some .int)
theorem mf_X4_squares : MfV yX4_squares cdX4_squares cX4_squares 4 (some .int) 2 := ⟨rfl, hw_319, hw_317, hw_318, hw_1, by decide, by decide, by decide +kernel⟩
abbrev cdX4_takeOneSquareMore : Cond := Cond.code yX4_takeOneSquareMore cX4_takeOneSquareMore 5 none
theorem mf_X4_takeOneSquareMore : MfV yX4_takeOneSquareMore cdX4_takeOneSquareMore cX4_takeOneSquareMore 5 none 1 := ⟨rfl, hw_323, hw_322, hs_yX4_takeOneSquareMore, hw_1, by decide, by decide, by decide +kernel⟩
abbrev cdX4_count : Cond := Cond.code yX4_count cX4_count 1 (some .int)
theorem mf_X4_count : MfV yX4_count cdX4_count cX4_count 1 (some .int) 0 := ⟨rfl, hw_327, hw_325, hw_326, hw_1, by decide, by decide, by decide +kernel⟩
abbrev cdX4_lay : Cond := Cond.code yX4_lay cX4_lay 3 (some .int)
theorem mf_X4_lay : MfV yX4_lay cdX4_lay cX4_lay 3 (some .int) 2 := ⟨rfl, hw_331, hw_329, hw_330, hw_1, by decide, by decide, by decide +kernel⟩
abbrev cdX4_tell : Cond := Cond.code yX4_tell cX4_tell 5 (some .int)
theorem mf_X4_tell : MfV yX4_tell cdX4_tell cX4_tell 5 (some .int) 2 := ⟨rfl, hw_335, hw_333, hw_334, hw_1, by decide, by decide, by decide +kernel⟩
abbrev cdX4_give : Cond := Cond.code yX4_give cX4_give 2 (some .int)
theorem mf_X4_give : MfV yX4_give cdX4_give cX4_give 2 (some .int) 1 := ⟨rfl, hw_339, hw_337, hw_338, hw_1, by decide, by decide, by decide +kernel⟩
abbrev cdX4_tear : Cond := Cond.code yX4_tear cX4_tear 2 (some .int)
theorem mf_X4_tear : MfV yX4_tear cdX4_tear cX4_tear 2 (some .int) 0 := ⟨rfl, hw_343, hw_341, hw_342, hw_1, by decide, by decide, by decide +kernel⟩
abbrev cdX4_row : Cond := Cond.code yX4_row cX4_row 2 (some .int)
theorem mf_X4_row : MfV yX4_row cdX4_row cX4_row 2 (some .int) 1 := ⟨rfl, hw_347, hw_345, hw_346, hw_1, by decide, by decide, by decide +kernel⟩
abbrev cdX4_copy : Cond := Cond.code yX4_copy cX4_copy 4 (some .int)
theorem mf_X4_copy : MfV yX4_copy cdX4_copy cX4_copy 4 (some .int) 3 := ⟨rfl, hw_351, hw_349, hw_350, hw_1, by decide, by decide, by decide +kernel⟩
abbrev cdX4_status : Cond := Cond.code yX4_status cX4_status 2 (some .int)
theorem mf_X4_status : MfV yX4_status cdX4_status cX4_status 2 (some .int) 1 := ⟨rfl, hw_355, hw_353, hw_354, hw_1, by decide, by decide, by decide +kernel⟩
abbrev cdX5_init : Cond := Cond.code yX5_init cX5_init 4 none
abbrev cdX5_fillSums : Cond := Cond.code yX5_fillSums cX5_fillSums 8 none
theorem mf_X5_fillSums : MfS yX5_fillSums cdX5_fillSums cX5_fillSums 8 none 3 := ⟨rfl, hw_365, hw_364, hw_8, by decide, by decide, by decide +kernel⟩
abbrev cdX5_raised : Cond := Cond.code yX5_raised cX5_raised 6 (some .long)
theorem mf_X5_raised : MfS yX5_raised cdX5_raised cX5_raised 6 (some .long) 2 := ⟨rfl, hw_368, hw_367, hw_8, by decide, by decide, by decide +kernel⟩
abbrev cdX5_sums : Cond := Cond.code yX5_sums cX5_sums 4 (some .int)
theorem mf_X5_sums : MfV yX5_sums cdX5_sums cX5_sums 4 (some .int) 1 := ⟨rfl, hw_436, hw_434, hw_435, hw_8, by decide, by decide, by decide +kernel⟩
abbrev cdX5_inverse : Cond := Cond.code yX5_inverse cX5_inverse 8 (some .long)
theorem mf_X5_inverse : MfS yX5_inverse cdX5_inverse cX5_inverse 8 (some .long) 1 := ⟨rfl, hw_443, hw_442, hw_8, by decide, by decide, by decide +kernel⟩
abbrev cdX5_no : Cond := Cond.code yX5_no cX5_no 2 (some .int)
theorem mf_X5_no : MfV yX5_no cdX5_no cX5_no 2 (some .int) 1 := ⟨rfl, hw_449, hw_448, hs_yX5_no, hw_8, by decide, by decide, by decide +kernel⟩
abbrev cdX5_comes : Cond := Cond.code yX5_comes cX5_comes 5 (some .int)
theorem mf_X5_comes : MfV yX5_comes cdX5_comes cX5_comes 5 (some .int) 3 := ⟨rfl, hw_453, hw_452, hs_yX5_comes, hw_8, by decide, by decide, by decide +kernel⟩
abbrev cdX5_product : Cond := Cond.code yX5_product cX5_product 3 (some .int)
theorem mf_X5_product : MfV yX5_product cdX5_product cX5_product 3 (some .int) 1 := ⟨rfl, hw_457, hw_455, hw_456, hw_8, by decide, by decide, by decide +kernel⟩
abbrev cdX5_isIn : Cond := Cond.code yX5_isIn cX5_isIn 6 (some .boolean)
theorem mf_X5_isIn : MfS yX5_isIn cdX5_isIn cX5_isIn 6 (some .boolean) 3 := ⟨rfl, hw_461, hw_460, hw_8, by decide, by decide, by decide +kernel⟩
abbrev cdX5_multiplies : Cond := Cond.code yX5_multiplies cX5_multiplies 7 none
theorem mf_X5_multiplies : MfV yX5_multiplies cdX5_multiplies cX5_multiplies 7 none 2 := ⟨rfl, hw_465, hw_464, hs_yX5_multiplies, hw_8, by decide, by decide, by decide +kernel⟩
abbrev cdX5_add : Cond := Cond.code yX5_add cX5_add 6 (some .int)
theorem mf_X5_add : MfV yX5_add cdX5_add cX5_add 6 (some .int) 4 := ⟨rfl, hw_469, hw_467, hw_468, hw_8, by decide, by decide, by decide +kernel⟩
abbrev cdX5_isForm : Cond := Cond.code yX5_isForm cX5_isForm 2 (some .boolean)
theorem mf_X5_isForm : MfV yX5_isForm cdX5_isForm cX5_isForm 2 (some .boolean) 1 := ⟨rfl, hw_473, hw_472, hs_yX5_isForm, hw_8, by decide, by decide, by decide +kernel⟩
abbrev cdX5_rest : Cond := Cond.code yX5_rest cX5_rest 1 (some .long)
theorem mf_X5_rest : MfS yX5_rest cdX5_rest cX5_rest 1 (some .long) 1 := ⟨rfl, hw_476, hw_475, hw_8, by decide, by decide, by decide +kernel⟩
abbrev cdX5_made : Cond := Cond.code yX5_made cX5_made 2 (some .int)
theorem mf_X5_made : MfV yX5_made cdX5_made cX5_made 2 (some .int) 1 := ⟨rfl, hw_480, hw_479, hs_yX5_made, hw_8, by decide, by decide, by decide +kernel⟩
abbrev cdX5_times : Cond := Cond.code yX5_times cX5_times 3 (some .int)
theorem mf_X5_times : MfV yX5_times cdX5_times cX5_times 3 (some .int) 2 := ⟨rfl, hw_484, hw_482, hw_483, hw_8, by decide, by decide, by decide +kernel⟩
abbrev cdX5_takes : Cond := Cond.code yX5_takes cX5_takes 4 none
theorem mf_X5_takes : MfV yX5_takes cdX5_takes cX5_takes 4 none 2 := ⟨rfl, hw_488, hw_487, hs_yX5_takes, hw_8, by decide, by decide, by decide +kernel⟩
abbrev cdX5_power : Cond := Cond.code yX5_power cX5_power 4 (some .int)
theorem mf_X5_power : MfV yX5_power cdX5_power cX5_power 4 (some .int) 2 := ⟨rfl, hw_492, hw_490, hw_491, hw_8, by decide, by decide, by decide +kernel⟩
abbrev cdX5_slope : Cond := Cond.code yX5_slope cX5_slope 5 (some .int)
theorem mf_X5_slope : MfV yX5_slope cdX5_slope cX5_slope 5 (some .int) 1 := ⟨rfl, hw_496, hw_494, hw_495, hw_8, by decide, by decide, by decide +kernel⟩
abbrev cdX5_bracket : Cond := Cond.code yX5_bracket cX5_bracket 4 (some .int)
theorem mf_X5_bracket : MfV yX5_bracket cdX5_bracket cX5_bracket 4 (some .int) 2 := ⟨rfl, hw_501, hw_499, hw_500, hw_8, by decide, by decide, by decide +kernel⟩
abbrev cdX5_over : Cond := Cond.code yX5_over cX5_over 2 (some .int)
theorem mf_X5_over : MfV yX5_over cdX5_over cX5_over 2 (some .int) 1 := ⟨rfl, hw_505, hw_503, hw_504, hw_8, by decide, by decide, by decide +kernel⟩
abbrev cdX5_finds : Cond := Cond.code yX5_finds cX5_finds 6 none
theorem mf_X5_finds : MfV yX5_finds cdX5_finds cX5_finds 6 none 2 := ⟨rfl, hw_509, hw_508, hs_yX5_finds, hw_8, by decide, by decide, by decide +kernel⟩
abbrev cdX5_sizeOf : Cond := Cond.code yX5_sizeOf cX5_sizeOf 2 (some .int)
theorem mf_X5_sizeOf : MfS yX5_sizeOf cdX5_sizeOf cX5_sizeOf 2 (some .int) 1 := ⟨rfl, hw_512, hw_511, hw_8, by decide, by decide, by decide +kernel⟩
abbrev cdX5_isRest : Cond := Cond.code yX5_isRest cX5_isRest 1 (some .boolean)
theorem mf_X5_isRest : MfS yX5_isRest cdX5_isRest cX5_isRest 1 (some .boolean) 1 := ⟨rfl, hw_515, hw_514, hw_8, by decide, by decide, by decide +kernel⟩
abbrev cdX5_fillBasis : Cond := Cond.code yX5_fillBasis cX5_fillBasis 6 none
theorem mf_X5_fillBasis : MfV yX5_fillBasis cdX5_fillBasis cX5_fillBasis 6 none 2 := ⟨rfl, hw_519, hw_518, hs_yX5_fillBasis, hw_8, by decide, by decide, by decide +kernel⟩
abbrev cdX5_builds : Cond := Cond.code yX5_builds cX5_builds 5 none
theorem mf_X5_builds : MfV yX5_builds cdX5_builds cX5_builds 5 none 2 := ⟨rfl, hw_523, hw_522, hs_yX5_builds, hw_8, by decide, by decide, by decide +kernel⟩
abbrev cdX5_prime : Cond := Cond.code yX5_prime cX5_prime 3 (some .int)
theorem mf_X5_prime : MfV yX5_prime cdX5_prime cX5_prime 3 (some .int) 2 := ⟨rfl, hw_527, hw_525, hw_526, hw_8, by decide, by decide, by decide +kernel⟩
abbrev cdX5_isPrime : Cond := Cond.code yX5_isPrime cX5_isPrime 1 (some .boolean)
theorem mf_X5_isPrime : MfS yX5_isPrime cdX5_isPrime cX5_isPrime 1 (some .boolean) 1 := ⟨rfl, hw_530, hw_529, hw_8, by decide, by decide, by decide +kernel⟩
abbrev cdX5_doesTo : Cond := Cond.code yX5_doesTo cX5_doesTo 5 none
theorem mf_X5_doesTo : MfV yX5_doesTo cdX5_doesTo cX5_doesTo 5 none 2 := ⟨rfl, hw_534, hw_533, hs_yX5_doesTo, hw_8, by decide, by decide, by decide +kernel⟩
abbrev cdX5_basis : Cond := Cond.code yX5_basis cX5_basis 4 (some .int)
theorem mf_X5_basis : MfV yX5_basis cdX5_basis cX5_basis 4 (some .int) 2 := ⟨rfl, hw_538, hw_536, hw_537, hw_8, by decide, by decide, by decide +kernel⟩
abbrev cdX5_isWeight : Cond := Cond.code yX5_isWeight cX5_isWeight 1 (some .boolean)
theorem mf_X5_isWeight : MfS yX5_isWeight cdX5_isWeight cX5_isWeight 1 (some .boolean) 1 := ⟨rfl, hw_541, hw_540, hw_8, by decide, by decide, by decide +kernel⟩
abbrev cdX5_drop : Cond := Cond.code yX5_drop cX5_drop 1 (some .int)
theorem mf_X5_drop : MfV yX5_drop cdX5_drop cX5_drop 1 (some .int) 0 := ⟨rfl, hw_546, hw_544, hw_545, hw_8, by decide, by decide, by decide +kernel⟩
abbrev cdX5_look : Cond := Cond.code yX5_look cX5_look 3 (some .int)
theorem mf_X5_look : MfV yX5_look cdX5_look cX5_look 3 (some .int) 2 := ⟨rfl, hw_550, hw_548, hw_549, hw_8, by decide, by decide, by decide +kernel⟩
abbrev cdX5_leastOf : Cond := Cond.code yX5_leastOf cX5_leastOf 3 (some .int)
theorem mf_X5_leastOf : MfV yX5_leastOf cdX5_leastOf cX5_leastOf 3 (some .int) 1 := ⟨rfl, hw_554, hw_553, hs_yX5_leastOf, hw_8, by decide, by decide, by decide +kernel⟩
abbrev cdX5_at : Cond := Cond.code yX5_at cX5_at 3 (some .int)
theorem mf_X5_at : MfV yX5_at cdX5_at cX5_at 3 (some .int) 2 := ⟨rfl, hw_558, hw_556, hw_557, hw_8, by decide, by decide, by decide +kernel⟩
abbrev cdX5_part : Cond := Cond.code yX5_part cX5_part 3 (some .int)
theorem mf_X5_part : MfV yX5_part cdX5_part cX5_part 3 (some .int) 2 := ⟨rfl, hw_563, hw_561, hw_562, hw_8, by decide, by decide, by decide +kernel⟩
abbrev cdX5_same : Cond := Cond.code yX5_same cX5_same 4 (some .int)
theorem mf_X5_same : MfV yX5_same cdX5_same cX5_same 4 (some .int) 2 := ⟨rfl, hw_567, hw_565, hw_566, hw_8, by decide, by decide, by decide +kernel⟩
abbrev cdX5_firstApart : Cond := Cond.code yX5_firstApart cX5_firstApart 4 (some .int)
theorem mf_X5_firstApart : MfV yX5_firstApart cdX5_firstApart cX5_firstApart 4 (some .int) 2 := ⟨rfl, hw_571, hw_570, hs_yX5_firstApart, hw_8, by decide, by decide, by decide +kernel⟩
abbrev cdX5_apart : Cond := Cond.code yX5_apart cX5_apart 3 (some .int)
theorem mf_X5_apart : MfV yX5_apart cdX5_apart cX5_apart 3 (some .int) 2 := ⟨rfl, hw_575, hw_573, hw_574, hw_8, by decide, by decide, by decide +kernel⟩
abbrev cdX5_size : Cond := Cond.code yX5_size cX5_size 2 (some .int)
theorem mf_X5_size : MfV yX5_size cdX5_size cX5_size 2 (some .int) 1 := ⟨rfl, hw_579, hw_577, hw_578, hw_8, by decide, by decide, by decide +kernel⟩
abbrev cdX5_own : Cond := Cond.code yX5_own cX5_own 7 (some .int)
theorem mf_X5_own : MfV yX5_own cdX5_own cX5_own 7 (some .int) 2 := ⟨rfl, hw_583, hw_581, hw_582, hw_8, by decide, by decide, by decide +kernel⟩
abbrev cdX5_trace : Cond := Cond.code yX5_trace cX5_trace 8 (some .int)
theorem mf_X5_trace : MfV yX5_trace cdX5_trace cX5_trace 8 (some .int) 3 := ⟨rfl, hw_587, hw_585, hw_586, hw_8, by decide, by decide, by decide +kernel⟩
abbrev cdX5_squares : Cond := Cond.code yX5_squares cX5_squares 6 (some .int)
theorem mf_X5_squares : MfV yX5_squares cdX5_squares cX5_squares 6 (some .int) 2 := ⟨rfl, hw_591, hw_589, hw_590, hw_8, by decide, by decide, by decide +kernel⟩
abbrev cdX5_count : Cond := Cond.code yX5_count cX5_count 1 (some .int)
theorem mf_X5_count : MfV yX5_count cdX5_count cX5_count 1 (some .int) 0 := ⟨rfl, hw_597, hw_595, hw_596, hw_8, by decide, by decide, by decide +kernel⟩
abbrev cdX5_lay : Cond := Cond.code yX5_lay cX5_lay 4 (some .int)
theorem mf_X5_lay : MfV yX5_lay cdX5_lay cX5_lay 4 (some .int) 2 := ⟨rfl, hw_601, hw_599, hw_600, hw_8, by decide, by decide, by decide +kernel⟩
abbrev cdX5_tell : Cond := Cond.code yX5_tell cX5_tell 4 (some .int)
theorem mf_X5_tell : MfV yX5_tell cdX5_tell cX5_tell 4 (some .int) 2 := ⟨rfl, hw_605, hw_603, hw_604, hw_8, by decide, by decide, by decide +kernel⟩
abbrev cdX5_give : Cond := Cond.code yX5_give cX5_give 3 (some .int)
theorem mf_X5_give : MfV yX5_give cdX5_give cX5_give 3 (some .int) 1 := ⟨rfl, hw_609, hw_607, hw_608, hw_8, by decide, by decide, by decide +kernel⟩
abbrev cdX5_tear : Cond := Cond.code yX5_tear cX5_tear 2 (some .int)
theorem mf_X5_tear : MfV yX5_tear cdX5_tear cX5_tear 2 (some .int) 0 := ⟨rfl, hw_613, hw_611, hw_612, hw_8, by decide, by decide, by decide +kernel⟩
abbrev cdX5_row : Cond := Cond.code yX5_row cX5_row 2 (some .int)
theorem mf_X5_row : MfV yX5_row cdX5_row cX5_row 2 (some .int) 1 := ⟨rfl, hw_617, hw_615, hw_616, hw_8, by decide, by decide, by decide +kernel⟩
abbrev cdX5_copy : Cond := Cond.code yX5_copy cX5_copy 5 (some .int)
theorem mf_X5_copy : MfV yX5_copy cdX5_copy cX5_copy 5 (some .int) 3 := ⟨rfl, hw_621, hw_619, hw_620, hw_8, by decide, by decide, by decide +kernel⟩
abbrev cdX5_status : Cond := Cond.code yX5_status cX5_status 2 (some .int)
theorem mf_X5_status : MfV yX5_status cdX5_status cX5_status 2 (some .int) 1 := ⟨rfl, hw_625, hw_623, hw_624, hw_8, by decide, by decide, by decide +kernel⟩
end
section
/-! ===== series: what both sides compute ===== -/
def isL (G : zG) (w : Nat → va_E) (k N : Nat) (a : Nat → Nat) : Prop := ∃ f : Nat → Int64, w k = eL G N f ∧ ∀ i, i < N → f i = lN (a i)
def sM (a : Nat → Nat) : Prop := ∀ i, i < 48 → a i < 1000003
def cv (a b : Nat → Nat) (n : Nat) : Nat → Nat
  | 0 => 0
  | t + 1 => cv a b n t + a t * b (n - t)
def mulS (a b : Nat → Nat) (n : Nat) : Nat := cv a b n (n + 1) % 1000003
theorem mul_lt {x y : Nat} (hx : x < 1000003) (hy : y < 1000003) : x * y < 1000006000009 := by
  have h1 : x * y ≤ 1000002 * 1000002 := Nat.mul_le_mul (by omega) (by omega)
  omega
theorem cv_lt {a b : Nat → Nat} {n : Nat} (ha : sM a) (hb : sM b) (hn : n < 48) : ∀ t, t ≤ n + 1 → cv a b n t ≤ t * 1000006000009
  | 0, _ => Nat.zero_le _
  | t + 1, h => by
    have h1 := cv_lt ha hb hn t (by omega)
    have h2 := mul_lt (ha t (by omega)) (hb (n - t) (by omega))
    unfold cv
    omega
theorem mulS_lt (a b : Nat → Nat) (n : Nat) : mulS a b n < 1000003 := Nat.mod_lt _ (by decide)
theorem eL_inj {G : zG} {n n' : Nat} {f f' : Nat → Int64} (h : eL G n f = eL G n' f') : f = f' := by
  unfold eL at h
  simp at h
  exact h.2
theorem eI_inj {G : zG} {n n' : Nat} {f f' : Nat → Int32} (h : eI G n f = eI G n' f') : f = f' := by
  unfold eI at h
  simp at h
  exact h.2
theorem rd_alias {G : zG} {w w2 : Nat → va_E} {ka kr N k : Nat} {fa fr f : Nat → Int64} (ha : w ka = eL G N fa) (hr : w kr = eL G N fr) (h1 : ∀ j, j ≠ kr → w2 j = w j) (h2 : w2 kr = eL G N f) (h3 : ∀ i, i < k → f i = fr i) : ∃ g, w2 ka = eL G N g ∧ ∀ i, i < k → g i = fa i := by
  by_cases e : ka = kr
  · subst e
    have : fa = fr := eL_inj (ha.symm.trans hr)
    subst this
    exact ⟨f, h2, h3⟩
  · exact ⟨fa, by rw [h1 ka e]; exact ha, fun _ _ => rfl⟩
theorem up_s {α : Type} {f : Nat → α} {k : Nat} {v : α} : va_up f k v k = v := va_up_self f k v
theorem up_n {α : Type} {f : Nat → α} {k j : Nat} {v : α} (h : j ≠ k) : va_up f k v j = f j := by simp [va_up, h]
end
section
/-! ===== pure facts: rests, powers ===== -/
theorem lZ_rem {z : Int} {m : Nat} (h1 : -4611686018427387904 ≤ z) (h2 : z ≤ 4611686018427387904) (hm : 0 < m) (hm2 : m < 2147483648) : lZ z - lZ z / lN m * lN m = lZ (z.tmod m) := by
  have hd : lZ z / lN m = lZ (z.tdiv m) := by
    apply Int64.toInt_inj.mp
    have b1 : (z.tdiv m).natAbs ≤ z.natAbs := Int.natAbs_tdiv_le_natAbs z m
    rw [Int64.toInt_div, lN_Z, lZ_toInt (by omega) (by omega), lZ_toInt (by omega) (by omega), lZ_toInt (by omega) (by omega)]
    rw [Int.bmod_eq_of_le] <;> omega
  rw [hd, lN_Z, lZ_mul, lZ_sub]
  congr 1
  have := Int.mul_tdiv_add_tmod z m
  rw [Int.mul_comm] at this
  omega
theorem xor_neg (a b : Int64) (hb : 0 ≤ b) : (a ^^^ b) < 0 ↔ a < 0 := by
  have e0 : ∀ x : Int64, x < 0 ↔ x.toBitVec.msb = true := by
    intro x
    rw [Int64.lt_iff_toBitVec_slt]
    have h0 : (0 : Int64).toBitVec = 0#64 := rfl
    rw [h0, BitVec.slt_zero_eq_msb]
  rw [e0, e0, Int64.toBitVec_xor, BitVec.msb_xor]
  have hn : ¬ b < 0 := by
    intro h
    rw [Int64.lt_iff_toInt_lt] at h
    rw [Int64.le_iff_toInt_le] at hb
    omega
  rw [e0] at hn
  simp at hn
  rw [hn]
  simp
theorem lZ_neg {z : Int} (h1 : -4611686018427387904 ≤ z) (h2 : z ≤ 4611686018427387904) : lZ z < 0 ↔ z < 0 := by
  rw [Int64.lt_iff_toInt_lt, lZ_toInt (by omega) (by omega)]
  rfl
theorem lZ_eq0 {z : Int} (h1 : -4611686018427387904 ≤ z) (h2 : z ≤ 4611686018427387904) : lZ z = lN 0 ↔ z = 0 := by
  rw [← Int64.toInt_inj, lZ_toInt (by omega) (by omega)]
  rfl
theorem fm_pos {z : Int} (h : 0 ≤ z) : z.tmod 1000003 = z % 1000003 := Int.tmod_eq_emod_of_nonneg h
theorem fm_all (z : Int) : -1000003 < z.tmod 1000003 ∧ z.tmod 1000003 < 1000003 := tmod_bounds (by decide)
theorem fm_neg {z : Int} (h : z < 0) : (z.tmod 1000003 = 0 → z % 1000003 = 0) ∧ (z.tmod 1000003 ≠ 0 → z.tmod 1000003 + 1000003 = z % 1000003) := by
  have h1 := Int.mul_tdiv_add_tmod z 1000003
  have h2 := fm_all z
  have h3 : z.tmod 1000003 ≤ 0 := by
    have h4 : (-z).tmod 1000003 = -(z.tmod 1000003) := Int.neg_tmod z 1000003
    have h5 : 0 ≤ (-z).tmod 1000003 := Int.tmod_nonneg _ (by omega)
    omega
  omega
theorem fm_nn (z : Int) : 0 ≤ z % 1000003 ∧ z % 1000003 < 1000003 := ⟨Int.emod_nonneg _ (by decide), Int.emod_lt_of_pos _ (by decide)⟩
def zm (z : Int) : Nat := (z % 1000003).toNat
theorem zm_lt (z : Int) : zm z < 1000003 := by
  have := fm_nn z
  unfold zm
  omega
theorem zm_nat (a : Nat) : zm (a : Int) = a % 1000003 := by
  unfold zm
  omega
theorem lZ_zm (z : Int) : lZ (z % 1000003) = lN (zm z) := by
  rw [lN_Z]
  congr 1
  have := fm_nn z
  unfold zm
  omega
theorem pw_sq {a q x : Nat} (h : x = a ^ q % 1000003) : x * x % 1000003 = a ^ (2 * q) % 1000003 := by
  subst h
  rw [Nat.mul_comm 2 q, Nat.pow_mul, Nat.pow_two, ← Nat.mul_mod]
theorem pw_sc {a q x : Nat} (h : x = a ^ q % 1000003) : x * a % 1000003 = a ^ (q + 1) % 1000003 := by
  subst h
  rw [Nat.pow_succ, Nat.mul_mod, Nat.mod_mod, ← Nat.mul_mod]
theorem bit_step (e k : Nat) : e / 2 ^ k = 2 * (e / 2 ^ (k + 1)) + e / 2 ^ k % 2 := by
  rw [Nat.pow_succ, ← Nat.div_div_eq_div_mul]
  omega
theorem shr_bit {e k : Nat} (he : e < 2 ^ 31) (hk : k < 31) : nI e >>> (nI k &&& 31) &&& nI 1 = nI (e / 2 ^ k % 2) := by
  have hs : ∀ k, k < 31 → ((nI k &&& 31).toBitVec.smod 32).toNat = k := by decide +kernel
  rw [pk_shrN he _ k (hs k hk)]
  have hlt : e / 2 ^ k < 2 ^ 32 := Nat.lt_of_le_of_lt (Nat.div_le_self _ _) (by omega)
  have h := pk_andN (n := e / 2 ^ k) hlt (m := nI 1) 1 (by decide)
  rw [h]
def oneS (n : Nat) : Nat := if n = 0 then 1 else 0
theorem oneS_lt (n : Nat) : oneS n < 1000003 := by
  unfold oneS
  split <;> decide
def powS (a : Nat → Nat) : Nat → Nat → Nat
  | 0 => oneS
  | e + 1 => mulS (powS a e) a
theorem powS_lt (a : Nat → Nat) : ∀ e n, powS a e n < 1000003
  | 0, n => oneS_lt n
  | e + 1, n => mulS_lt _ _ n
theorem lv_i0 (x : Int32) (h : x = nI 0) : x = 0 := h
def isLeast (a : Nat → Nat) (j : Nat) : Prop := j < 48 ∧ a j ≠ 0 ∧ ∀ i, i < j → a i = 0
def lstR (a : Nat → Nat) (r : Int32) : Prop := (r = -1 ∧ ∀ i, i < 48 → a i = 0) ∨ ∃ j, r = nI j ∧ isLeast a j
theorem isLeast_one {a : Nat → Nat} {i j : Nat} (hi : isLeast a i) (hj : isLeast a j) : i = j := by
  rcases Nat.lt_trichotomy i j with h | h | h
  · exact absurd (hj.2.2 i h) hi.2.1
  · exact h
  · exact absurd (hi.2.2 j h) hj.2.1
theorem lstR_one {a : Nat → Nat} {r r' : Int32} (h : lstR a r) (h' : lstR a r') : r = r' := by
  rcases h with ⟨h1, h2⟩ | ⟨j, h1, h2⟩ <;> rcases h' with ⟨h3, h4⟩ | ⟨j', h3, h4⟩
  · rw [h1, h3]
  · exact absurd (h2 j' h4.1) h4.2.1
  · exact absurd (h4 j h2.1) h2.2.1
  · rw [h1, h3, isLeast_one h2 h4]
def unlR (a b : Nat → Nat) (r : Int32) : Prop := (r = -1 ∧ ∀ i, i < 48 → a i = b i) ∨ ∃ j, r = nI j ∧ j < 48 ∧ a j ≠ b j ∧ ∀ i, i < j → a i = b i
theorem unlR_one {a b : Nat → Nat} {r r' : Int32} (h : unlR a b r) (h' : unlR a b r') : r = r' := by
  rcases h with ⟨h1, h2⟩ | ⟨j, h1, h2, h3, h4⟩ <;> rcases h' with ⟨g1, g2⟩ | ⟨i, g1, g2, g3, g4⟩
  · rw [h1, g1]
  · exact absurd (h2 i g2) g3
  · exact absurd (g2 j h2) h3
  · rcases Nat.lt_trichotomy i j with h | h | h
    · exact absurd (h4 i h) g3
    · rw [h1, g1, h]
    · exact absurd (g4 j h) h3
theorem lN_inj {a b : Nat} (ha : a < 1000003) (hb : b < 1000003) : lN a = lN b ↔ a = b := pk_lEQ (by omega) (by omega)
def invM (a : Nat) : Nat := a ^ 1000001 % 1000003
theorem invM_lt (a : Nat) : invM a < 1000003 := Nat.mod_lt _ (by decide)
/-- what the class's ratio answers -/
def ratR (b a : Nat → Nat) (z : Nat) (r : Int32) : Prop :=
  (∃ j, isLeast a j ∧ j < z ∧ r = nI (b j * invM (a j) % 1000003) ∧ ∀ i, i < z → b i = b j * invM (a j) % 1000003 * a i % 1000003) ∨
  (r = -1 ∧ ((∀ i, i < 48 → a i = 0) ∨ ∃ j, isLeast a j ∧ (z ≤ j ∨ ∃ i, i < z ∧ b i ≠ b j * invM (a j) % 1000003 * a i % 1000003)))
/-- sums of the divisors' powers -/
def dvS (e n : Nat) : Nat → Nat
  | 0 => 0
  | d + 1 => dvS e n d + if n % (d + 1) = 0 then (d + 1) ^ e else 0
def sumsS (c e n : Nat) : Nat := if n = 0 then 1 else c * dvS e n n % 1000003
theorem sumsS_lt (c e n : Nat) : sumsS c e n < 1000003 := by
  unfold sumsS
  split
  · decide
  · exact Nat.mod_lt _ (by decide)
/-- ... of the divisors up to d alone, the class's way -/
def dvC (c e n : Nat) : Nat → Nat
  | 0 => 0
  | d + 1 => dvC c e n d + if n % (d + 1) = 0 then c * ((d + 1) ^ e % 1000003) % 1000003 else 0
theorem dvC_eq (c e n : Nat) : ∀ d, dvC c e n d % 1000003 = c * dvS e n d % 1000003
  | 0 => by simp [dvC, dvS]
  | d + 1 => by
    have ih := dvC_eq c e n d
    unfold dvC dvS
    split
    · rw [Nat.mul_add, Nat.add_mod, ih, Nat.mod_mod, Nat.mul_mod c ((d + 1) ^ e % 1000003), Nat.mod_mod, ← Nat.mul_mod, ← Nat.add_mod]
    · simp only [Nat.add_zero]; exact ih
theorem dvC_more (c e : Nat) {n : Nat} (hn : 0 < n) : ∀ d, n ≤ d → dvC c e n d = dvC c e n n
  | 0, h => by rw [show n = 0 by omega]
  | d + 1, h => by
    by_cases q : n ≤ d
    · unfold dvC
      rw [dvC_more c e hn d q, Nat.mod_eq_of_lt (show n < d + 1 by omega), if_neg (by omega), Nat.add_zero]
      cases n with
      | zero => omega
      | succ n => rfl
    · rw [show n = d + 1 by omega]
end
section
/-! ===== series by rests of 1000003: a commutative product ===== -/
def sm (f : Nat → Nat) : Nat → Nat
  | 0 => 0
  | n + 1 => sm f n + f n
theorem cv_sm (a b : Nat → Nat) (n : Nat) : ∀ t, cv a b n t = sm (fun i => a i * b (n - i)) t
  | 0 => rfl
  | t + 1 => by unfold cv sm; rw [cv_sm a b n t]
theorem sm_congr {f g : Nat → Nat} : ∀ {n : Nat}, (∀ i, i < n → f i = g i) → sm f n = sm g n
  | 0, _ => rfl
  | n + 1, h => by unfold sm; rw [sm_congr (fun i hi => h i (by omega)), h n (by omega)]
theorem sm_zero {f : Nat → Nat} : ∀ {n : Nat}, (∀ i, i < n → f i = 0) → sm f n = 0
  | 0, _ => rfl
  | n + 1, h => by unfold sm; rw [sm_zero (fun i hi => h i (by omega)), h n (by omega)]
theorem sm_add (f g : Nat → Nat) : ∀ n, sm (fun i => f i + g i) n = sm f n + sm g n
  | 0 => rfl
  | n + 1 => by unfold sm; rw [sm_add f g n]; omega
theorem sm_mul (c : Nat) (f : Nat → Nat) : ∀ n, sm (fun i => c * f i) n = c * sm f n
  | 0 => by simp [sm]
  | n + 1 => by unfold sm; rw [sm_mul c f n, Nat.mul_add]
theorem sm_mulr (c : Nat) (f : Nat → Nat) (n : Nat) : sm (fun i => f i * c) n = sm f n * c := by
  rw [Nat.mul_comm, ← sm_mul]
  exact sm_congr (fun i _ => Nat.mul_comm _ _)
theorem sm_mod (f : Nat → Nat) : ∀ n, sm (fun i => f i % 1000003) n % 1000003 = sm f n % 1000003
  | 0 => rfl
  | n + 1 => by
    unfold sm
    rw [Nat.add_mod, sm_mod f n, Nat.mod_mod, ← Nat.add_mod]
theorem sm_modc {f g : Nat → Nat} {n : Nat} (h : ∀ i, i < n → f i % 1000003 = g i % 1000003) : sm f n % 1000003 = sm g n % 1000003 := by
  rw [← sm_mod f n, ← sm_mod g n, sm_congr h]
theorem sm_head (f : Nat → Nat) : ∀ n, sm f (n + 1) = f 0 + sm (fun i => f (i + 1)) n
  | 0 => by simp [sm]
  | n + 1 => by
    have h := sm_head f n
    rw [sm, h, sm]
    omega
theorem sm_rev (f : Nat → Nat) : ∀ n, sm f (n + 1) = sm (fun i => f (n - i)) (n + 1)
  | 0 => by simp [sm]
  | n + 1 => by
    have h := sm_rev f n
    rw [sm_head (fun i => f (n + 1 - i)) (n + 1)]
    have e : sm (fun i => f (n + 1 - (i + 1))) (n + 1) = sm (fun i => f (n - i)) (n + 1) := sm_congr (fun i _ => by rw [show n + 1 - (i + 1) = n - i by omega])
    rw [e, ← h]
    show sm f (n + 1) + f (n + 1) = _
    simp only [Nat.sub_zero]
    omega
theorem sm_tri (h : Nat → Nat → Nat) : ∀ n, sm (fun i => sm (fun j => h i j) (i + 1)) n = sm (fun j => sm (fun k => h (j + k) j) (n - j)) n
  | 0 => rfl
  | n + 1 => by
    have ih := sm_tri h n
    have e1 : sm (fun j => sm (fun k => h (j + k) j) (n + 1 - j)) (n + 1) = sm (fun j => sm (fun k => h (j + k) j) (n - j) + h n j) (n + 1) := by
      apply sm_congr
      intro j hj
      rw [show n + 1 - j = (n - j) + 1 by omega]
      show sm _ (n - j) + h (j + (n - j)) j = _
      rw [show j + (n - j) = n by omega]
    rw [e1, sm_add]
    show sm (fun i => sm (fun j => h i j) (i + 1)) n + sm (fun j => h n j) (n + 1) = sm (fun j => sm (fun k => h (j + k) j) (n - j)) n + sm (fun k => h (n + k) n) (n - n) + sm (fun j => h n j) (n + 1)
    rw [ih, Nat.sub_self]
    rfl
theorem mulS_sm (a b : Nat → Nat) (n : Nat) : mulS a b n = sm (fun i => a i * b (n - i)) (n + 1) % 1000003 := by
  unfold mulS
  rw [cv_sm]
theorem mulS_comm (a b : Nat → Nat) : mulS a b = mulS b a := by
  funext n
  rw [mulS_sm, mulS_sm, sm_rev]
  congr 1
  apply sm_congr
  intro i hi
  rw [show n - (n - i) = i by omega, Nat.mul_comm]
theorem mulS_assoc (a b c : Nat → Nat) : mulS (mulS a b) c = mulS a (mulS b c) := by
  funext n
  rw [mulS_sm, mulS_sm]
  have h1 : sm (fun i => mulS a b i * c (n - i)) (n + 1) % 1000003 = sm (fun i => sm (fun j => a j * b (i - j) * c (n - i)) (i + 1)) (n + 1) % 1000003 := by
    apply sm_modc
    intro i _
    rw [mulS_sm, sm_mulr, Nat.mul_mod, Nat.mod_mod, ← Nat.mul_mod]
  have h2 : sm (fun i => a i * mulS b c (n - i)) (n + 1) % 1000003 = sm (fun i => sm (fun k => a i * (b k * c (n - i - k))) (n + 1 - i)) (n + 1) % 1000003 := by
    apply sm_modc
    intro i hi
    rw [mulS_sm, sm_mul, Nat.mul_mod, Nat.mod_mod, ← Nat.mul_mod, show n - i + 1 = n + 1 - i by omega]
  rw [h1, h2, sm_tri (fun i j => a j * b (i - j) * c (n - i))]
  congr 1
  apply sm_congr
  intro j hj
  apply sm_congr
  intro k hk
  rw [show j + k - j = k by omega, show n - (j + k) = n - j - k by omega, Nat.mul_assoc]
theorem mulS_one (a : Nat → Nat) (n : Nat) : mulS a oneS n = a n % 1000003 := by
  rw [mulS_sm]
  show (sm (fun i => a i * oneS (n - i)) n + a n * oneS (n - n)) % 1000003 = _
  rw [sm_zero (fun i hi => by simp [oneS, show n - i ≠ 0 by omega]), Nat.sub_self]
  simp [oneS]
/-- all its numbers are rests -/
def red (a : Nat → Nat) : Prop := ∀ n, a n < 1000003
theorem mulS_1 {a : Nat → Nat} (h : red a) : mulS a oneS = a := by
  funext n
  rw [mulS_one, Nat.mod_eq_of_lt (h n)]
theorem mulS_1l {a : Nat → Nat} (h : red a) : mulS oneS a = a := by
  rw [mulS_comm, mulS_1 h]
theorem red_mul (a b : Nat → Nat) : red (mulS a b) := mulS_lt a b
theorem red_one : red oneS := oneS_lt
theorem red_pow (a : Nat → Nat) (e : Nat) : red (powS a e) := powS_lt a e
theorem red.s {a : Nat → Nat} (h : red a) : sM a := fun i _ => h i
theorem powS_add (a : Nat → Nat) (p : Nat) : ∀ q, powS a (p + q) = mulS (powS a p) (powS a q)
  | 0 => by
    show powS a p = mulS (powS a p) oneS
    rw [mulS_1 (red_pow a p)]
  | q + 1 => by
    show mulS (powS a (p + q)) a = mulS (powS a p) (mulS (powS a q) a)
    rw [powS_add a p q, mulS_assoc]
theorem powS_one (a : Nat → Nat) (h : red a) : powS a 1 = a := mulS_1l h
theorem mulS_loc {a a' b b' : Nat → Nat} {n : Nat} (ha : ∀ i, i ≤ n → a i = a' i) (hb : ∀ i, i ≤ n → b i = b' i) : mulS a b n = mulS a' b' n := by
  rw [mulS_sm, mulS_sm]
  congr 1
  apply sm_congr
  intro i hi
  rw [ha i (by omega), hb (n - i) (by omega)]
theorem powS_loc {a a' : Nat → Nat} : ∀ (e : Nat) {n : Nat}, (∀ i, i ≤ n → a i = a' i) → powS a e n = powS a' e n
  | 0, n, _ => rfl
  | e + 1, n, h => mulS_loc (fun i hi => powS_loc e (fun j hj => h j (by omega))) h
end
section
/-! ===== forms: the given series, sizes, basis, parts, images ===== -/
def e2S : Nat → Nat := sumsS 999979 1
def e4S : Nat → Nat := sumsS 240 3
def e6S : Nat → Nat := sumsS 999499 5
def uS (k i : Nat) : Nat := if i = 0 then 1 else if i = k then 1000002 else 0
def oncS : Nat → Nat → Nat
  | 0 => oneS
  | k + 1 => mulS (oncS k) (uS (k + 1))
def qS (i : Nat) : Nat := if i = 1 then 1 else 0
def dS : Nat → Nat := mulS qS (powS (oncS 47) 24)
def szT : List Nat := [1, 0, 1, 1, 1, 1, 2, 1, 2, 2, 2, 2, 3, 2, 3, 3, 3, 3, 4, 3, 4]
def fsT : List Nat := [0, 1, 1, 2, 3, 4, 5, 7, 8, 10, 12, 14, 16, 19, 21, 24, 27, 30, 33, 37, 40]
def zs (k : Nat) : Nat := szT.getD (k / 2) 0
def fst (k : Nat) : Nat := fsT.getD (k / 2) 0
theorem zs_le : ∀ k, k ≤ 40 → zs k ≤ 4 ∧ fst k + zs k ≤ 44 := by decide
theorem fst_mono : ∀ k', k' ≤ 40 → ∀ k, k ≤ 40 → k' % 2 = 0 → k % 2 = 0 → k' < k → fst k' + zs k' ≤ fst k := by decide +kernel
theorem zs_12 : ∀ k, k ≤ 40 → k % 2 = 0 → 1 < zs k → 12 ≤ k ∧ zs k ≤ zs (k - 12) + 1 := by decide
theorem zs_i12 : ∀ k, k ≤ 40 → k % 2 = 0 → ∀ i, i < zs k → 12 * i ≤ k ∧ k ≠ 12 * i + 2 := by decide +kernel
theorem zs_4 : ∀ k, k ≤ 40 → k % 2 = 0 → 0 < zs k → k = 0 ∨ k = 6 ∨ (4 ≤ k ∧ 0 < zs (k - 4)) := by decide
theorem zs_down : ∀ k, k ≤ 40 → k % 2 = 0 → 12 ≤ k → zs k = zs (k - 12) + 1 := by decide
def bE (k i : Nat) : Nat := if (k - 12 * i) % 4 = 2 then 1 else 0
def aE (k i : Nat) : Nat := (k - 12 * i - 6 * bE k i) / 4
def bas (k i : Nat) : Nat → Nat := mulS (mulS (powS dS i) (powS e4S (aE k i))) (powS e6S (bE k i))
theorem bas_red (k i : Nat) : red (bas k i) := red_mul _ _
theorem red_sums (c e : Nat) : red (sumsS c e) := sumsS_lt c e
theorem bas_up {k i : Nat} (h : 12 * (i + 1) ≤ k) : bas k (i + 1) = mulS dS (bas (k - 12) i) := by
  have e1 : bE k (i + 1) = bE (k - 12) i := by unfold bE; rw [show k - 12 * (i + 1) = k - 12 - 12 * i by omega]
  have e2 : aE k (i + 1) = aE (k - 12) i := by unfold aE; rw [e1, show k - 12 * (i + 1) = k - 12 - 12 * i by omega]
  unfold bas
  rw [e1, e2]
  show mulS (mulS (mulS (powS dS i) dS) _) _ = _
  haveI : Std.Associative mulS := ⟨mulS_assoc⟩
  haveI : Std.Commutative mulS := ⟨mulS_comm⟩
  ac_rfl
theorem bas_00 : bas 0 0 = oneS := by
  show mulS (mulS oneS oneS) oneS = oneS
  rw [mulS_1 red_one, mulS_1 red_one]
theorem bas_60 : bas 6 0 = e6S := by
  show mulS (mulS oneS oneS) (mulS oneS e6S) = e6S
  rw [mulS_1 red_one, mulS_1l (red_mul _ _)]
  exact mulS_1l (a := e6S) (red_sums _ _)
theorem bas_4 {k : Nat} (h : 4 ≤ k) (h2 : k % 2 = 0) (h6 : k ≠ 6) : bas k 0 = mulS e4S (bas (k - 4) 0) := by
  have e1 : bE k 0 = bE (k - 4) 0 := by unfold bE; rw [show (k - 12 * 0) % 4 = (k - 4 - 12 * 0) % 4 by omega]
  have e2 : aE k 0 = aE (k - 4) 0 + 1 := by
    have e3 : (k - 12 * 0) % 4 = (k - 4 - 12 * 0) % 4 := by omega
    unfold aE bE
    rw [e3]
    split <;> omega
  unfold bas
  rw [e1, e2]
  show mulS (mulS oneS (mulS (powS e4S _) e4S)) _ = mulS e4S (mulS (mulS oneS _) _)
  haveI : Std.Associative mulS := ⟨mulS_assoc⟩
  haveI : Std.Commutative mulS := ⟨mulS_comm⟩
  ac_rfl
def cntS (k : Nat) : Nat → Nat
  | 0 => 0
  | j + 1 => cntS k j + if k = 12 * j + 2 then 0 else 1
theorem cntS_zs : ∀ k, k ≤ 40 → k % 2 = 0 → cntS k (k / 12 + 1) = zs k := by decide
/-- parts: the model's way -/
def thn (b : Nat → Nat → Nat) (v : Nat → Nat) : Nat → Nat → Nat
  | 0 => v
  | i + 1 => fun n => (thn b v i n + (1000003 - thn b v i i) * b i n) % 1000003
def prt (b : Nat → Nat → Nat) (v : Nat → Nat) (i : Nat) : Nat := thn b v i i
/-- what is left, the class's way -/
def lft (b : Nat → Nat → Nat) (v : Nat → Nat) (n : Nat) : Nat → Int
  | 0 => (v n : Int)
  | t + 1 => lft b v n t - (prt b v t * b t n : Nat)
theorem thn_lt {b : Nat → Nat → Nat} {v : Nat → Nat} {n : Nat} (hv : v n < 1000003) : ∀ t, thn b v t n < 1000003
  | 0 => hv
  | t + 1 => Nat.mod_lt _ (by decide)
theorem thn_lft {b : Nat → Nat → Nat} {v : Nat → Nat} {n : Nat} : ∀ t, (∀ i, i < t → v i < 1000003) → ((thn b v t n : Nat) : Int) % 1000003 = lft b v n t % 1000003
  | 0, _ => rfl
  | t + 1, h => by
    have ih := thn_lft (b := b) (v := v) (n := n) t (fun i hi => h i (by omega))
    have hp : thn b v t t < 1000003 := thn_lt (h t (by omega)) t
    show (((thn b v t n + (1000003 - thn b v t t) * b t n) % 1000003 : Nat) : Int) % 1000003 = (lft b v n t - (prt b v t * b t n : Nat)) % 1000003
    unfold prt
    generalize thn b v t t = P at hp ⊢
    generalize thn b v t n = T at ih ⊢
    generalize lft b v n t = L at ih ⊢
    have h1 : (1000003 - P) * b t n = 1000003 * b t n - P * b t n := Nat.sub_mul _ _ _
    have h2 : P * b t n ≤ 1000003 * b t n := Nat.mul_le_mul_right _ (by omega)
    rw [h1]
    generalize P * b t n = X at h2 ⊢
    omega
theorem prt_zm {b : Nat → Nat → Nat} {v : Nat → Nat} {i : Nat} (hv : ∀ j, j ≤ i → v j < 1000003) : zm (lft b v i i) = prt b v i := by
  have h := thn_lft (b := b) (v := v) (n := i) i (fun j hj => hv j (by omega))
  have h2 := thn_lt (b := b) (v := v) (n := i) (hv i (Nat.le_refl i)) i
  unfold zm prt
  rw [← h]
  omega
theorem prt_lt {b : Nat → Nat → Nat} {v : Nat → Nat} {i : Nat} (hv : v i < 1000003) : prt b v i < 1000003 := thn_lt hv i
theorem lft_le {b : Nat → Nat → Nat} {v : Nat → Nat} {n : Nat} (hb : ∀ i, b i n < 1000003) (hv : ∀ j, j ≤ n → v j < 1000003) : ∀ t, t ≤ n → -((t : Int) * 1000006000009) ≤ lft b v n t ∧ lft b v n t < 1000003
  | 0, _ => by
    have := hv n (Nat.le_refl n)
    show _ ≤ ((v n : Nat) : Int) ∧ ((v n : Nat) : Int) < _
    omega
  | t + 1, h => by
    have ih := lft_le hb hv t (by omega)
    have h2 := mul_lt (prt_lt (b := b) (hv t (by omega))) (hb t)
    show _ ≤ lft b v n t - (prt b v t * b t n : Nat) ∧ lft b v n t - (prt b v t * b t n : Nat) < _
    generalize prt b v t * b t n = X at h2 ⊢
    omega
/-- the form that has these parts -/
def bld (b : Nat → Nat → Nat) (z : Nat) (p : Nat → Nat) (n : Nat) : Nat := sm (fun i => p i * b i n) z % 1000003
/-- the first numbers of what a prime does -/
def imgS (k p : Nat) (a : Nat → Nat) (n : Nat) : Nat := (a (p * n) + if n % p = 0 then p ^ (k - 1) % 1000003 * a (n / p) else 0) % 1000003
theorem sm_le {f : Nat → Nat} {c : Nat} : ∀ {n : Nat}, (∀ i, i < n → f i ≤ c) → sm f n ≤ n * c
  | 0, _ => Nat.zero_le _
  | n + 1, h => by
    have h1 := sm_le (n := n) (fun i hi => h i (by omega))
    have h2 := h n (by omega)
    unfold sm
    rw [Nat.add_mul, Nat.one_mul]
    omega
end
section
/-! ===== entries of members of classes of the JDK ===== -/
section ZE
variable {l : Launch} {G : zG} {y : MethodName} {cd : Cond} {rm : Room} {n : Nat} {ad : Nat → Nat} {w : Nat → va_E} {av : List Value} {cc : ByteArray} {maxL : Nat}
theorem ent_iF {post : Int32 → (Nat → va_E) → Prop} {ret : Option FieldType} (hy : plainFor y = true) (hcd : cd = Cond.code y cc maxL ret) (hargs : (lg_sl av).length ≤ maxL)
    (body : ∀ (p : Program) (e : Env) (s : State) (m : MethodId) (args : Array Value) (below : List Frame) (meth : Method) (c : Code) (A : Nat → Prop), Bs G p s m args c cc maxL y.cls → meth.sig.returnType = ret → meth.locks = false → (∀ q, s.heap.size ≤ q → A q) → ∀ (H : Heap) (locs : List Loc) (ls : Array Slot), Wo G A s.heap n ad w H locs → lv_has ls maxL (lv_args 0 av) →
      W p l e rm s m args below meth c H locs 0 0 (MQ below (va_Qi post (Kp G n ad A) A) args s 0 0 A) (F0 m 0 ls [])) : Ci l G y cd rm n ad w av post := by
  intro sz
  refine va_MetF (cc := cc) (maxL := maxL) (ret := ret) hy (by rw [hcd]) ?_
  intro p e s m args below meth c s₁ B hml hv
  obtain ⟨rfl, hsz, hP, hK, hD0⟩ := hv
  subst hsz
  have hts := atoms_spec (ws := cd :: lw_gd) B.pre
  have hl := lv_entry av (n := maxL) hargs
  rw [lg_entry_eq]
  exact body p e s m _ below meth c _ ⟨B.exec, B.bytes, hml, findClass_of_methodNamed B.named, fun q hq => hts q (List.mem_cons_of_mem _ hq), hK⟩ B.returns B.notSynchronized (fun q h => Or.inr h) _ _ _ ⟨hP, hD0.self, va_S.rf⟩ hl
theorem ent_lF {post : Int64 → (Nat → va_E) → Prop} {ret : Option FieldType} (hy : plainFor y = true) (hcd : cd = Cond.code y cc maxL ret) (hargs : (lg_sl av).length ≤ maxL)
    (body : ∀ (p : Program) (e : Env) (s : State) (m : MethodId) (args : Array Value) (below : List Frame) (meth : Method) (c : Code) (A : Nat → Prop), Bs G p s m args c cc maxL y.cls → meth.sig.returnType = ret → meth.locks = false → (∀ q, s.heap.size ≤ q → A q) → ∀ (H : Heap) (locs : List Loc) (ls : Array Slot), Wo G A s.heap n ad w H locs → lv_has ls maxL (lv_args 0 av) →
      W p l e rm s m args below meth c H locs 0 0 (MQ below (va_Ql post (Kp G n ad A) A) args s 0 0 A) (F0 m 0 ls [])) : Cl l G y cd rm n ad w av post := by
  intro sz
  refine va_MetF (cc := cc) (maxL := maxL) (ret := ret) hy (by rw [hcd]) ?_
  intro p e s m args below meth c s₁ B hml hv
  obtain ⟨rfl, hsz, hP, hK, hD0⟩ := hv
  subst hsz
  have hts := atoms_spec (ws := cd :: lw_gd) B.pre
  have hl := lv_entry av (n := maxL) hargs
  rw [lg_entry_eq]
  exact body p e s m _ below meth c _ ⟨B.exec, B.bytes, hml, findClass_of_methodNamed B.named, fun q hq => hts q (List.mem_cons_of_mem _ hq), hK⟩ B.returns B.notSynchronized (fun q h => Or.inr h) _ _ _ ⟨hP, hD0.self, va_S.rf⟩ hl
end ZE
end
section
set_option maxHeartbeats 4000000 in
set_option maxRecDepth 100000 in
theorem k_floorMod (l : Launch) (G : zG) (n : Nat) (ad : Nat → Nat) (w : Nat → va_E) (z : Int) (h1 : -4611686018427387904 ≤ z) (h2 : z ≤ 4611686018427387904) :
    Cl l G yJ9_floorMod_f86c9 cdJ9_floorMod_f86c9 (zr 0) n ad w [.long (lZ z), .long (lN 1000003)] (fun r w' => w' = w ∧ r = lN (zm z)) := by
  refine ent_lF (cc := cJ9_floorMod_f86c9) (maxL := 6) (ret := (some .long)) (by decide +kernel) rfl (Nat.le_of_ble_eq_true rfl) ?_
  intro p e s m args below meth c A B hr hlk hA H locs ls hW hl
  have hx := B.1
  have hb := B.2.1
  have hl : lv_has ls 6 [(0, .long (lZ (z))), (2, .long (lN (1000003)))] := hl
  have hnn := fm_nn z
  have hall := fm_all z
  refine lv_lload_n hx hb dJ9_floorMod_f86c9_0 rfl (lv_at hl 0 rfl) ?_
  refine lv_lload_n hx hb dJ9_floorMod_f86c9_1 rfl (lv_at hl 1 rfl) ?_
  refine lv_lrem hx hb dJ9_floorMod_f86c9_2 (by decide) ?_
  refine topl (y := (lZ (z.tmod 1000003))) (lZ_rem h1 h2 (by decide) (by decide)) ?_
  refine lv_lstore (lv' := [(4, .long (lZ (z.tmod 1000003))), (0, .long (lZ (z))), (2, .long (lN (1000003)))]) hx hb dJ9_floorMod_f86c9_3 hl (by decide) rfl (fun ls hl => ?_)
  refine lv_lload_n hx hb dJ9_floorMod_f86c9_5 rfl (lv_at hl 1 rfl) ?_
  refine lv_lload_n hx hb dJ9_floorMod_f86c9_6 rfl (lv_at hl 2 rfl) ?_
  refine lv_lxor hx hb dJ9_floorMod_f86c9_7 ?_
  refine lv_lconst (v := lN 0) hx hb dJ9_floorMod_f86c9_8 (by decide) ?_
  refine lc_ge (tgt := 25) hx hb dJ9_floorMod_f86c9_9 dJ9_floorMod_f86c9_10 (by decide) (fun hc => ?_) (fun hc => ?_)
  · have hz : 0 ≤ z := by
      rcases Int.lt_or_le z 0 with q | q
      · have q2 := (xor_neg (lZ z) (lN 1000003) (by decide)).mpr ((lZ_neg h1 h2).mpr q)
        rw [Int64.lt_iff_toInt_lt] at q2
        rw [Int64.le_iff_toInt_le] at hc
        exact absurd hc (Int.not_le.mpr q2)
      · exact q
    refine lv_lload hx hb dJ9_floorMod_f86c9_25 (lv_at hl 0 rfl) ?_
    exact ret_l B hr hlk hW ⟨rfl, by rw [fm_pos hz, lZ_zm]⟩ dJ9_floorMod_f86c9_27
  · have hz : z < 0 := (lZ_neg h1 h2).mp ((xor_neg (lZ z) (lN 1000003) (by decide)).mp hc)
    have hng := fm_neg hz
    refine lv_lload hx hb dJ9_floorMod_f86c9_13 (lv_at hl 0 rfl) ?_
    refine lv_lconst (v := lN 0) hx hb dJ9_floorMod_f86c9_15 (by decide) ?_
    refine lc_eq (tgt := 25) hx hb dJ9_floorMod_f86c9_16 dJ9_floorMod_f86c9_17 (by decide) (fun hd => ?_) (fun hd => ?_)
    · have h0 : z.tmod 1000003 = 0 := (lZ_eq0 (by omega) (by omega)).mp hd
      refine lv_lload hx hb dJ9_floorMod_f86c9_25 (lv_at hl 0 rfl) ?_
      exact ret_l B hr hlk hW ⟨rfl, by rw [h0, ← hng.1 h0, lZ_zm]⟩ dJ9_floorMod_f86c9_27
    · have h0 : ¬ z.tmod 1000003 = 0 := fun q => hd ((lZ_eq0 (by omega) (by omega)).mpr q)
      refine lv_lload hx hb dJ9_floorMod_f86c9_20 (lv_at hl 0 rfl) ?_
      refine lv_lload_n hx hb dJ9_floorMod_f86c9_22 rfl (lv_at hl 2 rfl) ?_
      refine topl (y := (lZ (1000003))) (by decide) ?_
      refine z_ladd hx hb dJ9_floorMod_f86c9_23 ?_
      exact ret_l B hr hlk hW ⟨rfl, by rw [hng.2 h0, lZ_zm]⟩ dJ9_floorMod_f86c9_24
set_option maxHeartbeats 4000000 in
set_option maxRecDepth 100000 in
theorem k_rest (l : Launch) (G : zG) (n : Nat) (ad : Nat → Nat) (w : Nat → va_E) (z : Int) (h1 : -4611686018427387904 ≤ z) (h2 : z ≤ 4611686018427387904) :
    Cl l G yX2_rest cdX2_rest (zr 1) n ad w [.long (lZ z)] (fun r w' => w' = w ∧ r = lN (zm z)) := by
  refine ent_l (cc := cX2_rest) (maxL := 2) (ret := (some .long)) (by decide +kernel) rfl (Nat.le_of_ble_eq_true rfl) ?_
  intro p e s m args below meth c A B hr hlk hA H locs ls hW hl
  have hx := B.1
  have hb := B.2.1
  have hl : lv_has ls 2 [(0, .long (lZ (z)))] := hl
  refine lv_lload_n hx hb dX2_rest_0 rfl (lv_at hl 0 rfl) ?_
  refine n_ldc2 B hw_29 (x := lN 1000003) (by decide) dX2_rest_1 ?_
  refine call_sl B hA hW (k_floorMod l G n ad w z h1 h2) mf_J9_floorMod_f86c9 hw_30 rfl ⟨⟨rfl, rfl⟩, by decide, by decide⟩ ⟨Nat.zero_le _, Nat.zero_le _⟩ hl.1 rfl (Nat.le_of_ble_eq_true rfl) dX2_rest_4 (fun r w2 H locs hp hW => ?_)
  obtain ⟨e1, e2⟩ := hp
  rw [e1] at hW
  subst e2
  exact ret_l B hr hlk hW ⟨rfl, rfl⟩ dX2_rest_7
set_option maxHeartbeats 4000000 in
set_option maxRecDepth 100000 in
theorem k_raised (l : Launch) (G : zG) (n : Nat) (ad : Nat → Nat) (w : Nat → va_E) (a e9 : Nat) (ha : a < 1000003) (he : e9 < 2 ^ 31) :
    Cl l G yX2_raised cdX2_raised (zr 0) n ad w [.long (lN a), .int (nI e9)] (fun r w' => w' = w ∧ r = lN (a ^ e9 % 1000003)) := by
  refine ent_l (cc := cX2_raised) (maxL := 6) (ret := (some .long)) (by decide +kernel) rfl (Nat.le_of_ble_eq_true rfl) ?_
  intro p e s m args below meth c A B hr hlk hA H locs ls hW hl
  have hx := B.1
  have hb := B.2.1
  have hl : lv_has ls 6 [(0, .long (lN (a))), (2, .int (nI (e9)))] := hl
  refine lv_lconst (v := lN 1) hx hb dX2_raised_0 (by decide) ?_
  refine lv_lstore_n (lv' := [(3, .long (lN (1))), (0, .long (lN (a))), (2, .int (nI (e9)))]) hx hb dX2_raised_1 rfl hl (by decide) rfl (fun ls hl => ?_)
  refine lv_bipush (v := nI 30) hx hb dX2_raised_2 (by decide) ?_
  refine lv_istore (lv' := [(5, .int (nI (30))), (3, .long (lN (1))), (0, .long (lN (a))), (2, .int (nI (e9)))]) hx hb dX2_raised_4 hl (by decide) rfl (fun ls hl => ?_)
  refine z_dn1 (Wg := fun ls => W p l e (zr 0) s m args below meth c H locs 0 0 _ (F0 m 6 ls [])) (I := fun k ls => k ≤ 31 ∧ lv_has ls 6 [(5, .int (nI k - 1)), (3, .long (lN (a ^ (e9 / 2 ^ k) % 1000003))), (0, .long (lN a)), (2, .int (nI e9))]) ?_ ?_ 31 ls ⟨by omega, by rw [show nI 31 - 1 = nI 30 by decide, Nat.div_eq_of_lt he]; exact hl⟩
  · rintro ls ⟨-, hl⟩
    rw [show e9 / 2 ^ 0 = e9 by simp] at hl
    refine lv_iload hx hb dX2_raised_6 (lv_at hl 0 rfl) ?_
    refine lv_if_lt (tgt := 43) hx hb dX2_raised_8 (by decide) (fun hc => ?_) (fun hc => ?_)
    · refine lv_lload_n hx hb dX2_raised_43 rfl (lv_at hl 1 rfl) ?_
      exact ret_l B hr hlk hW ⟨rfl, rfl⟩ dX2_raised_44
    · exact absurd (by decide) hc
  · rintro k ih ls ⟨hk, hl⟩
    rw [nI_pred] at hl
    generalize hq : e9 / 2 ^ (k + 1) = q at hl
    have hbs := bit_step e9 k
    rw [hq] at hbs
    have hml := Nat.mod_lt (a ^ q) (show 0 < 1000003 by decide)
    obtain ⟨x, hx9⟩ : ∃ x, x = a ^ q % 1000003 := ⟨_, rfl⟩
    rw [← hx9] at hl hml
    have hxx := mul_lt hml hml
    have hsq := pw_sq hx9
    refine lv_iload hx hb dX2_raised_6 (lv_at hl 0 rfl) ?_
    refine n_if_lt (tgt := 43) hx hb (by omega) dX2_raised_8 (by decide) ?_
    refine lv_lload_n hx hb dX2_raised_11 rfl (lv_at hl 1 rfl) ?_
    refine lv_lload_n hx hb dX2_raised_12 rfl (lv_at hl 1 rfl) ?_
    refine n_lmul hx hb dX2_raised_13 ?_
    refine n_ldc2 B hw_29 (x := lN 1000003) (by decide) dX2_raised_14 ?_
    refine n_lrem hx hb (by omega) (by omega) (by omega) dX2_raised_17 ?_
    obtain ⟨y, hy9⟩ : ∃ y, y = x * x % 1000003 := ⟨_, rfl⟩
    rw [← hy9] at hsq
    refine topl (y := (lN (y))) (by rw [hy9]) ?_
    refine lv_lstore_n (lv' := [(3, .long (lN (y))), (5, .int (nI (k))), (0, .long (lN (a))), (2, .int (nI (e9)))]) hx hb dX2_raised_18 rfl hl (by decide) rfl (fun ls hl => ?_)
    refine lv_iload_n hx hb dX2_raised_19 rfl (lv_at hl 3 rfl) ?_
    refine lv_iload hx hb dX2_raised_20 (lv_at hl 1 rfl) ?_
    refine lv_ishr hx hb dX2_raised_22 ?_
    refine lv_iconst (v := nI 1) hx hb dX2_raised_23 (by decide) ?_
    refine lv_iand hx hb dX2_raised_24 ?_
    refine topi (y := (nI (e9 / 2 ^ k % 2))) (shr_bit he (by omega)) ?_
    refine lv_iconst (v := nI 1) hx hb dX2_raised_25 (by decide) ?_
    have hr2 := Nat.mod_lt (e9 / 2 ^ k) (show 0 < 2 by decide)
    refine n_icmp_ne (tgt := 37) hx hb (by omega) (by omega) dX2_raised_26 (by decide) (fun hc => ?_) (fun hc => ?_)
    · have h0 : e9 / 2 ^ k % 2 = 0 := by omega
      refine lv_iinc (v := (nI (k) - 1)) (lv' := [(5, .int (nI (k) - 1)), (3, .long (lN (y))), (0, .long (lN (a))), (2, .int (nI (e9)))]) hx hb dX2_raised_37 hl (k := 1) rfl (im1 _) (by decide) rfl (fun ls hl => ?_)
      refine lv_goto (tgt := 6) hx hb dX2_raised_40 (by decide) ?_
      exact ih ls ⟨by omega, by rw [hbs, h0, Nat.add_zero, ← hsq]; exact lv_sub hl [0, 1, 2, 3] rfl⟩
    · have hyl : y < 1000003 := by rw [hy9]; exact Nat.mod_lt _ (by decide)
      have hya := mul_lt hyl ha
      refine lv_lload_n hx hb dX2_raised_29 rfl (lv_at hl 0 rfl) ?_
      refine lv_lload_n hx hb dX2_raised_30 rfl (lv_at hl 2 rfl) ?_
      refine n_lmul hx hb dX2_raised_31 ?_
      refine n_ldc2 B hw_29 (x := lN 1000003) (by decide) dX2_raised_32 ?_
      refine n_lrem hx hb (by omega) (by omega) (by omega) dX2_raised_35 ?_
      refine lv_lstore_n (lv' := [(3, .long (lN ((y * a) % 1000003))), (5, .int (nI (k))), (0, .long (lN (a))), (2, .int (nI (e9)))]) hx hb dX2_raised_36 rfl hl (by decide) rfl (fun ls hl => ?_)
      refine lv_iinc (v := (nI (k) - 1)) (lv' := [(5, .int (nI (k) - 1)), (3, .long (lN ((y * a) % 1000003))), (0, .long (lN (a))), (2, .int (nI (e9)))]) hx hb dX2_raised_37 hl (k := 1) rfl (im1 _) (by decide) rfl (fun ls hl => ?_)
      refine lv_goto (tgt := 6) hx hb dX2_raised_40 (by decide) ?_
      exact ih ls ⟨by omega, by rw [hbs, hc, ← pw_sc hsq]; exact lv_sub hl [0, 1, 2, 3] rfl⟩
set_option maxHeartbeats 4000000 in
set_option maxRecDepth 100000 in
theorem k_quotient (l : Launch) (G : zG) (n : Nat) (ad : Nat → Nat) (w : Nat → va_E) (x y : Int) (h1 : -4611686018427387904 ≤ x) (h2 : x ≤ 4611686018427387904) (h3 : -4611686018427387904 ≤ y) (h4 : y ≤ 4611686018427387904) :
    Cl l G yX2_quotient cdX2_quotient (zr 2) n ad w [.long (lZ x), .long (lZ y)] (fun r w' => w' = w ∧ r = lN (zm x * (zm y ^ 1000001 % 1000003) % 1000003)) := by
  refine ent_l (cc := cX2_quotient) (maxL := 4) (ret := (some .long)) (by decide +kernel) rfl (Nat.le_of_ble_eq_true rfl) ?_
  intro p e s m args below meth c A B hr hlk hA H locs ls hW hl
  have hx := B.1
  have hb := B.2.1
  have hl : lv_has ls 4 [(0, .long (lZ (x))), (2, .long (lZ (y)))] := hl
  refine lv_lload_n hx hb dX2_quotient_0 rfl (lv_at hl 0 rfl) ?_
  refine call_sl B hA hW (k_rest l G n ad w x h1 h2) mf_X2_rest hw_167 rfl ⟨⟨rfl, rfl⟩, by decide, by decide⟩ ⟨Nat.zero_le _, Nat.zero_le _⟩ hl.1 rfl (Nat.le_of_ble_eq_true rfl) dX2_quotient_1 (fun r w2 H locs hp hW => ?_)
  obtain ⟨e1, e2⟩ := hp
  rw [e1] at hW
  subst e2
  refine lv_lload_n hx hb dX2_quotient_4 rfl (lv_at hl 1 rfl) ?_
  refine call_sl B hA hW (k_rest l G n ad w y h3 h4) mf_X2_rest hw_167 rfl ⟨⟨rfl, rfl⟩, by decide, by decide⟩ ⟨Nat.zero_le _, Nat.zero_le _⟩ hl.1 rfl (Nat.le_of_ble_eq_true rfl) dX2_quotient_5 (fun r w3 H locs hp hW => ?_)
  obtain ⟨e1, e2⟩ := hp
  rw [e1] at hW
  subst e2
  refine n_ldc B hw_168 (x := nI 1000001) (by decide) dX2_quotient_8 ?_
  refine call_sl B hA hW (k_raised l G n ad w (zm y) 1000001 (zm_lt y) (by decide)) mf_X2_raised hw_169 rfl ⟨⟨rfl, rfl⟩, by decide, by decide⟩ ⟨Nat.zero_le _, Nat.zero_le _⟩ hl.1 rfl (Nat.le_of_ble_eq_true rfl) dX2_quotient_10 (fun r w4 H locs hp hW => ?_)
  obtain ⟨e1, e2⟩ := hp
  rw [e1] at hW
  subst e2
  have hq1 := mul_lt (zm_lt x) (Nat.mod_lt (zm y ^ 1000001) (show 0 < 1000003 by decide))
  refine n_lmul hx hb dX2_quotient_13 ?_
  refine n_ldc2 B hw_29 (x := lN 1000003) (by decide) dX2_quotient_14 ?_
  refine n_lrem hx hb (by omega) (by omega) (by omega) dX2_quotient_17 ?_
  exact ret_l B hr hlk hW ⟨rfl, rfl⟩ dX2_quotient_18
end
section
set_option maxHeartbeats 4000000 in
set_option maxRecDepth 100000 in
theorem k_X3_multiply (l : Launch) (G : zG) (n : Nat) (ad : Nat → Nat) (w : Nat → va_E) (ka kb kr : Nat) (a b : Nat → Nat) (hka : ka < n) (hkb : kb < n) (hkr : kr < n) (ha : isL G w ka 48 a) (hb : isL G w kb 48 b) (hr : ∃ f, w kr = eL G 48 f) (ra : sM a) (rb : sM b) :
    Cv l G yX3_multiply cdX3_multiply (zr 0) n ad w [.ref (ad ka), .ref (ad kb), .ref (ad kr)] (fun w' => (∀ j, j ≠ kr → w' j = w j) ∧ isL G w' kr 48 (mulS a b)) := by
  obtain ⟨fa, ea, va⟩ := ha
  obtain ⟨fb, eb, vb⟩ := hb
  obtain ⟨fr, er⟩ := hr
  refine ent_v (cc := cX3_multiply) (maxL := 7) (ret := none) (by decide +kernel) rfl (Nat.le_of_ble_eq_true rfl) ?_
  intro p e s m args below meth c A B hr hlk hA H locs ls hW hl
  have hx := B.1
  have hb := B.2.1
  have hl : lv_has ls 7 [(0, .ref (ad (ka))), (1, .ref (ad (kb))), (2, .ref (ad (kr)))] := hl
  refine lv_bipush (v := nI 47) hx hb dX3_multiply_0 (by decide) ?_
  refine lv_istore_n (lv' := [(3, .int (nI (47))), (0, .ref (ad (ka))), (1, .ref (ad (kb))), (2, .ref (ad (kr)))]) hx hb dX3_multiply_2 rfl hl (by decide) rfl (fun ls hl => ?_)
  refine z_dn (Wg := fun H locs ls => W p l e (zr 0) s m args below meth c H locs 0 0 _ (F0 m 3 ls [])) (I := fun k H locs ls => ∃ (w2 : Nat → va_E) (f : Nat → Int64), Wo G A s.heap n ad w2 H locs ∧ lv_has ls 7 [(3, .int (nI k - 1)), (0, .ref (ad ka)), (1, .ref (ad kb)), (2, .ref (ad kr))] ∧ k ≤ 48 ∧ (∀ j, j ≠ kr → w2 j = w j) ∧ w2 kr = eL G 48 f ∧ (∀ i, k ≤ i → i < 48 → f i = lN (mulS a b i)) ∧ (∀ i, i < k → f i = fr i)) ?_ ?_ 48 H locs ls ⟨w, fr, hW, (by rw [show nI 48 - 1 = nI 47 by decide]; exact hl), by omega, fun _ _ => rfl, er, fun i h1 h2 => by omega, fun _ _ => rfl⟩
  · rintro H locs ls ⟨w2, f, hW, hl, hk, h1, h2, h3, h4⟩
    refine lv_iload_n hx hb dX3_multiply_3 rfl (lv_at hl 0 rfl) ?_
    refine lv_if_lt (tgt := 56) hx hb dX3_multiply_4 (by decide) (fun hc => ?_) (fun hc => ?_)
    · exact ret_v B hr hlk hW ⟨h1, f, h2, fun i hi => h3 i (by omega) hi⟩ dX3_multiply_56
    · exact absurd (by decide) hc
  · rintro k ih H locs ls ⟨w2, f, hW, hl, hk, h1, h2, h3, h4⟩
    rw [nI_pred] at hl
    obtain ⟨ga, ea2, va2⟩ := rd_alias ea er h1 h2 h4
    obtain ⟨gb, eb2, vb2⟩ := rd_alias eb er h1 h2 h4
    refine lv_iload_n hx hb dX3_multiply_3 rfl (lv_at hl 0 rfl) ?_
    refine n_if_lt (tgt := 56) hx hb (by omega) dX3_multiply_4 (by decide) ?_
    refine lv_lconst (v := lN 0) hx hb dX3_multiply_7 (by decide) ?_
    refine lv_lstore (lv' := [(4, .long (lN (0))), (3, .int (nI (k))), (0, .ref (ad (ka))), (1, .ref (ad (kb))), (2, .ref (ad (kr)))]) hx hb dX3_multiply_8 hl (by decide) rfl (fun ls hl => ?_)
    refine lv_iconst (v := nI 0) hx hb dX3_multiply_10 (by decide) ?_
    refine lv_istore (lv' := [(6, .int (nI (0))), (4, .long (lN (0))), (3, .int (nI (k))), (0, .ref (ad (ka))), (1, .ref (ad (kb))), (2, .ref (ad (kr)))]) hx hb dX3_multiply_11 hl (by decide) rfl (fun ls hl => ?_)
    refine z_up1 (Wg := fun ls => W p l e (zr 0) s m args below meth c H locs 0 0 _ (F0 m 13 ls [])) (I := fun i ls => lv_has ls 7 [(6, .int (nI i)), (4, .long (lN (cv a b k i))), (3, .int (nI k)), (0, .ref (ad ka)), (1, .ref (ad kb)), (2, .ref (ad kr))]) (a := 0) (b := k + 1) (by omega) ?_ ?_ ls hl
    · intro i _ hi ih2 ls hl
      refine lv_iload hx hb dX3_multiply_13 (lv_at hl 0 rfl) ?_
      refine lv_iload_n hx hb dX3_multiply_15 rfl (lv_at hl 2 rfl) ?_
      refine n_icmp_gt (tgt := 41) hx hb (by omega) (by omega) dX3_multiply_16 (by decide) (fun hc => ?_) (fun hc => ?_)
      · omega
      · refine lv_lload hx hb dX3_multiply_19 (lv_at hl 1 rfl) ?_
        refine lv_aload_n hx hb dX3_multiply_21 rfl (lv_at hl 3 rfl) ?_
        refine lv_iload hx hb dX3_multiply_22 (lv_at hl 0 rfl) ?_
        refine z_lald B hW (ka) (by omega) ea2 (i) (by omega) (by decide) (v := (lN (a (i)))) (by rw [va2 _ (by omega), va _ (by omega)]) dX3_multiply_24 ?_
        refine lv_aload_n hx hb dX3_multiply_25 rfl (lv_at hl 4 rfl) ?_
        refine lv_iload_n hx hb dX3_multiply_26 rfl (lv_at hl 2 rfl) ?_
        refine lv_iload hx hb dX3_multiply_27 (lv_at hl 0 rfl) ?_
        refine n_isub hx hb (by omega) dX3_multiply_29 ?_
        refine z_lald B hW (kb) (by omega) eb2 (k - i) (by omega) (by decide) (v := (lN (b (k - i)))) (by rw [vb2 _ (by omega), vb _ (by omega)]) dX3_multiply_30 ?_
        refine n_lmul hx hb dX3_multiply_31 ?_
        refine n_ladd hx hb dX3_multiply_32 ?_
        refine lv_lstore (lv' := [(4, .long (lN ((cv a b k i) + ((a (i)) * (b (k - i)))))), (6, .int (nI (i))), (3, .int (nI (k))), (0, .ref (ad (ka))), (1, .ref (ad (kb))), (2, .ref (ad (kr)))]) hx hb dX3_multiply_33 hl (by decide) rfl (fun ls hl => ?_)
        refine lv_iinc (v := (nI (i + 1))) (lv' := [(6, .int (nI (i + 1))), (4, .long (lN ((cv a b k i) + ((a (i)) * (b (k - i)))))), (3, .int (nI (k))), (0, .ref (ad (ka))), (1, .ref (ad (kb))), (2, .ref (ad (kr)))]) hx hb dX3_multiply_35 hl (k := 1) rfl (iinc1 _) (by decide) rfl (fun ls hl => ?_)
        refine lv_goto (tgt := 13) hx hb dX3_multiply_38 (by decide) ?_
        exact ih2 ls (lv_sub hl [0, 1, 2, 3, 4, 5] rfl)
    · intro ls hl
      refine lv_iload hx hb dX3_multiply_13 (lv_at hl 0 rfl) ?_
      refine lv_iload_n hx hb dX3_multiply_15 rfl (lv_at hl 2 rfl) ?_
      refine n_icmp_gt (tgt := 41) hx hb (by omega) (by omega) dX3_multiply_16 (by decide) (fun hc => ?_) (fun hc => ?_)
      · have hcv := cv_lt ra rb (n := k) (by omega) (k + 1) (by omega)
        refine lv_aload_n hx hb dX3_multiply_41 rfl (lv_at hl 5 rfl) ?_
        refine lv_iload_n hx hb dX3_multiply_42 rfl (lv_at hl 2 rfl) ?_
        refine lv_lload hx hb dX3_multiply_43 (lv_at hl 1 rfl) ?_
        refine n_ldc2 B hw_42 (x := lN 1000003) (by decide) dX3_multiply_45 ?_
        refine n_lrem hx hb (by omega) (by omega) (by omega) dX3_multiply_48 ?_
        refine z_last B hW (kr) (by omega) h2 (k) (by omega) (by decide) dX3_multiply_49 (fun H locs hW => ?_)
        refine lv_iinc (v := (nI (k) - 1)) (lv' := [(3, .int (nI (k) - 1)), (6, .int (nI (k + 1))), (4, .long (lN (cv a b k (k + 1)))), (0, .ref (ad (ka))), (1, .ref (ad (kb))), (2, .ref (ad (kr)))]) hx hb dX3_multiply_50 hl (k := 2) rfl (im1 _) (by decide) rfl (fun ls hl => ?_)
        refine lv_goto (tgt := 3) hx hb dX3_multiply_53 (by decide) ?_
        refine ih H locs ls ⟨_, _, hW, lv_sub hl [0, 3, 4, 5] rfl, by omega, fun j hj => by rw [up_n hj]; exact h1 j hj, up_s, fun i h5 h6 => ?_, fun i h5 => ?_⟩
        · by_cases e : i = k
          · subst e; exact pk_uLs
          · rw [pk_uLn e]; exact h3 i (by omega) h6
        · rw [pk_uLn (by omega)]; exact h4 i (by omega)
      · omega
end
section
set_option maxHeartbeats 4000000 in
set_option maxRecDepth 100000 in
theorem k_putOne (l : Launch) (G : zG) (n : Nat) (ad : Nat → Nat) (w : Nat → va_E) (kr : Nat) (hkr : kr < n) (hr0 : ∃ f, w kr = eL G 48 f) :
    Cv l G yX3_putOne cdX3_putOne (zr 0) n ad w [.ref (ad kr)] (fun w' => (∀ j, j ≠ kr → w' j = w j) ∧ isL G w' kr 48 oneS) := by
  obtain ⟨fr, er⟩ := hr0
  refine ent_v (cc := cX3_putOne) (maxL := 2) (ret := none) (by decide +kernel) rfl (Nat.le_of_ble_eq_true rfl) ?_
  intro p e s m args below meth c A B hr hlk hA H locs ls hW hl
  have hx := B.1
  have hb := B.2.1
  have hl : lv_has ls 2 [(0, .ref (ad (kr)))] := hl
  refine lv_iconst (v := nI 0) hx hb dX3_putOne_0 (by decide) ?_
  refine lv_istore_n (lv' := [(1, .int (nI (0))), (0, .ref (ad (kr)))]) hx hb dX3_putOne_1 rfl hl (by decide) rfl (fun ls hl => ?_)
  refine z_up (Wg := fun H locs ls => W p l e (zr 0) s m args below meth c H locs 0 0 _ (F0 m 2 ls [])) (I := fun k H locs ls => ∃ (w2 : Nat → va_E) (f : Nat → Int64), Wo G A s.heap n ad w2 H locs ∧ lv_has ls 2 [(1, .int (nI k)), (0, .ref (ad kr))] ∧ (∀ j, j ≠ kr → w2 j = w j) ∧ w2 kr = eL G 48 f ∧ (∀ i, i < k → f i = lN (oneS i))) (a := 0) (b := 48) (by omega) ?_ ?_ H locs ls ⟨w, fr, hW, hl, fun _ _ => rfl, er, fun i h => by omega⟩
  · rintro k - hk ih H locs ls ⟨w2, f, hW, hl, h1, h2, h3⟩
    refine lv_iload_n hx hb dX3_putOne_2 rfl (lv_at hl 0 rfl) ?_
    refine lv_bipush (v := nI 48) hx hb dX3_putOne_3 (by decide) ?_
    refine n_icmp_ge (tgt := 26) hx hb (by omega) (by omega) dX3_putOne_5 (by decide) (fun hc => ?_) (fun hc => ?_)
    · omega
    · refine lv_aload_n hx hb dX3_putOne_8 rfl (lv_at hl 1 rfl) ?_
      refine lv_iload_n hx hb dX3_putOne_9 rfl (lv_at hl 0 rfl) ?_
      refine lv_iload_n hx hb dX3_putOne_10 rfl (lv_at hl 0 rfl) ?_
      refine n_if_ne (tgt := 18) hx hb (by omega) dX3_putOne_11 (by decide) (fun hd => ?_) (fun hd => ?_)
      · refine lv_lconst (v := lN 0) hx hb dX3_putOne_18 (by decide) ?_
        refine z_last B hW (kr) (by omega) h2 (k) (by omega) (by decide) dX3_putOne_19 (fun H locs hW => ?_)
        refine lv_iinc (v := (nI (k + 1))) (lv' := [(1, .int (nI (k + 1))), (0, .ref (ad (kr)))]) hx hb dX3_putOne_20 hl (k := 0) rfl (iinc1 _) (by decide) rfl (fun ls hl => ?_)
        refine lv_goto (tgt := 2) hx hb dX3_putOne_23 (by decide) ?_
        refine ih H locs ls ⟨_, _, hW, hl, fun j hj => by rw [up_n hj]; exact h1 j hj, up_s, fun i hi => ?_⟩
        by_cases q : i = k
        · subst q; rw [pk_uLs]; simp [oneS, hd]
        · rw [pk_uLn q]; exact h3 i (by omega)
      · refine lv_lconst (v := lN 1) hx hb dX3_putOne_14 (by decide) ?_
        refine lv_goto (tgt := 19) hx hb dX3_putOne_15 (by decide) ?_
        refine z_last B hW (kr) (by omega) h2 (k) (by omega) (by decide) dX3_putOne_19 (fun H locs hW => ?_)
        refine lv_iinc (v := (nI (k + 1))) (lv' := [(1, .int (nI (k + 1))), (0, .ref (ad (kr)))]) hx hb dX3_putOne_20 hl (k := 0) rfl (iinc1 _) (by decide) rfl (fun ls hl => ?_)
        refine lv_goto (tgt := 2) hx hb dX3_putOne_23 (by decide) ?_
        refine ih H locs ls ⟨_, _, hW, hl, fun j hj => by rw [up_n hj]; exact h1 j hj, up_s, fun i hi => ?_⟩
        by_cases q : i = k
        · subst q; rw [pk_uLs]; simp [oneS, hd]
        · rw [pk_uLn q]; exact h3 i (by omega)
  · rintro H locs ls ⟨w2, f, hW, hl, h1, h2, h3⟩
    refine lv_iload_n hx hb dX3_putOne_2 rfl (lv_at hl 0 rfl) ?_
    refine lv_bipush (v := nI 48) hx hb dX3_putOne_3 (by decide) ?_
    refine n_icmp_ge (tgt := 26) hx hb (by omega) (by omega) dX3_putOne_5 (by decide) (fun hc => ?_) (fun hc => ?_)
    · exact ret_v B hr hlk hW ⟨h1, f, h2, h3⟩ dX3_putOne_26
    · omega
set_option maxHeartbeats 4000000 in
set_option maxRecDepth 100000 in
theorem k_raise (l : Launch) (G : zG) (n : Nat) (ad : Nat → Nat) (w : Nat → va_E) (ka kr e9 : Nat) (a : Nat → Nat) (hka : ka < n) (hkr : kr < n) (hne : ka ≠ kr) (he : e9 < 32) (ha : isL G w ka 48 a) (ra : red a) (hr0 : ∃ f, w kr = eL G 48 f) :
    Cv l G yX3_raise cdX3_raise (zr 1) n ad w [.ref (ad ka), .int (nI e9), .ref (ad kr)] (fun w' => (∀ j, j ≠ kr → w' j = w j) ∧ isL G w' kr 48 (powS a e9)) := by
  refine ent_v (cc := cX3_raise) (maxL := 4) (ret := none) (by decide +kernel) rfl (Nat.le_of_ble_eq_true rfl) ?_
  intro p e s m args below meth c A B hr hlk hA H locs ls hW hl
  have hx := B.1
  have hb := B.2.1
  have hl : lv_has ls 4 [(0, .ref (ad (ka))), (1, .int (nI (e9))), (2, .ref (ad (kr)))] := hl
  refine lv_aload_n hx hb dX3_raise_0 rfl (lv_at hl 2 rfl) ?_
  refine call_sv B hA hW (k_putOne l G n ad w kr hkr hr0) mf_X3_putOne hw_36 rfl ⟨⟨rfl, rfl⟩, by decide, by decide⟩ ⟨Nat.zero_le _, Nat.zero_le _⟩ hl.1 rfl (Nat.le_of_ble_eq_true rfl) dX3_raise_1 (fun w2 H locs hp hW => ?_)
  obtain ⟨h1, h2⟩ := hp
  refine lv_iconst (v := nI 4) hx hb dX3_raise_4 (by decide) ?_
  refine lv_istore_n (lv' := [(3, .int (nI (4))), (0, .ref (ad (ka))), (1, .int (nI (e9))), (2, .ref (ad (kr)))]) hx hb dX3_raise_5 rfl hl (by decide) rfl (fun ls hl => ?_)
  refine z_dn (Wg := fun H locs ls => W p l e (zr 1) s m args below meth c H locs 0 0 _ (F0 m 6 ls [])) (I := fun k H locs ls => k ≤ 5 ∧ ∃ w2 : Nat → va_E, Wo G A s.heap n ad w2 H locs ∧ lv_has ls 4 [(3, .int (nI k - 1)), (0, .ref (ad ka)), (1, .int (nI e9)), (2, .ref (ad kr))] ∧ (∀ j, j ≠ kr → w2 j = w j) ∧ isL G w2 kr 48 (powS a (e9 / 2 ^ k))) ?_ ?_ 5 H locs ls ⟨by omega, w2, hW, (by rw [show nI 5 - 1 = nI 4 by decide]; exact hl), h1, (by rw [Nat.div_eq_of_lt he]; exact h2)⟩
  · rintro H locs ls ⟨-, w2, hW, hl, h1, h2⟩
    rw [show e9 / 2 ^ 0 = e9 by simp] at h2
    refine lv_iload_n hx hb dX3_raise_6 rfl (lv_at hl 0 rfl) ?_
    refine lv_if_lt (tgt := 37) hx hb dX3_raise_7 (by decide) (fun hc => ?_) (fun hc => ?_)
    · exact ret_v B hr hlk hW ⟨h1, h2⟩ dX3_raise_37
    · exact absurd (by decide) hc
  · rintro k ih H locs ls ⟨hk, w2, hW, hl, h1, h2⟩
    rw [nI_pred] at hl
    have hbs := bit_step e9 k
    generalize e9 / 2 ^ (k + 1) = q at hbs h2
    refine lv_iload_n hx hb dX3_raise_6 rfl (lv_at hl 0 rfl) ?_
    refine n_if_lt (tgt := 37) hx hb (by omega) dX3_raise_7 (by decide) ?_
    refine lv_aload_n hx hb dX3_raise_10 rfl (lv_at hl 3 rfl) ?_
    refine lv_aload_n hx hb dX3_raise_11 rfl (lv_at hl 3 rfl) ?_
    refine lv_aload_n hx hb dX3_raise_12 rfl (lv_at hl 3 rfl) ?_
    have h2f : ∃ f, w2 kr = eL G 48 f := ⟨_, h2.choose_spec.1⟩
    refine call_sv B hA hW (k_X3_multiply l G n ad w2 kr kr kr (powS a q) (powS a q) hkr hkr hkr h2 h2 h2f (red_pow a q).s (red_pow a q).s) mf_X3_multiply hw_52 rfl ⟨⟨rfl, rfl⟩, by decide, by decide⟩ ⟨Nat.zero_le _, Nat.zero_le _⟩ hl.1 rfl (Nat.le_of_ble_eq_true rfl) dX3_raise_13 (fun w3 H locs hp hW => ?_)
    obtain ⟨h3, h4⟩ := hp
    rw [← powS_add, ← Nat.two_mul] at h4
    refine lv_iload_n hx hb dX3_raise_16 rfl (lv_at hl 2 rfl) ?_
    refine lv_iload_n hx hb dX3_raise_17 rfl (lv_at hl 0 rfl) ?_
    refine lv_ishr hx hb dX3_raise_18 ?_
    refine lv_iconst (v := nI 1) hx hb dX3_raise_19 (by decide) ?_
    refine lv_iand hx hb dX3_raise_20 ?_
    refine topi (y := (nI (e9 / 2 ^ k % 2))) (shr_bit (by omega) (by omega)) ?_
    refine lv_iconst (v := nI 1) hx hb dX3_raise_21 (by decide) ?_
    have hr2 := Nat.mod_lt (e9 / 2 ^ k) (show 0 < 2 by decide)
    refine n_icmp_ne (tgt := 31) hx hb (by omega) (by omega) dX3_raise_22 (by decide) (fun hc => ?_) (fun hc => ?_)
    · have h0 : e9 / 2 ^ k % 2 = 0 := by omega
      refine lv_iinc (v := (nI (k) - 1)) (lv' := [(3, .int (nI (k) - 1)), (0, .ref (ad (ka))), (1, .int (nI (e9))), (2, .ref (ad (kr)))]) hx hb dX3_raise_31 hl (k := 0) rfl (im1 _) (by decide) rfl (fun ls hl => ?_)
      refine lv_goto (tgt := 6) hx hb dX3_raise_34 (by decide) ?_
      exact ih H locs ls ⟨by omega, w3, hW, lv_sub hl [0, 1, 2, 3] rfl, fun j hj => by rw [h3 j hj, h1 j hj], by rw [hbs, h0, Nat.add_zero]; exact h4⟩
    · have h4f : ∃ f, w3 kr = eL G 48 f := ⟨_, h4.choose_spec.1⟩
      have ha3 : isL G w3 ka 48 a := by unfold isL; rw [h3 ka hne, h1 ka hne]; exact ha
      refine lv_aload_n hx hb dX3_raise_25 rfl (lv_at hl 3 rfl) ?_
      refine lv_aload_n hx hb dX3_raise_26 rfl (lv_at hl 1 rfl) ?_
      refine lv_aload_n hx hb dX3_raise_27 rfl (lv_at hl 3 rfl) ?_
      refine call_sv B hA hW (k_X3_multiply l G n ad w3 kr ka kr (powS a (2 * q)) a hkr hka hkr h4 ha3 h4f (red_pow a (2 * q)).s ra.s) mf_X3_multiply hw_52 rfl ⟨⟨rfl, rfl⟩, by decide, by decide⟩ ⟨Nat.zero_le _, Nat.zero_le _⟩ hl.1 rfl (Nat.le_of_ble_eq_true rfl) dX3_raise_28 (fun w4 H locs hp hW => ?_)
      obtain ⟨h5, h6⟩ := hp
      refine lv_iinc (v := (nI (k) - 1)) (lv' := [(3, .int (nI (k) - 1)), (0, .ref (ad (ka))), (1, .int (nI (e9))), (2, .ref (ad (kr)))]) hx hb dX3_raise_31 hl (k := 0) rfl (im1 _) (by decide) rfl (fun ls hl => ?_)
      refine lv_goto (tgt := 6) hx hb dX3_raise_34 (by decide) ?_
      exact ih H locs ls ⟨by omega, w4, hW, lv_sub hl [0, 1, 2, 3] rfl, fun j hj => by rw [h5 j hj, h3 j hj, h1 j hj], by rw [hbs, hc]; exact h6⟩
set_option maxHeartbeats 4000000 in
set_option maxRecDepth 100000 in
theorem k_putSums (l : Launch) (G : zG) (n : Nat) (ad : Nat → Nat) (w : Nat → va_E) (kr c9 e9 : Nat) (hkr : kr < n) (hc9 : c9 < 1000003) (he : e9 < 2 ^ 31) (hr0 : ∃ f, w kr = eL G 48 f) :
    Cv l G yX3_putSums cdX3_putSums (zr 1) n ad w [.long (lN c9), .int (nI e9), .ref (ad kr)] (fun w' => (∀ j, j ≠ kr → w' j = w j) ∧ isL G w' kr 48 (sumsS c9 e9)) := by
  refine ent_v (cc := cX3_putSums) (maxL := 8) (ret := none) (by decide +kernel) rfl (Nat.le_of_ble_eq_true rfl) ?_
  intro p e s m args below meth c A B hr hlk hA H locs ls hW hl
  have hx := B.1
  have hb := B.2.1
  have hl : lv_has ls 8 [(0, .long (lN (c9))), (2, .int (nI (e9))), (3, .ref (ad (kr)))] := hl
  refine lv_aload_n hx hb dX3_putSums_0 rfl (lv_at hl 2 rfl) ?_
  refine call_sv B hA hW (k_putOne l G n ad w kr hkr hr0) mf_X3_putOne hw_36 rfl ⟨⟨rfl, rfl⟩, by decide, by decide⟩ ⟨Nat.zero_le _, Nat.zero_le _⟩ hl.1 rfl (Nat.le_of_ble_eq_true rfl) dX3_putSums_1 (fun w2 H locs hp hW => ?_)
  obtain ⟨h1, f2, h2, h3⟩ := hp
  refine lv_iconst (v := nI 1) hx hb dX3_putSums_4 (by decide) ?_
  refine lv_istore (lv' := [(4, .int (nI (1))), (0, .long (lN (c9))), (2, .int (nI (e9))), (3, .ref (ad (kr)))]) hx hb dX3_putSums_5 hl (by decide) rfl (fun ls hl => ?_)
  refine z_up (Wg := fun H locs ls => W p l e (zr 1) s m args below meth c H locs 0 0 _ (F0 m 7 ls [])) (I := fun d H locs ls => ∃ (w2 : Nat → va_E) (f : Nat → Int64), Wo G A s.heap n ad w2 H locs ∧ lv_has ls 8 [(4, .int (nI d)), (0, .long (lN c9)), (2, .int (nI e9)), (3, .ref (ad kr))] ∧ (∀ j, j ≠ kr → w2 j = w j) ∧ w2 kr = eL G 48 f ∧ f 0 = lN 1 ∧ (∀ i, 0 < i → i < 48 → f i = lN (dvC c9 e9 i (d - 1) % 1000003))) (a := 1) (b := 48) (by omega) ?_ ?_ H locs ls ⟨w2, f2, hW, hl, h1, h2, h3 0 (by omega), fun i q1 q2 => by rw [h3 i q2]; simp [oneS, dvC, show i ≠ 0 by omega]⟩
  · rintro d hd1 hd ih H locs ls ⟨w2, f, hW, hl, h1, h2, h3, h4⟩
    refine lv_iload hx hb dX3_putSums_7 (lv_at hl 0 rfl) ?_
    refine lv_bipush (v := nI 48) hx hb dX3_putSums_9 (by decide) ?_
    refine n_icmp_ge (tgt := 71) hx hb (by omega) (by omega) dX3_putSums_11 (by decide) (fun hc => ?_) (fun hc => ?_)
    · omega
    · refine lv_lload_n hx hb dX3_putSums_14 rfl (lv_at hl 1 rfl) ?_
      refine lv_iload hx hb dX3_putSums_15 (lv_at hl 0 rfl) ?_
      refine n_i2l hx hb (by omega) dX3_putSums_17 ?_
      refine lv_iload_n hx hb dX3_putSums_18 rfl (lv_at hl 2 rfl) ?_
      refine call_sl B hA hW (k_raised l G n ad w2 d e9 (by omega) he) mf_X2_raised hw_39 rfl ⟨⟨rfl, rfl⟩, by decide, by decide⟩ ⟨Nat.zero_le _, Nat.zero_le _⟩ hl.1 rfl (Nat.le_of_ble_eq_true rfl) dX3_putSums_19 (fun r w3 H locs hp hW => ?_)
      obtain ⟨e1, e2⟩ := hp
      rw [e1] at hW
      subst e2
      have hml := mul_lt hc9 (Nat.mod_lt (d ^ e9) (show 0 < 1000003 by decide))
      refine n_lmul hx hb dX3_putSums_22 ?_
      refine n_ldc2 B hw_42 (x := lN 1000003) (by decide) dX3_putSums_23 ?_
      refine n_lrem hx hb (by omega) (by omega) (by omega) dX3_putSums_26 ?_
      obtain ⟨sh, hsh⟩ : ∃ sh, sh = c9 * (d ^ e9 % 1000003) % 1000003 := ⟨_, rfl⟩
      have hshl : sh < 1000003 := by rw [hsh]; exact Nat.mod_lt _ (by decide)
      refine topl (y := (lN (sh))) (by rw [hsh]) ?_
      refine lv_lstore (lv' := [(5, .long (lN (sh))), (4, .int (nI (d))), (0, .long (lN (c9))), (2, .int (nI (e9))), (3, .ref (ad (kr)))]) hx hb dX3_putSums_27 hl (by decide) rfl (fun ls hl => ?_)
      refine lv_iload hx hb dX3_putSums_29 (lv_at hl 1 rfl) ?_
      refine lv_istore (lv' := [(7, .int (nI (d))), (5, .long (lN (sh))), (4, .int (nI (d))), (0, .long (lN (c9))), (2, .int (nI (e9))), (3, .ref (ad (kr)))]) hx hb dX3_putSums_31 hl (by decide) rfl (fun ls hl => ?_)
      refine z_up (Wg := fun H locs ls => W p l e (zr 1) s m args below meth c H locs 0 0 _ (F0 m 33 ls [])) (I := fun j H locs ls => ∃ (w3 : Nat → va_E) (g : Nat → Int64), Wo G A s.heap n ad w3 H locs ∧ lv_has ls 8 [(7, .int (nI (d * j))), (5, .long (lN sh)), (4, .int (nI d)), (0, .long (lN c9)), (2, .int (nI e9)), (3, .ref (ad kr))] ∧ (∀ i, i ≠ kr → w3 i = w i) ∧ w3 kr = eL G 48 g ∧ g 0 = lN 1 ∧ (∀ i, 0 < i → i < 48 → g i = if i < d * j ∧ i % d = 0 then lN ((dvC c9 e9 i (d - 1) + sh) % 1000003) else f i)) (a := 1) (b := 47 / d + 1) (Nat.le_add_left 1 _) ?_ ?_ H locs ls ⟨w2, f, hW, (by rw [Nat.mul_one]; exact hl), h1, h2, h3, fun i q1 q2 => by rw [if_neg]; rintro ⟨q3, q4⟩; rw [Nat.mul_one] at q3; rw [Nat.mod_eq_of_lt q3] at q4; omega⟩
      · rintro j hj1 hj ih2 H locs ls ⟨w3, g, hW, hl, g1, g2, g3, g4⟩
        have hjd : d * j < 48 := by
          have q := Nat.mul_le_mul_left d (show j ≤ 47 / d by omega)
          have q2 := Nat.mul_div_le 47 d
          omega
        have hjp : 0 < d * j := Nat.mul_pos (by omega) (by omega)
        have hgj : g (d * j) = lN (dvC c9 e9 (d * j) (d - 1) % 1000003) := by rw [g4 _ hjp hjd, if_neg (by omega), h4 _ hjp hjd]
        have hdl := Nat.mod_lt (dvC c9 e9 (d * j) (d - 1)) (show 0 < 1000003 by decide)
        refine lv_iload hx hb dX3_putSums_33 (lv_at hl 0 rfl) ?_
        refine lv_bipush (v := nI 48) hx hb dX3_putSums_35 (by decide) ?_
        refine n_icmp_ge (tgt := 65) hx hb (by omega) (by omega) dX3_putSums_37 (by decide) (fun hc => ?_) (fun hc => ?_)
        · omega
        · refine lv_aload_n hx hb dX3_putSums_40 rfl (lv_at hl 5 rfl) ?_
          refine lv_iload hx hb dX3_putSums_41 (lv_at hl 0 rfl) ?_
          refine lv_aload_n hx hb dX3_putSums_43 rfl (lv_at hl 5 rfl) ?_
          refine lv_iload hx hb dX3_putSums_44 (lv_at hl 0 rfl) ?_
          refine z_lald B hW (kr) (by omega) g2 (d * j) (by omega) (by decide) (v := (lN (dvC c9 e9 (d * j) (d - 1) % 1000003))) hgj dX3_putSums_46 ?_
          refine lv_lload hx hb dX3_putSums_47 (lv_at hl 1 rfl) ?_
          refine n_ladd hx hb dX3_putSums_49 ?_
          refine n_ldc2 B hw_42 (x := lN 1000003) (by decide) dX3_putSums_50 ?_
          refine n_lrem hx hb (by omega) (by omega) (by omega) dX3_putSums_53 ?_
          refine z_last B hW (kr) (by omega) g2 (d * j) (by omega) (by decide) dX3_putSums_54 (fun H locs hW => ?_)
          refine lv_iload hx hb dX3_putSums_55 (lv_at hl 0 rfl) ?_
          refine lv_iload hx hb dX3_putSums_57 (lv_at hl 2 rfl) ?_
          refine n_iadd hx hb dX3_putSums_59 ?_
          refine topi (y := (nI (d * (j + 1)))) (by rw [Nat.mul_add, Nat.mul_one]) ?_
          refine lv_istore (lv' := [(7, .int (nI (d * (j + 1)))), (5, .long (lN (sh))), (4, .int (nI (d))), (0, .long (lN (c9))), (2, .int (nI (e9))), (3, .ref (ad (kr)))]) hx hb dX3_putSums_60 hl (by decide) rfl (fun ls hl => ?_)
          refine lv_goto (tgt := 33) hx hb dX3_putSums_62 (by decide) ?_
          refine ih2 H locs ls ⟨_, _, hW, lv_sub hl [0, 1, 2, 3, 4, 5] rfl, fun i hi => by rw [up_n hi]; exact g1 i hi, up_s, by rw [pk_uLn (by omega)]; exact g3, fun i q1 q2 => ?_⟩
          by_cases q : i = d * j
          · subst q
            rw [pk_uLs, if_pos ⟨by rw [Nat.mul_add]; omega, Nat.mul_mod_right d j⟩, Nat.add_mod, Nat.mod_mod, ← Nat.add_mod]
          · rw [pk_uLn q, g4 i q1 q2]
            have hiff : (i < d * (j + 1) ∧ i % d = 0) ↔ (i < d * j ∧ i % d = 0) := by
              constructor
              · rintro ⟨a1, a2⟩
                refine ⟨?_, a2⟩
                have a3 : i = d * (i / d) := by have := Nat.div_add_mod i d; omega
                rw [a3] at a1
                have a4 : i / d < j + 1 := Nat.lt_of_mul_lt_mul_left a1
                have a5 : i / d ≠ j := fun z => q (by rw [a3, z])
                rw [a3]
                exact Nat.mul_lt_mul_of_pos_left (by omega) (by omega)
              · rintro ⟨a1, a2⟩
                exact ⟨by rw [Nat.mul_add]; omega, a2⟩
            by_cases z : i < d * j ∧ i % d = 0
            · rw [if_pos z, if_pos (hiff.mpr z)]
            · rw [if_neg z, if_neg (fun y => z (hiff.mp y))]
      · rintro H locs ls ⟨w3, g, hW, hl, g1, g2, g3, g4⟩
        have hbig : 48 ≤ d * (47 / d + 1) := by
          have := Nat.lt_mul_div_succ 47 (show 0 < d by omega)
          omega
        have hsm : d * (47 / d + 1) < 2 ^ 31 := by
          have q2 := Nat.mul_div_le 47 d
          rw [Nat.mul_add]
          omega
        refine lv_iload hx hb dX3_putSums_33 (lv_at hl 0 rfl) ?_
        refine lv_bipush (v := nI 48) hx hb dX3_putSums_35 (by decide) ?_
        refine n_icmp_ge (tgt := 65) hx hb (by omega) (by omega) dX3_putSums_37 (by decide) (fun hc => ?_) (fun hc => ?_)
        · refine lv_iinc (v := (nI (d + 1))) (lv' := [(4, .int (nI (d + 1))), (7, .int (nI (d * (47 / d + 1)))), (5, .long (lN (sh))), (0, .long (lN (c9))), (2, .int (nI (e9))), (3, .ref (ad (kr)))]) hx hb dX3_putSums_65 hl (k := 2) rfl (iinc1 _) (by decide) rfl (fun ls hl => ?_)
          refine lv_goto (tgt := 7) hx hb dX3_putSums_68 (by decide) ?_
          refine ih H locs ls ⟨w3, g, hW, lv_sub hl [0, 3, 4, 5] rfl, g1, g2, g3, fun i q1 q2 => ?_⟩
          rw [g4 i q1 q2]
          obtain ⟨d2, rfl⟩ : ∃ d2, d = d2 + 1 := ⟨d - 1, by omega⟩
          simp only [Nat.add_sub_cancel]
          have hdv : dvC c9 e9 i (d2 + 1) = dvC c9 e9 i d2 + (if i % (d2 + 1) = 0 then c9 * ((d2 + 1) ^ e9 % 1000003) % 1000003 else 0) := rfl
          rw [hdv]
          by_cases z : i % (d2 + 1) = 0
          · rw [if_pos ⟨by omega, z⟩, if_pos z, hsh]
          · rw [if_neg (fun y => z y.2), h4 i q1 q2, if_neg z, Nat.add_zero]
            rfl
        · omega
  · rintro H locs ls ⟨w2, f, hW, hl, h1, h2, h3, h4⟩
    refine lv_iload hx hb dX3_putSums_7 (lv_at hl 0 rfl) ?_
    refine lv_bipush (v := nI 48) hx hb dX3_putSums_9 (by decide) ?_
    refine n_icmp_ge (tgt := 71) hx hb (by omega) (by omega) dX3_putSums_11 (by decide) (fun hc => ?_) (fun hc => ?_)
    · refine ret_v B hr hlk hW ⟨h1, f, h2, fun i hi => ?_⟩ dX3_putSums_71
      unfold sumsS
      by_cases q : i = 0
      · subst q; rw [if_pos rfl]; exact h3
      · rw [if_neg q, h4 i (by omega) hi, ← dvC_eq, dvC_more c9 e9 (by omega) (48 - 1) (by omega)]
    · omega
set_option maxHeartbeats 4000000 in
set_option maxRecDepth 100000 in
theorem k_leastPlace (l : Launch) (G : zG) (n : Nat) (ad : Nat → Nat) (w : Nat → va_E) (ka : Nat) (a : Nat → Nat) (hka : ka < n) (ha : isL G w ka 48 a) (ra : sM a) :
    Ci l G yX3_leastPlace cdX3_leastPlace (zr 0) n ad w [.ref (ad ka)] (fun r w' => w' = w ∧ lstR a r) := by
  obtain ⟨fa, ea, va⟩ := ha
  refine ent_i (cc := cX3_leastPlace) (maxL := 2) (ret := (some .int)) (by decide +kernel) rfl (Nat.le_of_ble_eq_true rfl) ?_
  intro p e s m args below meth c A B hr hlk hA H locs ls hW hl
  have hx := B.1
  have hb := B.2.1
  have hl : lv_has ls 2 [(0, .ref (ad (ka)))] := hl
  refine lv_iconst (v := nI 0) hx hb dX3_leastPlace_0 (by decide) ?_
  refine lv_istore_n (lv' := [(1, .int (nI (0))), (0, .ref (ad (ka)))]) hx hb dX3_leastPlace_1 rfl hl (by decide) rfl (fun ls hl => ?_)
  refine z_up1 (Wg := fun ls => W p l e (zr 0) s m args below meth c H locs 0 0 _ (F0 m 2 ls [])) (I := fun k ls => lv_has ls 2 [(1, .int (nI k)), (0, .ref (ad ka))] ∧ ∀ i, i < k → a i = 0) (a := 0) (b := 48) (by omega) ?_ ?_ ls ⟨hl, fun i h => by omega⟩
  · rintro k - hk ih ls ⟨hl, h1⟩
    refine lv_iload_n hx hb dX3_leastPlace_2 rfl (lv_at hl 0 rfl) ?_
    refine lv_bipush (v := nI 48) hx hb dX3_leastPlace_3 (by decide) ?_
    refine n_icmp_ge (tgt := 24) hx hb (by omega) (by omega) dX3_leastPlace_5 (by decide) (fun hc => ?_) (fun hc => ?_)
    · omega
    · refine lv_aload_n hx hb dX3_leastPlace_8 rfl (lv_at hl 1 rfl) ?_
      refine lv_iload_n hx hb dX3_leastPlace_9 rfl (lv_at hl 0 rfl) ?_
      refine z_lald B hW (ka) (by omega) ea (k) (by omega) (by decide) (v := (lN (a (k)))) (va _ (by omega)) dX3_leastPlace_10 ?_
      refine lv_lconst (v := lN 0) hx hb dX3_leastPlace_11 (by decide) ?_
      refine lc_eq (tgt := 18) hx hb dX3_leastPlace_12 dX3_leastPlace_13 (by decide) (fun hd => ?_) (fun hd => ?_)
      · have h0 : a k = 0 := (lN_inj (ra k hk) (by decide)).mp hd
        refine lv_iinc (v := (nI (k + 1))) (lv' := [(1, .int (nI (k + 1))), (0, .ref (ad (ka)))]) hx hb dX3_leastPlace_18 hl (k := 0) rfl (iinc1 _) (by decide) rfl (fun ls hl => ?_)
        refine lv_goto (tgt := 2) hx hb dX3_leastPlace_21 (by decide) ?_
        exact ih ls ⟨hl, fun i hi => by
          by_cases q : i = k
          · rw [q]; exact h0
          · exact h1 i (by omega)⟩
      · have h0 : a k ≠ 0 := fun q => hd (by rw [q])
        refine lv_iload_n hx hb dX3_leastPlace_16 rfl (lv_at hl 0 rfl) ?_
        exact ret_i B hr hlk hW ⟨rfl, Or.inr ⟨k, rfl, hk, h0, h1⟩⟩ dX3_leastPlace_17
  · rintro ls ⟨hl, h1⟩
    refine lv_iload_n hx hb dX3_leastPlace_2 rfl (lv_at hl 0 rfl) ?_
    refine lv_bipush (v := nI 48) hx hb dX3_leastPlace_3 (by decide) ?_
    refine n_icmp_ge (tgt := 24) hx hb (by omega) (by omega) dX3_leastPlace_5 (by decide) (fun hc => ?_) (fun hc => ?_)
    · refine lv_iconst (v := -1) hx hb dX3_leastPlace_24 (by decide) ?_
      exact ret_i B hr hlk hW ⟨rfl, Or.inl ⟨rfl, h1⟩⟩ dX3_leastPlace_25
    · omega
set_option maxHeartbeats 4000000 in
set_option maxRecDepth 100000 in
theorem k_firstUnlike (l : Launch) (G : zG) (n : Nat) (ad : Nat → Nat) (w : Nat → va_E) (ka kb : Nat) (a b : Nat → Nat) (hka : ka < n) (hkb : kb < n) (ha : isL G w ka 48 a) (hb0 : isL G w kb 48 b) (ra : sM a) (rb : sM b) :
    Ci l G yX3_firstUnlike cdX3_firstUnlike (zr 0) n ad w [.ref (ad ka), .ref (ad kb)] (fun r w' => w' = w ∧ unlR a b r) := by
  obtain ⟨fa, ea, va⟩ := ha
  obtain ⟨fb, eb, vb⟩ := hb0
  refine ent_i (cc := cX3_firstUnlike) (maxL := 3) (ret := (some .int)) (by decide +kernel) rfl (Nat.le_of_ble_eq_true rfl) ?_
  intro p e s m args below meth c A B hr hlk hA H locs ls hW hl
  have hx := B.1
  have hb := B.2.1
  have hl : lv_has ls 3 [(0, .ref (ad (ka))), (1, .ref (ad (kb)))] := hl
  refine lv_iconst (v := nI 0) hx hb dX3_firstUnlike_0 (by decide) ?_
  refine lv_istore_n (lv' := [(2, .int (nI (0))), (0, .ref (ad (ka))), (1, .ref (ad (kb)))]) hx hb dX3_firstUnlike_1 rfl hl (by decide) rfl (fun ls hl => ?_)
  refine z_up1 (Wg := fun ls => W p l e (zr 0) s m args below meth c H locs 0 0 _ (F0 m 2 ls [])) (I := fun k ls => lv_has ls 3 [(2, .int (nI k)), (0, .ref (ad ka)), (1, .ref (ad kb))] ∧ ∀ i, i < k → a i = b i) (a := 0) (b := 48) (by omega) ?_ ?_ ls ⟨hl, fun i h => by omega⟩
  · rintro k - hk ih ls ⟨hl, h1⟩
    refine lv_iload_n hx hb dX3_firstUnlike_2 rfl (lv_at hl 0 rfl) ?_
    refine lv_bipush (v := nI 48) hx hb dX3_firstUnlike_3 (by decide) ?_
    refine n_icmp_ge (tgt := 26) hx hb (by omega) (by omega) dX3_firstUnlike_5 (by decide) (fun hc => ?_) (fun hc => ?_)
    · omega
    · refine lv_aload_n hx hb dX3_firstUnlike_8 rfl (lv_at hl 1 rfl) ?_
      refine lv_iload_n hx hb dX3_firstUnlike_9 rfl (lv_at hl 0 rfl) ?_
      refine z_lald B hW (ka) (by omega) ea (k) (by omega) (by decide) (v := (lN (a (k)))) (va _ (by omega)) dX3_firstUnlike_10 ?_
      refine lv_aload_n hx hb dX3_firstUnlike_11 rfl (lv_at hl 2 rfl) ?_
      refine lv_iload_n hx hb dX3_firstUnlike_12 rfl (lv_at hl 0 rfl) ?_
      refine z_lald B hW (kb) (by omega) eb (k) (by omega) (by decide) (v := (lN (b (k)))) (vb _ (by omega)) dX3_firstUnlike_13 ?_
      refine lc_eq (tgt := 20) hx hb dX3_firstUnlike_14 dX3_firstUnlike_15 (by decide) (fun hd => ?_) (fun hd => ?_)
      · have h0 : a k = b k := (lN_inj (ra k hk) (rb k hk)).mp hd
        refine lv_iinc (v := (nI (k + 1))) (lv' := [(2, .int (nI (k + 1))), (0, .ref (ad (ka))), (1, .ref (ad (kb)))]) hx hb dX3_firstUnlike_20 hl (k := 0) rfl (iinc1 _) (by decide) rfl (fun ls hl => ?_)
        refine lv_goto (tgt := 2) hx hb dX3_firstUnlike_23 (by decide) ?_
        exact ih ls ⟨hl, fun i hi => by
          by_cases q : i = k
          · rw [q]; exact h0
          · exact h1 i (by omega)⟩
      · have h0 : a k ≠ b k := fun q => hd (by rw [q])
        refine lv_iload_n hx hb dX3_firstUnlike_18 rfl (lv_at hl 0 rfl) ?_
        exact ret_i B hr hlk hW ⟨rfl, Or.inr ⟨k, rfl, hk, h0, h1⟩⟩ dX3_firstUnlike_19
  · rintro ls ⟨hl, h1⟩
    refine lv_iload_n hx hb dX3_firstUnlike_2 rfl (lv_at hl 0 rfl) ?_
    refine lv_bipush (v := nI 48) hx hb dX3_firstUnlike_3 (by decide) ?_
    refine n_icmp_ge (tgt := 26) hx hb (by omega) (by omega) dX3_firstUnlike_5 (by decide) (fun hc => ?_) (fun hc => ?_)
    · refine lv_iconst (v := -1) hx hb dX3_firstUnlike_26 (by decide) ?_
      exact ret_i B hr hlk hW ⟨rfl, Or.inl ⟨rfl, h1⟩⟩ dX3_firstUnlike_27
    · omega
end
section
/-- the bases' cells: the object at place 2, what it holds behind it; nf stands in its field, the rows of the weights below cu are made -/
def BOK (G : zG) (ad : Nat → Nat) (w : Nat → va_E) (nf cu : Nat) : Prop :=
  w 2 = eO 0 [.ref (ad 3), .ref (ad 4), .ref (ad 5), .ref (ad 6), .ref (ad 7), .ref (ad 8), .ref (ad 10), .int (nI nf)] ∧
  isL G w 3 48 e2S ∧ isL G w 4 48 dS ∧ isL G w 5 48 e4S ∧ isL G w 6 48 e6S ∧
  (∃ f : Nat → Int32, w 7 = eI G 21 f ∧ ∀ h, h < 21 → f h = nI (szT.getD h 0)) ∧
  (∃ f : Nat → Int32, w 8 = eI G 21 f ∧ ∀ h, h < 21 → f h = nI (fsT.getD h 0)) ∧
  (∃ f : Nat → Option Nat, w 10 = eR G 44 f ∧ ∀ i, i < 44 → f i = some (ad (11 + i))) ∧
  (∀ i, i < 44 → ∃ f, w (11 + i) = eL G 48 f) ∧ cu % 2 = 0 ∧ cu ≤ 42 ∧
  (∀ k i, k < cu → k % 2 = 0 → i < zs k → isL G w (11 + (fst k + i)) 48 (bas k i))
def fr1 (w w' : Nat → va_E) : Prop := ∀ j, j ≠ 2 → ¬ (11 ≤ j ∧ j < 55) → w' j = w j
theorem fr1.rf {w : Nat → va_E} : fr1 w w := fun _ _ _ => rfl
theorem fr1.tr {w w2 w3 : Nat → va_E} (h : fr1 w w2) (h2 : fr1 w2 w3) : fr1 w w3 := fun j h3 h4 => (h2 j h3 h4).trans (h j h3 h4)
theorem isL_of {G : zG} {w w' : Nat → va_E} {k N : Nat} {a : Nat → Nat} (h : isL G w k N a) (e : w' k = w k) : isL G w' k N a := by
  unfold isL
  rw [e]
  exact h
/-- the bases' cells where nothing but other places changed -/
theorem BOK.keep {G : zG} {ad : Nat → Nat} {w w' : Nat → va_E} {nf cu : Nat} (h : BOK G ad w nf cu) (e : ∀ j, 2 ≤ j → j < 55 → w' j = w j) : BOK G ad w' nf cu := by
  obtain ⟨b2, b3, b4, b5, b6, b7, b8, b10, bR, bc, bl, bB⟩ := h
  refine ⟨by rw [e 2 (by omega) (by omega)]; exact b2, isL_of b3 (e 3 (by omega) (by omega)), isL_of b4 (e 4 (by omega) (by omega)), isL_of b5 (e 5 (by omega) (by omega)), isL_of b6 (e 6 (by omega) (by omega)), by rw [e 7 (by omega) (by omega)]; exact b7, by rw [e 8 (by omega) (by omega)]; exact b8, by rw [e 10 (by omega) (by omega)]; exact b10, fun i hi => by rw [e (11 + i) (by omega) (by omega)]; exact bR i hi, bc, bl, fun k i h1 h2 h3 => ?_⟩
  have := zs_le k (by omega)
  exact isL_of (bB k i h1 h2 h3) (e _ (by omega) (by omega))
/-- ... and one row that is not made yet -/
theorem BOK.row {G : zG} {ad : Nat → Nat} {w w' : Nat → va_E} {nf cu : Nat} (h : BOK G ad w nf cu) (hcu : cu ≤ 40) (r : Nat) (hr : fst cu ≤ r) (hr2 : r < 44) (e : ∀ j, j ≠ 11 + r → w' j = w j) (er : ∃ f, w' (11 + r) = eL G 48 f) : BOK G ad w' nf cu := by
  obtain ⟨b2, b3, b4, b5, b6, b7, b8, b10, bR, bc, bl, bB⟩ := h
  refine ⟨by rw [e 2 (by omega)]; exact b2, isL_of b3 (e 3 (by omega)), isL_of b4 (e 4 (by omega)), isL_of b5 (e 5 (by omega)), isL_of b6 (e 6 (by omega)), by rw [e 7 (by omega)]; exact b7, by rw [e 8 (by omega)]; exact b8, by rw [e 10 (by omega)]; exact b10, fun i hi => ?_, bc, bl, fun k i h1 h2 h3 => ?_⟩
  · by_cases q : i = r
    · subst q; exact er
    · rw [e (11 + i) (by omega)]; exact bR i hi
  · have := fst_mono k (by omega) cu hcu h2 bc h1
    exact isL_of (bB k i h1 h2 h3) (e _ (by omega))
set_option maxHeartbeats 4000000 in
set_option maxRecDepth 100000 in
theorem k_max (l : Launch) (G : zG) (n : Nat) (ad : Nat → Nat) (w : Nat → va_E) (a b : Nat) (ha : a < 2 ^ 31) (hb0 : b < 2 ^ 31) :
    Ci l G yJ9_max_7cf53 cdJ9_max_7cf53 (zr 0) n ad w [.int (nI a), .int (nI b)] (fun r w' => w' = w ∧ r = nI (max a b)) := by
  refine ent_iF (cc := cJ9_max_7cf53) (maxL := 2) (ret := (some .int)) (by decide +kernel) rfl (Nat.le_of_ble_eq_true rfl) ?_
  intro p e s m args below meth c A B hr hlk hA H locs ls hW hl
  have hx := B.1
  have hb := B.2.1
  have hl : lv_has ls 2 [(0, .int (nI (a))), (1, .int (nI (b)))] := hl
  refine lv_iload_n hx hb dJ9_max_7cf53_0 rfl (lv_at hl 0 rfl) ?_
  refine lv_iload_n hx hb dJ9_max_7cf53_1 rfl (lv_at hl 1 rfl) ?_
  refine n_icmp_lt (tgt := 9) hx hb (by omega) (by omega) dJ9_max_7cf53_2 (by decide) (fun hc => ?_) (fun hc => ?_)
  · refine lv_iload_n hx hb dJ9_max_7cf53_9 rfl (lv_at hl 1 rfl) ?_
    exact ret_i B hr hlk hW ⟨rfl, by rw [Nat.max_eq_right (by omega)]⟩ dJ9_max_7cf53_10
  · refine lv_iload_n hx hb dJ9_max_7cf53_5 rfl (lv_at hl 0 rfl) ?_
    refine lv_goto (tgt := 10) hx hb dJ9_max_7cf53_6 (by decide) ?_
    exact ret_i B hr hlk hW ⟨rfl, by rw [Nat.max_eq_left (by omega)]⟩ dJ9_max_7cf53_10
set_option maxHeartbeats 4000000 in
set_option maxRecDepth 100000 in
theorem k_countSize (l : Launch) (G : zG) (n : Nat) (ad : Nat → Nat) (w : Nat → va_E) (k : Nat) (hk : k ≤ 40) (hk2 : k % 2 = 0) :
    Ci l G yX0_countSize cdX0_countSize (zr 0) n ad w [.int (nI k)] (fun r w' => w' = w ∧ r = nI (zs k)) := by
  refine ent_i (cc := cX0_countSize) (maxL := 3) (ret := (some .int)) (by decide +kernel) rfl (Nat.le_of_ble_eq_true rfl) ?_
  intro p e s m args below meth c A B hr hlk hA H locs ls hW hl
  have hx := B.1
  have hb := B.2.1
  have hl : lv_has ls 3 [(0, .int (nI (k)))] := hl
  refine lv_iconst (v := nI 0) hx hb dX0_countSize_0 (by decide) ?_
  refine lv_istore_n (lv' := [(1, .int (nI (0))), (0, .int (nI (k)))]) hx hb dX0_countSize_1 rfl hl (by decide) rfl (fun ls hl => ?_)
  refine lv_iload_n hx hb dX0_countSize_2 rfl (lv_at hl 1 rfl) ?_
  refine lv_istore_n (lv' := [(2, .int (nI (k))), (1, .int (nI (0))), (0, .int (nI (k)))]) hx hb dX0_countSize_3 rfl hl (by decide) rfl (fun ls hl => ?_)
  refine z_up1 (Wg := fun ls => W p l e (zr 0) s m args below meth c H locs 0 0 _ (F0 m 4 ls [])) (I := fun j ls => lv_has ls 3 [(2, .int (iZ ((k : Int) - 12 * (j : Nat)))), (1, .int (nI (cntS k j))), (0, .int (nI k))] ∧ cntS k j ≤ j) (a := 0) (b := k / 12 + 1) (Nat.zero_le _) ?_ ?_ ls ⟨(by rw [show ((k : Int) - 12 * ((0 : Nat) : Int)) = (k : Int) by omega, ← nI_Z]; exact hl), Nat.le_refl 0⟩
  · rintro j - hj ih ls ⟨hl, hcj⟩
    rw [show ((k : Int) - 12 * ((j : Nat) : Int)) = ((k - 12 * j : Nat) : Int) by omega, ← nI_Z] at hl
    refine lv_iload_n hx hb dX0_countSize_4 rfl (lv_at hl 0 rfl) ?_
    refine n_if_lt (tgt := 22) hx hb (by omega) dX0_countSize_5 (by decide) ?_
    refine lv_iload_n hx hb dX0_countSize_8 rfl (lv_at hl 0 rfl) ?_
    refine lv_iconst (v := nI 2) hx hb dX0_countSize_9 (by decide) ?_
    refine n_icmp_eq (tgt := 16) hx hb (by omega) (by omega) dX0_countSize_10 (by decide) (fun hd => ?_) (fun hd => ?_)
    · refine lv_iinc (v := (iZ ((k : Int) - 12 * ((j + 1 : Nat) : Int)))) (lv' := [(2, .int (iZ ((k : Int) - 12 * ((j + 1 : Nat) : Int)))), (1, .int (nI (cntS k j))), (0, .int (nI (k)))]) hx hb dX0_countSize_16 hl (k := 0) rfl (by rw [nI_Z, show ((k - 12 * j : Nat) : Int) = (k : Int) - 12 * (j : Nat) by omega, show ((k : Int) - 12 * ((j + 1 : Nat) : Int)) = ((k : Int) - 12 * (j : Nat)) + (-12) by omega, ← iZ_add]; rfl) (by decide) rfl (fun ls hl => ?_)
      refine lv_goto (tgt := 4) hx hb dX0_countSize_19 (by decide) ?_
      have hcn : cntS k (j + 1) = cntS k j := by show cntS k j + _ = _; rw [if_pos (by omega)]; rfl
      exact ih ls ⟨by rw [hcn]; exact lv_sub hl [0, 1, 2] rfl, by omega⟩
    · refine lv_iinc (v := (nI (cntS k j + 1))) (lv' := [(1, .int (nI (cntS k j + 1))), (2, .int (nI (k - 12 * j))), (0, .int (nI (k)))]) hx hb dX0_countSize_13 hl (k := 1) rfl (iinc1 _) (by decide) rfl (fun ls hl => ?_)
      refine lv_iinc (v := (iZ ((k : Int) - 12 * ((j + 1 : Nat) : Int)))) (lv' := [(2, .int (iZ ((k : Int) - 12 * ((j + 1 : Nat) : Int)))), (1, .int (nI (cntS k j + 1))), (0, .int (nI (k)))]) hx hb dX0_countSize_16 hl (k := 1) rfl (by rw [nI_Z, show ((k - 12 * j : Nat) : Int) = (k : Int) - 12 * (j : Nat) by omega, show ((k : Int) - 12 * ((j + 1 : Nat) : Int)) = ((k : Int) - 12 * (j : Nat)) + (-12) by omega, ← iZ_add]; rfl) (by decide) rfl (fun ls hl => ?_)
      refine lv_goto (tgt := 4) hx hb dX0_countSize_19 (by decide) ?_
      have hcn : cntS k (j + 1) = cntS k j + 1 := by show cntS k j + _ = _; rw [if_neg (by omega)]
      exact ih ls ⟨by rw [hcn]; exact lv_sub hl [0, 1, 2] rfl, by omega⟩
  · rintro ls ⟨hl, hcj⟩
    refine lv_iload_n hx hb dX0_countSize_4 rfl (lv_at hl 0 rfl) ?_
    refine lv_if_lt (tgt := 22) hx hb dX0_countSize_5 (by decide) (fun hc => ?_) (fun hc => ?_)
    · refine lv_iload_n hx hb dX0_countSize_22 rfl (lv_at hl 1 rfl) ?_
      exact ret_i B hr hlk hW ⟨rfl, by rw [cntS_zs k hk hk2]⟩ dX0_countSize_23
    · exact absurd (by
        rw [Int32.lt_iff_toInt_lt, iZ_toInt (by omega) (by omega)]
        show _ < (0 : Int)
        omega) hc
set_option maxHeartbeats 4000000 in
set_option maxRecDepth 100000 in
theorem k_sizeOf (l : Launch) (G : zG) (n : Nat) (ad : Nat → Nat) (w : Nat → va_E) (k nf cu : Nat) (hn : 55 ≤ n) (hk : k ≤ 40) (hB : BOK G ad w nf cu) :
    Ci l G yX0_sizeOf cdX0_sizeOf (zr 0) n ad w [.ref (ad 2), .int (nI k)] (fun r w' => w' = w ∧ r = nI (zs k)) := by
  obtain ⟨b2, b3, b4, b5, b6, ⟨fz, b7, c7⟩, ⟨ff, b8, c8⟩, ⟨fr, b10, c10⟩, bR, bc, bl, bB⟩ := id hB
  refine ent_i (cc := cX0_sizeOf) (maxL := 2) (ret := (some .int)) (by decide +kernel) rfl (Nat.le_of_ble_eq_true rfl) ?_
  intro p e s m args below meth c A B hr hlk hA H locs ls hW hl
  have hx := B.1
  have hb := B.2.1
  have hl : lv_has ls 2 [(0, .ref (ad (2))), (1, .int (nI (k)))] := hl
  refine lv_aload_n hx hb dX0_sizeOf_0 rfl (lv_at hl 0 rfl) ?_
  refine z_get B hW (2) (by omega) b2 rfl inX0 4 (by decide) hw_69 rfl (v := .ref (ad (7))) rfl dX0_sizeOf_1 ?_
  refine lv_iload_n hx hb dX0_sizeOf_4 rfl (lv_at hl 1 rfl) ?_
  refine lv_iconst (v := nI 2) hx hb dX0_sizeOf_5 (by decide) ?_
  refine n_idiv hx hb (by omega) (by omega) (by omega) dX0_sizeOf_6 ?_
  refine z_iald B hW (7) (by omega) b7 (k / 2) (by omega) (by decide) (v := (nI (szT.getD (k / 2) 0))) (c7 _ (by omega)) dX0_sizeOf_7 ?_
  exact ret_i B hr hlk hW ⟨rfl, rfl⟩ dX0_sizeOf_8
set_option maxHeartbeats 4000000 in
set_option maxRecDepth 100000 in
theorem k_makeRows (l : Launch) (G : zG) (n : Nat) (ad : Nat → Nat) (w : Nat → va_E) (k nf : Nat) (hn : 55 ≤ n) (hk : k ≤ 40) (hB : BOK G ad w nf k) :
    Cv l G yX0_makeRows cdX0_makeRows (zr 1) n ad w [.ref (ad 2), .int (nI k)] (fun w' => BOK G ad w' nf (k + 2) ∧ fr1 w w') := by
  have hzl := zs_le k hk
  obtain ⟨b2, b3, b4, b5, b6, ⟨fz, b7, c7⟩, ⟨ff, b8, c8⟩, ⟨fr, b10, c10⟩, bR, bc, bl, bB⟩ := id hB
  refine ent_v (cc := cX0_makeRows) (maxL := 4) (ret := none) (by decide +kernel) rfl (Nat.le_of_ble_eq_true rfl) ?_
  intro p e s m args below meth c A B hr hlk hA H locs ls hW hl
  have hx := B.1
  have hb := B.2.1
  have hl : lv_has ls 4 [(0, .ref (ad (2))), (1, .int (nI (k)))] := hl
  refine lv_aload_n hx hb dX0_makeRows_0 rfl (lv_at hl 0 rfl) ?_
  refine z_get B hW (2) (by omega) b2 rfl inX0 5 (by decide) hw_70 rfl (v := .ref (ad (8))) rfl dX0_makeRows_1 ?_
  refine lv_iload_n hx hb dX0_makeRows_4 rfl (lv_at hl 1 rfl) ?_
  refine lv_iconst (v := nI 2) hx hb dX0_makeRows_5 (by decide) ?_
  refine n_idiv hx hb (by omega) (by omega) (by omega) dX0_makeRows_6 ?_
  refine z_iald B hW (8) (by omega) b8 (k / 2) (by omega) (by decide) (v := (nI (fsT.getD (k / 2) 0))) (c8 _ (by omega)) dX0_makeRows_7 ?_
  refine topi (y := (nI (fst k))) rfl ?_
  refine lv_istore_n (lv' := [(2, .int (nI (fst k))), (0, .ref (ad (2))), (1, .int (nI (k)))]) hx hb dX0_makeRows_8 rfl hl (by decide) rfl (fun ls hl => ?_)
  refine lv_iconst (v := nI 0) hx hb dX0_makeRows_9 (by decide) ?_
  refine lv_istore_n (lv' := [(3, .int (nI (0))), (2, .int (nI (fst k))), (0, .ref (ad (2))), (1, .int (nI (k)))]) hx hb dX0_makeRows_10 rfl hl (by decide) rfl (fun ls hl => ?_)
  refine z_up (Wg := fun H locs ls => W p l e (zr 1) s m args below meth c H locs 0 0 _ (F0 m 11 ls [])) (I := fun i H locs ls => ∃ w2 : Nat → va_E, Wo G A s.heap n ad w2 H locs ∧ lv_has ls 4 [(3, .int (nI i)), (2, .int (nI (fst k))), (0, .ref (ad 2)), (1, .int (nI k))] ∧ BOK G ad w2 nf k ∧ fr1 w w2 ∧ ∀ i', i' < i → isL G w2 (11 + (fst k + i')) 48 (bas k i')) (a := 0) (b := zs k) (Nat.zero_le _) ?_ ?_ H locs ls ⟨w, hW, hl, hB, fr1.rf, fun i' h => by omega⟩
  · rintro i - hi ih H locs ls ⟨w2, hW, hl, hB2, hfr, hdone⟩
    clear b2 b3 b4 b5 b6 b7 c7 b8 c8 b10 c10 bR bB
    obtain ⟨b2, b3, b4, b5, b6, ⟨fz, b7, c7⟩, ⟨ff, b8, c8⟩, ⟨fr, b10, c10⟩, bR, bc, bl, bB⟩ := id hB2
    refine lv_iload_n hx hb dX0_makeRows_11 rfl (lv_at hl 0 rfl) ?_
    refine lv_aload_n hx hb dX0_makeRows_12 rfl (lv_at hl 2 rfl) ?_
    refine lv_iload_n hx hb dX0_makeRows_13 rfl (lv_at hl 3 rfl) ?_
    refine call_vi B hA hW (2) (by omega) b2 (r := _) rfl rfl (k_sizeOf l G n ad w2 k nf k hn hk hB2) mf_X0_sizeOf hw_224 rfl ⟨⟨rfl, rfl⟩, by decide, by decide⟩ ⟨Nat.zero_le _, Nat.zero_le _⟩ hl.1 rfl (Nat.le_of_ble_eq_true rfl) dX0_makeRows_14 (fun r w3 H locs hp hW => ?_)
    obtain ⟨e1, e2⟩ := hp
    rw [e1] at hW
    subst e2
    obtain ⟨gr, egr⟩ := bR (fst k + i) (by omega)
    refine n_icmp_ge (tgt := 138) hx hb (by omega) (by omega) dX0_makeRows_17 (by decide) (fun hc => ?_) (fun hc => ?_)
    · omega
    · refine lv_iload_n hx hb dX0_makeRows_20 rfl (lv_at hl 0 rfl) ?_
      refine n_if_le (tgt := 62) hx hb (by omega) dX0_makeRows_21 (by decide) (fun hd => ?_) (fun hd => ?_)
      · have egr0 : w2 (11 + (fst k)) = eL G 48 gr := by have q := egr; rw [hd] at q; exact q
        refine lv_iload_n hx hb dX0_makeRows_62 rfl (lv_at hl 3 rfl) ?_
        refine n_if_ne (tgt := 78) hx hb (by omega) dX0_makeRows_63 (by decide) (fun he => ?_) (fun he => ?_)
        · refine lv_iload_n hx hb dX0_makeRows_78 rfl (lv_at hl 3 rfl) ?_
          refine lv_bipush (v := nI 6) hx hb dX0_makeRows_79 (by decide) ?_
          refine n_icmp_ne (tgt := 104) hx hb (by omega) (by omega) dX0_makeRows_81 (by decide) (fun hf => ?_) (fun hf => ?_)
          · have h4 : 4 ≤ k ∧ 0 < zs (k - 4) := by rcases zs_4 k hk bc (by omega) with q | q | q <;> first | omega | exact q
            have hb4 := bB (k - 4) 0 (by omega) (by omega) h4.2
            have hz4 := zs_le (k - 4) (by omega)
            refine lv_aload_n hx hb dX0_makeRows_104 rfl (lv_at hl 2 rfl) ?_
            refine z_get B hW (2) (by omega) b2 rfl inX0 2 (by decide) hw_67 rfl (v := .ref (ad (5))) rfl dX0_makeRows_105 ?_
            refine lv_aload_n hx hb dX0_makeRows_108 rfl (lv_at hl 2 rfl) ?_
            refine z_get B hW (2) (by omega) b2 rfl inX0 6 (by decide) hw_71 rfl (v := .ref (ad (10))) rfl dX0_makeRows_109 ?_
            refine lv_aload_n hx hb dX0_makeRows_112 rfl (lv_at hl 2 rfl) ?_
            refine z_get B hW (2) (by omega) b2 rfl inX0 5 (by decide) hw_70 rfl (v := .ref (ad (8))) rfl dX0_makeRows_113 ?_
            refine lv_iload_n hx hb dX0_makeRows_116 rfl (lv_at hl 3 rfl) ?_
            refine lv_iconst (v := nI 4) hx hb dX0_makeRows_117 (by decide) ?_
            refine n_isub hx hb (by omega) dX0_makeRows_118 ?_
            refine lv_iconst (v := nI 2) hx hb dX0_makeRows_119 (by decide) ?_
            refine n_idiv hx hb (by omega) (by omega) (by omega) dX0_makeRows_120 ?_
            refine z_iald B hW (8) (by omega) b8 ((k - 4) / 2) (by omega) (by decide) (v := (nI (fsT.getD ((k - 4) / 2) 0))) (c8 _ (by omega)) dX0_makeRows_121 ?_
            refine topi (y := (nI (fst (k - 4)))) rfl ?_
            refine z_rald B hW (10) (by omega) b10 (fst (k - 4)) (by omega) (by decide) (q := ad (11 + (fst (k - 4)))) (c10 _ (by omega)) dX0_makeRows_122 ?_
            refine lv_aload_n hx hb dX0_makeRows_123 rfl (lv_at hl 2 rfl) ?_
            refine z_get B hW (2) (by omega) b2 rfl inX0 6 (by decide) hw_71 rfl (v := .ref (ad (10))) rfl dX0_makeRows_124 ?_
            refine lv_iload_n hx hb dX0_makeRows_127 rfl (lv_at hl 1 rfl) ?_
            refine z_rald B hW (10) (by omega) b10 (fst k) (by omega) (by decide) (q := ad (11 + (fst k))) (c10 _ (by omega)) dX0_makeRows_128 ?_
            refine call_sv B hA hW (k_X3_multiply l G n ad w2 5 (11 + (fst (k - 4))) (11 + (fst k)) e4S (bas (k - 4) 0) (by omega) (by omega) (by omega) b5 hb4 ⟨gr, egr0⟩ (red_sums _ _).s (bas_red _ _).s) mf_X3_multiply hw_236 rfl ⟨⟨rfl, rfl⟩, by decide, by decide⟩ ⟨Nat.zero_le _, Nat.zero_le _⟩ hl.1 rfl (Nat.le_of_ble_eq_true rfl) dX0_makeRows_129 (fun w4 H locs hp hW => ?_)
            rw [show fst k = fst k + i by omega] at hp
            obtain ⟨g1, g2⟩ := hp
            refine lv_iinc (v := (nI (i + 1))) (lv' := [(3, .int (nI (i + 1))), (2, .int (nI (fst k))), (0, .ref (ad (2))), (1, .int (nI (k)))]) hx hb dX0_makeRows_132 hl (k := 0) rfl (iinc1 _) (by decide) rfl (fun ls hl => ?_)
            refine lv_goto (tgt := 11) hx hb dX0_makeRows_135 (by decide) ?_
            refine ih H locs ls ⟨w4, hW, lv_sub hl [0, 1, 2, 3] rfl, hB2.row hk (fst k + i) (by omega) (by omega) g1 ⟨_, g2.choose_spec.1⟩, hfr.tr (fun j q1 q2 => g1 j (by omega)), fun i' hi' => ?_⟩
            by_cases q : i' = i
            · rw [q]
              rw [hd, bas_4 h4.1 bc hf]; rw [hd] at g2; exact g2
            · exact isL_of (hdone i' (by omega)) (g1 _ (by omega))
          · obtain ⟨f6, e6, v6⟩ := b6
            refine lv_aload_n hx hb dX0_makeRows_84 rfl (lv_at hl 2 rfl) ?_
            refine z_get B hW (2) (by omega) b2 rfl inX0 3 (by decide) hw_68 rfl (v := .ref (ad (6))) rfl dX0_makeRows_85 ?_
            refine lv_iconst (v := nI 0) hx hb dX0_makeRows_88 (by decide) ?_
            refine lv_aload_n hx hb dX0_makeRows_89 rfl (lv_at hl 2 rfl) ?_
            refine z_get B hW (2) (by omega) b2 rfl inX0 6 (by decide) hw_71 rfl (v := .ref (ad (10))) rfl dX0_makeRows_90 ?_
            refine lv_iload_n hx hb dX0_makeRows_93 rfl (lv_at hl 1 rfl) ?_
            refine z_rald B hW (10) (by omega) b10 (fst k) (by omega) (by decide) (q := ad (11 + (fst k))) (c10 _ (by omega)) dX0_makeRows_94 ?_
            refine lv_iconst (v := nI 0) hx hb dX0_makeRows_95 (by decide) ?_
            refine lv_bipush (v := nI 48) hx hb dX0_makeRows_96 (by decide) ?_
            refine z_copyl B hW hl.1 hw_238 hw_57 hw_56 hw_6 6 (11 + (fst k)) (by omega) (by omega) e6 egr0 0 0 48 (by omega) (by omega) (by decide) (by decide) (by decide) (by decide) dX0_makeRows_98 (fun H locs hW => ?_)
            have hp : (∀ j, j ≠ 11 + (fst k + i) → va_up w2 (11 + fst k) (eL G 48 (va_cpy f6 gr 0 0 48)) j = w2 j) ∧ isL G (va_up w2 (11 + fst k) (eL G 48 (va_cpy f6 gr 0 0 48))) (11 + (fst k + i)) 48 e6S := ⟨fun j hj => up_n (by omega), _, (by rw [hd]; exact up_s), fun q hq => by rw [pk_cpy_in (by omega) (by omega)]; rw [← v6 q hq]; congr 1; omega⟩
            generalize va_up w2 (11 + fst k) (eL G 48 (va_cpy f6 gr 0 0 48)) = w4 at hp hW
            obtain ⟨g1, g2⟩ := hp
            refine lv_goto (tgt := 132) hx hb dX0_makeRows_101 (by decide) ?_
            refine lv_iinc (v := (nI (i + 1))) (lv' := [(3, .int (nI (i + 1))), (2, .int (nI (fst k))), (0, .ref (ad (2))), (1, .int (nI (k)))]) hx hb dX0_makeRows_132 hl (k := 0) rfl (iinc1 _) (by decide) rfl (fun ls hl => ?_)
            refine lv_goto (tgt := 11) hx hb dX0_makeRows_135 (by decide) ?_
            refine ih H locs ls ⟨w4, hW, lv_sub hl [0, 1, 2, 3] rfl, hB2.row hk (fst k + i) (by omega) (by omega) g1 ⟨_, g2.choose_spec.1⟩, hfr.tr (fun j q1 q2 => g1 j (by omega)), fun i' hi' => ?_⟩
            by_cases q : i' = i
            · rw [q]
              rw [hd, hf, bas_60]; rw [hd, hf] at g2; exact g2
            · exact isL_of (hdone i' (by omega)) (g1 _ (by omega))
        · refine lv_aload_n hx hb dX0_makeRows_66 rfl (lv_at hl 2 rfl) ?_
          refine z_get B hW (2) (by omega) b2 rfl inX0 6 (by decide) hw_71 rfl (v := .ref (ad (10))) rfl dX0_makeRows_67 ?_
          refine lv_iload_n hx hb dX0_makeRows_70 rfl (lv_at hl 1 rfl) ?_
          refine z_rald B hW (10) (by omega) b10 (fst k) (by omega) (by decide) (q := ad (11 + (fst k))) (c10 _ (by omega)) dX0_makeRows_71 ?_
          refine call_sv B hA hW (k_putOne l G n ad w2 (11 + (fst k)) (by omega) ⟨gr, egr0⟩) mf_X3_putOne hw_237 rfl ⟨⟨rfl, rfl⟩, by decide, by decide⟩ ⟨Nat.zero_le _, Nat.zero_le _⟩ hl.1 rfl (Nat.le_of_ble_eq_true rfl) dX0_makeRows_72 (fun w4 H locs hp hW => ?_)
          rw [show fst k = fst k + i by omega] at hp
          obtain ⟨g1, g2⟩ := hp
          refine lv_goto (tgt := 132) hx hb dX0_makeRows_75 (by decide) ?_
          refine lv_iinc (v := (nI (i + 1))) (lv' := [(3, .int (nI (i + 1))), (2, .int (nI (fst k))), (0, .ref (ad (2))), (1, .int (nI (k)))]) hx hb dX0_makeRows_132 hl (k := 0) rfl (iinc1 _) (by decide) rfl (fun ls hl => ?_)
          refine lv_goto (tgt := 11) hx hb dX0_makeRows_135 (by decide) ?_
          refine ih H locs ls ⟨w4, hW, lv_sub hl [0, 1, 2, 3] rfl, hB2.row hk (fst k + i) (by omega) (by omega) g1 ⟨_, g2.choose_spec.1⟩, hfr.tr (fun j q1 q2 => g1 j (by omega)), fun i' hi' => ?_⟩
          by_cases q : i' = i
          · rw [q]
            rw [hd, he, bas_00]; rw [hd, he] at g2; exact g2
          · exact isL_of (hdone i' (by omega)) (g1 _ (by omega))
      · have h12 := zs_12 k hk bc (by omega)
        have hz12 := zs_le (k - 12) (by omega)
        have hi12 := zs_i12 k hk bc i hi
        obtain ⟨i2, hi2⟩ : ∃ i2, i = i2 + 1 := ⟨i - 1, by omega⟩
        have hb12 := bB (k - 12) i2 (by omega) (by omega) (by omega)
        refine lv_aload_n hx hb dX0_makeRows_24 rfl (lv_at hl 2 rfl) ?_
        refine z_get B hW (2) (by omega) b2 rfl inX0 1 (by decide) hw_65 rfl (v := .ref (ad (4))) rfl dX0_makeRows_25 ?_
        refine lv_aload_n hx hb dX0_makeRows_28 rfl (lv_at hl 2 rfl) ?_
        refine z_get B hW (2) (by omega) b2 rfl inX0 6 (by decide) hw_71 rfl (v := .ref (ad (10))) rfl dX0_makeRows_29 ?_
        refine lv_aload_n hx hb dX0_makeRows_32 rfl (lv_at hl 2 rfl) ?_
        refine z_get B hW (2) (by omega) b2 rfl inX0 5 (by decide) hw_70 rfl (v := .ref (ad (8))) rfl dX0_makeRows_33 ?_
        refine lv_iload_n hx hb dX0_makeRows_36 rfl (lv_at hl 3 rfl) ?_
        refine lv_bipush (v := nI 12) hx hb dX0_makeRows_37 (by decide) ?_
        refine n_isub hx hb (by omega) dX0_makeRows_39 ?_
        refine lv_iconst (v := nI 2) hx hb dX0_makeRows_40 (by decide) ?_
        refine n_idiv hx hb (by omega) (by omega) (by omega) dX0_makeRows_41 ?_
        refine z_iald B hW (8) (by omega) b8 ((k - 12) / 2) (by omega) (by decide) (v := (nI (fsT.getD ((k - 12) / 2) 0))) (c8 _ (by omega)) dX0_makeRows_42 ?_
        refine topi (y := (nI (fst (k - 12)))) rfl ?_
        refine lv_iload_n hx hb dX0_makeRows_43 rfl (lv_at hl 0 rfl) ?_
        refine n_iadd hx hb dX0_makeRows_44 ?_
        refine lv_iconst (v := nI 1) hx hb dX0_makeRows_45 (by decide) ?_
        refine n_isub hx hb (by omega) dX0_makeRows_46 ?_
        refine topi (y := (nI (fst (k - 12) + i2))) (by congr 1; omega) ?_
        refine z_rald B hW (10) (by omega) b10 (fst (k - 12) + i2) (by omega) (by decide) (q := ad (11 + (fst (k - 12) + i2))) (c10 _ (by omega)) dX0_makeRows_47 ?_
        refine lv_aload_n hx hb dX0_makeRows_48 rfl (lv_at hl 2 rfl) ?_
        refine z_get B hW (2) (by omega) b2 rfl inX0 6 (by decide) hw_71 rfl (v := .ref (ad (10))) rfl dX0_makeRows_49 ?_
        refine lv_iload_n hx hb dX0_makeRows_52 rfl (lv_at hl 1 rfl) ?_
        refine lv_iload_n hx hb dX0_makeRows_53 rfl (lv_at hl 0 rfl) ?_
        refine n_iadd hx hb dX0_makeRows_54 ?_
        refine z_rald B hW (10) (by omega) b10 ((fst k) + i) (by omega) (by decide) (q := ad (11 + ((fst k) + i))) (c10 _ (by omega)) dX0_makeRows_55 ?_
        refine call_sv B hA hW (k_X3_multiply l G n ad w2 4 (11 + (fst (k - 12) + i2)) (11 + (fst k + i)) dS (bas (k - 12) i2) (by omega) (by omega) (by omega) b4 hb12 ⟨gr, egr⟩ (red_mul _ _).s (bas_red _ _).s) mf_X3_multiply hw_236 rfl ⟨⟨rfl, rfl⟩, by decide, by decide⟩ ⟨Nat.zero_le _, Nat.zero_le _⟩ hl.1 rfl (Nat.le_of_ble_eq_true rfl) dX0_makeRows_56 (fun w4 H locs hp hW => ?_)
        obtain ⟨g1, g2⟩ := hp
        refine lv_goto (tgt := 132) hx hb dX0_makeRows_59 (by decide) ?_
        refine lv_iinc (v := (nI (i + 1))) (lv' := [(3, .int (nI (i + 1))), (2, .int (nI (fst k))), (0, .ref (ad (2))), (1, .int (nI (k)))]) hx hb dX0_makeRows_132 hl (k := 0) rfl (iinc1 _) (by decide) rfl (fun ls hl => ?_)
        refine lv_goto (tgt := 11) hx hb dX0_makeRows_135 (by decide) ?_
        refine ih H locs ls ⟨w4, hW, lv_sub hl [0, 1, 2, 3] rfl, hB2.row hk (fst k + i) (by omega) (by omega) g1 ⟨_, g2.choose_spec.1⟩, hfr.tr (fun j q1 q2 => g1 j (by omega)), fun i' hi' => ?_⟩
        by_cases q : i' = i
        · rw [q]
          rw [hi2] at hi12 g2 ⊢; rw [bas_up hi12.1]; exact g2
        · exact isL_of (hdone i' (by omega)) (g1 _ (by omega))
  · rintro H locs ls ⟨w2, hW, hl, hB2, hfr, hdone⟩
    clear b2 b3 b4 b5 b6 b7 c7 b8 c8 b10 c10 bR bB
    obtain ⟨b2, b3, b4, b5, b6, ⟨fz, b7, c7⟩, ⟨ff, b8, c8⟩, ⟨fr, b10, c10⟩, bR, bc, bl, bB⟩ := id hB2
    refine lv_iload_n hx hb dX0_makeRows_11 rfl (lv_at hl 0 rfl) ?_
    refine lv_aload_n hx hb dX0_makeRows_12 rfl (lv_at hl 2 rfl) ?_
    refine lv_iload_n hx hb dX0_makeRows_13 rfl (lv_at hl 3 rfl) ?_
    refine call_vi B hA hW (2) (by omega) b2 (r := _) rfl rfl (k_sizeOf l G n ad w2 k nf k hn hk hB2) mf_X0_sizeOf hw_224 rfl ⟨⟨rfl, rfl⟩, by decide, by decide⟩ ⟨Nat.zero_le _, Nat.zero_le _⟩ hl.1 rfl (Nat.le_of_ble_eq_true rfl) dX0_makeRows_14 (fun r w3 H locs hp hW => ?_)
    obtain ⟨e1, e2⟩ := hp
    rw [e1] at hW
    subst e2
    refine n_icmp_ge (tgt := 138) hx hb (by omega) (by omega) dX0_makeRows_17 (by decide) (fun hc => ?_) (fun hc => ?_)
    · refine ret_v B hr hlk hW ⟨⟨b2, b3, b4, b5, b6, ⟨fz, b7, c7⟩, ⟨ff, b8, c8⟩, ⟨fr, b10, c10⟩, bR, by omega, by omega, fun k' i h1 h2 h3 => ?_⟩, hfr⟩ dX0_makeRows_138
      by_cases q : k' < k
      · exact bB k' i q h2 h3
      · have : k' = k := by omega
        subst this
        exact hdone i h3
    · omega
end
section
set_option maxHeartbeats 4000000 in
set_option maxRecDepth 100000 in
theorem k_rowOf (l : Launch) (G : zG) (n : Nat) (ad : Nat → Nat) (w : Nat → va_E) (k i nf : Nat) (hn : 55 ≤ n) (hk : k ≤ 40) (hk2 : k % 2 = 0) (hi : i < zs k) (hB : BOK G ad w nf nf) :
    Cr l G yX0_rowOf cdX0_rowOf (zr 2) n ad w [.ref (ad 2), .int (nI k), .int (nI i)] (fun q w' => q = ad (11 + (fst k + i)) ∧ BOK G ad w' (max nf (k + 2)) (max nf (k + 2)) ∧ fr1 w w' ∧ isL G w' (11 + (fst k + i)) 48 (bas k i)) := by
  have hzl := zs_le k hk
  obtain ⟨b2, b3, b4, b5, b6, ⟨fz, b7, c7⟩, ⟨ff, b8, c8⟩, ⟨fr, b10, c10⟩, bR, bc, bl, bB⟩ := id hB
  refine ent_r (cc := cX0_rowOf) (maxL := 4) (ret := (some (.array .long))) (by decide +kernel) rfl (Nat.le_of_ble_eq_true rfl) ?_
  intro p e s m args below meth c A B hr hlk hA H locs ls hW hl
  have hx := B.1
  have hb := B.2.1
  have hl : lv_has ls 4 [(0, .ref (ad (2))), (1, .int (nI (k))), (2, .int (nI (i)))] := hl
  refine lv_aload_n hx hb dX0_rowOf_0 rfl (lv_at hl 0 rfl) ?_
  refine z_get B hW (2) (by omega) b2 rfl inX0 7 (by decide) hw_72 rfl (v := .int (nI (nf))) rfl dX0_rowOf_1 ?_
  refine lv_istore_n (lv' := [(3, .int (nI (nf))), (0, .ref (ad (2))), (1, .int (nI (k))), (2, .int (nI (i)))]) hx hb dX0_rowOf_4 rfl hl (by decide) rfl (fun ls hl => ?_)
  refine z_up (Wg := fun H locs ls => W p l e (zr 2) s m args below meth c H locs 0 0 _ (F0 m 5 ls [])) (I := fun j H locs ls => ∃ w2 : Nat → va_E, Wo G A s.heap n ad w2 H locs ∧ lv_has ls 4 [(3, .int (nI (nf + 2 * j))), (0, .ref (ad 2)), (1, .int (nI k)), (2, .int (nI i))] ∧ BOK G ad w2 nf (nf + 2 * j) ∧ fr1 w w2) (a := 0) (b := (k + 2 - nf) / 2) (Nat.zero_le _) ?_ ?_ H locs ls ⟨w, hW, hl, hB, fr1.rf⟩
  · rintro j - hj ih H locs ls ⟨w2, hW, hl, hB2, hfr⟩
    clear b2 b3 b4 b5 b6 b7 c7 b8 c8 b10 c10 bR bB
    obtain ⟨b2, b3, b4, b5, b6, ⟨fz, b7, c7⟩, ⟨ff, b8, c8⟩, ⟨fr, b10, c10⟩, bR, bc, bl, bB⟩ := id hB2
    refine lv_iload_n hx hb dX0_rowOf_5 rfl (lv_at hl 0 rfl) ?_
    refine lv_iload_n hx hb dX0_rowOf_6 rfl (lv_at hl 2 rfl) ?_
    refine n_icmp_gt (tgt := 21) hx hb (by omega) (by omega) dX0_rowOf_7 (by decide) (fun hc => ?_) (fun hc => ?_)
    · omega
    · refine lv_aload_n hx hb dX0_rowOf_10 rfl (lv_at hl 1 rfl) ?_
      refine lv_iload_n hx hb dX0_rowOf_11 rfl (lv_at hl 0 rfl) ?_
      refine call_vv B hA hW (2) (by omega) b2 (r := _) rfl rfl (k_makeRows l G n ad w2 (nf + 2 * j) nf hn (by omega) hB2) mf_X0_makeRows hw_232 rfl ⟨⟨rfl, rfl⟩, by decide, by decide⟩ ⟨Nat.zero_le _, Nat.zero_le _⟩ hl.1 rfl (Nat.le_of_ble_eq_true rfl) dX0_rowOf_12 (fun w3 H locs hp hW => ?_)
      refine lv_iinc (v := (nI (nf + 2 * j + 2))) (lv' := [(3, .int (nI (nf + 2 * j + 2))), (0, .ref (ad (2))), (1, .int (nI (k))), (2, .int (nI (i)))]) hx hb dX0_rowOf_15 hl (k := 0) rfl (iincN 2 _) (by decide) rfl (fun ls hl => ?_)
      refine lv_goto (tgt := 5) hx hb dX0_rowOf_18 (by decide) ?_
      exact ih H locs ls ⟨w3, hW, hl, hp.1, hfr.tr hp.2⟩
  · rintro H locs ls ⟨w2, hW, hl, hB2, hfr⟩
    clear b2 b3 b4 b5 b6 b7 c7 b8 c8 b10 c10 bR bB
    have hmx : nf + 2 * ((k + 2 - nf) / 2) = max nf (k + 2) := by omega
    rw [hmx] at hB2 hl
    obtain ⟨b2, b3, b4, b5, b6, ⟨fz, b7, c7⟩, ⟨ff, b8, c8⟩, ⟨fr, b10, c10⟩, bR, bc, bl, bB⟩ := id hB2
    refine lv_iload_n hx hb dX0_rowOf_5 rfl (lv_at hl 0 rfl) ?_
    refine lv_iload_n hx hb dX0_rowOf_6 rfl (lv_at hl 2 rfl) ?_
    refine n_icmp_gt (tgt := 21) hx hb (by omega) (by omega) dX0_rowOf_7 (by decide) (fun hc => ?_) (fun hc => ?_)
    · refine lv_aload_n hx hb dX0_rowOf_21 rfl (lv_at hl 1 rfl) ?_
      refine lv_aload_n hx hb dX0_rowOf_22 rfl (lv_at hl 1 rfl) ?_
      refine z_get B hW (2) (by omega) b2 rfl inX0 7 (by decide) hw_72 rfl (v := .int (nI (nf))) rfl dX0_rowOf_23 ?_
      refine lv_iload_n hx hb dX0_rowOf_26 rfl (lv_at hl 2 rfl) ?_
      refine lv_iconst (v := nI 2) hx hb dX0_rowOf_27 (by decide) ?_
      refine n_iadd hx hb dX0_rowOf_28 ?_
      refine call_si B hA hW (k_max l G n ad w2 nf (k + 2) (by omega) (by omega)) mf_J9_max_7cf53 hw_239 rfl ⟨⟨rfl, rfl⟩, by decide, by decide⟩ ⟨Nat.zero_le _, Nat.zero_le _⟩ hl.1 rfl (Nat.le_of_ble_eq_true rfl) dX0_rowOf_29 (fun r w3 H locs hp hW => ?_)
      obtain ⟨e1, e2⟩ := hp
      rw [e1] at hW
      subst e2
      refine z_put B hW (2) (by omega) b2 rfl inX0 tyX0 tyX0_ok nmX0 7 (by decide) hw_72 rfl rfl (v := .int (nI (max nf (k + 2)))) rfl rfl (Nat.le_of_ble_eq_true rfl) dX0_rowOf_32 (fun H locs hW => ?_)
      have hB3 : BOK G ad (va_up w2 2 (eO 0 [.ref (ad 3), .ref (ad 4), .ref (ad 5), .ref (ad 6), .ref (ad 7), .ref (ad 8), .ref (ad 10), .int (nI (max nf (k + 2)))])) (max nf (k + 2)) (max nf (k + 2)) := ⟨up_s, isL_of b3 (up_n (by decide)), isL_of b4 (up_n (by decide)), isL_of b5 (up_n (by decide)), isL_of b6 (up_n (by decide)), ⟨fz, (up_n (by decide)).trans b7, c7⟩, ⟨ff, (up_n (by decide)).trans b8, c8⟩, ⟨fr, (up_n (by decide)).trans b10, c10⟩, fun j hj => by rw [up_n (by omega)]; exact bR j hj, bc, bl, fun k i h1 h2 h3 => isL_of (bB k i h1 h2 h3) (up_n (by omega))⟩
      have hfr3 : fr1 w (va_up w2 2 (eO 0 [.ref (ad 3), .ref (ad 4), .ref (ad 5), .ref (ad 6), .ref (ad 7), .ref (ad 8), .ref (ad 10), .int (nI (max nf (k + 2)))])) := hfr.tr (fun j h1 h2 => up_n h1)
      have hW3 : Wo G A s.heap n ad (va_up w2 2 (eO 0 [.ref (ad 3), .ref (ad 4), .ref (ad 5), .ref (ad 6), .ref (ad 7), .ref (ad 8), .ref (ad 10), .int (nI (max nf (k + 2)))])) H locs := hW
      clear hW
      generalize va_up w2 2 (eO 0 [.ref (ad 3), .ref (ad 4), .ref (ad 5), .ref (ad 6), .ref (ad 7), .ref (ad 8), .ref (ad 10), .int (nI (max nf (k + 2)))]) = w4 at hB3 hfr3 hW3
      clear b2 b3 b4 b5 b6 b7 c7 b8 c8 b10 c10 bR bB
      have hW := hW3
      obtain ⟨b2, b3, b4, b5, b6, ⟨fz, b7, c7⟩, ⟨ff, b8, c8⟩, ⟨fr, b10, c10⟩, bR, bc, bl, bB⟩ := id hB3
      refine lv_aload_n hx hb dX0_rowOf_35 rfl (lv_at hl 1 rfl) ?_
      refine z_get B hW (2) (by omega) b2 rfl inX0 6 (by decide) hw_71 rfl (v := .ref (ad (10))) rfl dX0_rowOf_36 ?_
      refine lv_aload_n hx hb dX0_rowOf_39 rfl (lv_at hl 1 rfl) ?_
      refine z_get B hW (2) (by omega) b2 rfl inX0 5 (by decide) hw_70 rfl (v := .ref (ad (8))) rfl dX0_rowOf_40 ?_
      refine lv_iload_n hx hb dX0_rowOf_43 rfl (lv_at hl 2 rfl) ?_
      refine lv_iconst (v := nI 2) hx hb dX0_rowOf_44 (by decide) ?_
      refine n_idiv hx hb (by omega) (by omega) (by omega) dX0_rowOf_45 ?_
      refine z_iald B hW (8) (by omega) b8 (k / 2) (by omega) (by decide) (v := (nI (fsT.getD (k / 2) 0))) (c8 _ (by omega)) dX0_rowOf_46 ?_
      refine topi (y := (nI (fst k))) rfl ?_
      refine lv_iload_n hx hb dX0_rowOf_47 rfl (lv_at hl 3 rfl) ?_
      refine n_iadd hx hb dX0_rowOf_48 ?_
      refine z_rald B hW (10) (by omega) b10 ((fst k) + i) (by omega) (by decide) (q := ad (11 + ((fst k) + i))) (c10 _ (by omega)) dX0_rowOf_49 ?_
      exact ret_r (post := fun q w0 => q = ad (11 + (fst k + i)) ∧ BOK G ad w0 (max nf (k + 2)) (max nf (k + 2)) ∧ fr1 w w0 ∧ isL G w0 (11 + (fst k + i)) 48 (bas k i)) B hr (Or.inr ⟨_, rfl⟩) hlk hW ⟨rfl, hB3, hfr3, bB k i (by omega) hk2 hi⟩ dX0_rowOf_50
    · omega
set_option maxHeartbeats 4000000 in
set_option maxRecDepth 100000 in
theorem k_findPartsN (l : Launch) (G : zG) (n : Nat) (ad : Nat → Nat) (w : Nat → va_E) (k nf kn kp N : Nat) (v : Nat → Nat) (hn : 55 ≤ n) (hk : k ≤ 40) (hk2 : k % 2 = 0) (hB : BOK G ad w nf nf) (hkn : 55 ≤ kn) (hkn2 : kn < n) (hkp : 55 ≤ kp) (hkp2 : kp < n) (hne : kn ≠ kp) (hN : zs k ≤ N) (hN2 : N < 2 ^ 31) (fv : Nat → Int64) (ev : w kn = eL G N fv) (vv : ∀ i, i < zs k → fv i = lN (v i)) (rv : ∀ i, i < zs k → v i < 1000003) (fp : Nat → Int64) (hp0 : w kp = eL G 4 fp) :
    Cv l G yX0_findParts cdX0_findParts (zr 3) n ad w [.ref (ad 2), .int (nI k), .ref (ad kn), .ref (ad kp)] (fun w' => ∃ nf', BOK G ad w' nf' nf' ∧ (∀ j, j ≠ 2 → ¬ (11 ≤ j ∧ j < 55) → j ≠ kp → w' j = w j) ∧ ∃ f, w' kp = eL G 4 f ∧ (∀ i, i < zs k → f i = lN (prt (bas k) v i)) ∧ ∀ i, zs k ≤ i → f i = fp i) := by
  have hzl := zs_le k hk
  refine ent_v (cc := cX0_findParts) (maxL := 8) (ret := none) (by decide +kernel) rfl (Nat.le_of_ble_eq_true rfl) ?_
  intro p e s m args below meth c A B hr hlk hA H locs ls hW hl
  have hx := B.1
  have hb := B.2.1
  have hl : lv_has ls 8 [(0, .ref (ad (2))), (1, .int (nI (k))), (2, .ref (ad (kn))), (3, .ref (ad (kp)))] := hl
  refine lv_iconst (v := nI 0) hx hb dX0_findParts_0 (by decide) ?_
  refine lv_istore (lv' := [(4, .int (nI (0))), (0, .ref (ad (2))), (1, .int (nI (k))), (2, .ref (ad (kn))), (3, .ref (ad (kp)))]) hx hb dX0_findParts_1 hl (by decide) rfl (fun ls hl => ?_)
  refine z_up (Wg := fun H locs ls => W p l e (zr 3) s m args below meth c H locs 0 0 _ (F0 m 3 ls [])) (I := fun i H locs ls => ∃ (w2 : Nat → va_E) (nf' : Nat) (f : Nat → Int64), Wo G A s.heap n ad w2 H locs ∧ lv_has ls 8 [(4, .int (nI i)), (0, .ref (ad 2)), (1, .int (nI k)), (2, .ref (ad kn)), (3, .ref (ad kp))] ∧ BOK G ad w2 nf' nf' ∧ (∀ j, j ≠ 2 → ¬ (11 ≤ j ∧ j < 55) → j ≠ kp → w2 j = w j) ∧ w2 kp = eL G 4 f ∧ (∀ j, j < i → f j = lN (prt (bas k) v j)) ∧ ∀ j, i ≤ j → f j = fp j) (a := 0) (b := zs k) (Nat.zero_le _) ?_ ?_ H locs ls ⟨w, nf, fp, hW, hl, hB, fun _ _ _ _ => rfl, hp0, fun j h => by omega, fun _ _ => rfl⟩
  · rintro i - hi ih H locs ls ⟨w2, nf', f, hW, hl, hB2, h1, h2, h3, h4⟩
    refine lv_iload hx hb dX0_findParts_3 (lv_at hl 0 rfl) ?_
    refine lv_aload_n hx hb dX0_findParts_5 rfl (lv_at hl 1 rfl) ?_
    refine lv_iload_n hx hb dX0_findParts_6 rfl (lv_at hl 2 rfl) ?_
    obtain ⟨b2, -⟩ := id hB2
    refine call_vi B hA hW (2) (by omega) b2 (r := _) rfl rfl (k_sizeOf l G n ad w2 k nf' nf' hn hk hB2) mf_X0_sizeOf hw_224 rfl ⟨⟨rfl, rfl⟩, by decide, by decide⟩ ⟨Nat.zero_le _, Nat.zero_le _⟩ hl.1 rfl (Nat.le_of_ble_eq_true rfl) dX0_findParts_7 (fun r w9 H locs hp hW => ?_)
    obtain ⟨e1, e2⟩ := hp
    rw [e1] at hW
    subst e2
    refine n_icmp_ge (tgt := 70) hx hb (by omega) (by omega) dX0_findParts_10 (by decide) (fun hc => ?_) (fun hc => ?_)
    · omega
    · have ev2 : w2 kn = eL G N fv := by rw [h1 kn (by omega) (by omega) hne]; exact ev
      refine lv_aload_n hx hb dX0_findParts_13 rfl (lv_at hl 3 rfl) ?_
      refine lv_iload hx hb dX0_findParts_14 (lv_at hl 0 rfl) ?_
      refine z_lald B hW kn (by omega) ev2 i (by omega) hN2 (v := lZ (lft (bas k) v i 0)) (by rw [vv _ (by omega), lN_Z]; rfl) dX0_findParts_16 ?_
      refine lv_lstore (lv' := [(5, .long (lZ (lft (bas k) v i 0))), (4, .int (nI (i))), (0, .ref (ad (2))), (1, .int (nI (k))), (2, .ref (ad (kn))), (3, .ref (ad (kp)))]) hx hb dX0_findParts_17 hl (by decide) rfl (fun ls hl => ?_)
      refine lv_iconst (v := nI 0) hx hb dX0_findParts_19 (by decide) ?_
      refine lv_istore (lv' := [(7, .int (nI (0))), (5, .long (lZ (lft (bas k) v i 0))), (4, .int (nI (i))), (0, .ref (ad (2))), (1, .int (nI (k))), (2, .ref (ad (kn))), (3, .ref (ad (kp)))]) hx hb dX0_findParts_20 hl (by decide) rfl (fun ls hl => ?_)
      refine z_up (Wg := fun H locs ls => W p l e (zr 3) s m args below meth c H locs 0 0 _ (F0 m 22 ls [])) (I := fun t H locs ls => ∃ (w3 : Nat → va_E) (nf2 : Nat), Wo G A s.heap n ad w3 H locs ∧ lv_has ls 8 [(7, .int (nI t)), (5, .long (lZ (lft (bas k) v i t))), (4, .int (nI i)), (0, .ref (ad 2)), (1, .int (nI k)), (2, .ref (ad kn)), (3, .ref (ad kp))] ∧ BOK G ad w3 nf2 nf2 ∧ fr1 w2 w3) (a := 0) (b := i) (Nat.zero_le _) ?_ ?_ H locs ls ⟨w2, nf', hW, hl, hB2, fr1.rf⟩
      · rintro t - ht ih2 H locs ls ⟨w3, nf2, hW, hl, hB3, g1⟩
        refine lv_iload hx hb dX0_findParts_22 (lv_at hl 0 rfl) ?_
        refine lv_iload hx hb dX0_findParts_24 (lv_at hl 2 rfl) ?_
        refine n_icmp_ge (tgt := 55) hx hb (by omega) (by omega) dX0_findParts_26 (by decide) (fun hc => ?_) (fun hc => ?_)
        · omega
        · have h2b : w3 kp = eL G 4 f := by rw [g1 kp (by omega) (by omega)]; exact h2
          obtain ⟨b2c, -⟩ := id hB3
          refine lv_lload hx hb dX0_findParts_29 (lv_at hl 1 rfl) ?_
          refine lv_aload_n hx hb dX0_findParts_31 rfl (lv_at hl 6 rfl) ?_
          refine lv_iload hx hb dX0_findParts_32 (lv_at hl 0 rfl) ?_
          refine z_lald B hW (kp) (by omega) h2b (t) (by omega) (by decide) (v := (lZ ((prt (bas k) v t : Nat)))) (by rw [h3 _ ht, lN_Z]) dX0_findParts_34 ?_
          refine lv_aload_n hx hb dX0_findParts_35 rfl (lv_at hl 3 rfl) ?_
          refine lv_iload_n hx hb dX0_findParts_36 rfl (lv_at hl 4 rfl) ?_
          refine lv_iload hx hb dX0_findParts_37 (lv_at hl 0 rfl) ?_
          refine call_vr B hA hW (2) (by omega) b2c (r := _) rfl rfl (k_rowOf l G n ad w3 k t nf2 hn hk hk2 (by omega) hB3) mf_X0_rowOf hw_228 rfl ⟨⟨rfl, rfl⟩, by decide, by decide⟩ ⟨Nat.zero_le _, Nat.zero_le _⟩ hl.1 rfl (Nat.le_of_ble_eq_true rfl) dX0_findParts_39 (fun q w4 H locs hp hW => ?_)
          obtain ⟨rfl, hB4, g2, fb, eb, vb⟩ := hp
          refine lv_iload hx hb dX0_findParts_42 (lv_at hl 2 rfl) ?_
          refine z_lald B hW (11 + (fst k + t)) (by omega) eb (i) (by omega) (by decide) (v := (lZ ((bas k t i : Nat)))) (by rw [vb _ (by omega), lN_Z]) dX0_findParts_44 ?_
          refine z_lmul hx hb dX0_findParts_45 ?_
          refine z_lsub hx hb dX0_findParts_46 ?_
          refine topl (y := (lZ (lft (bas k) v i (t + 1)))) (by rw [← Int.natCast_mul]; rfl) ?_
          refine lv_lstore (lv' := [(5, .long (lZ (lft (bas k) v i (t + 1)))), (7, .int (nI (t))), (4, .int (nI (i))), (0, .ref (ad (2))), (1, .int (nI (k))), (2, .ref (ad (kn))), (3, .ref (ad (kp)))]) hx hb dX0_findParts_47 hl (by decide) rfl (fun ls hl => ?_)
          refine lv_iinc (v := (nI (t + 1))) (lv' := [(7, .int (nI (t + 1))), (5, .long (lZ (lft (bas k) v i (t + 1)))), (4, .int (nI (i))), (0, .ref (ad (2))), (1, .int (nI (k))), (2, .ref (ad (kn))), (3, .ref (ad (kp)))]) hx hb dX0_findParts_49 hl (k := 1) rfl (iinc1 _) (by decide) rfl (fun ls hl => ?_)
          refine lv_goto (tgt := 22) hx hb dX0_findParts_52 (by decide) ?_
          exact ih2 H locs ls ⟨w4, _, hW, lv_sub hl [0, 1, 2, 3, 4, 5, 6] rfl, hB4, g1.tr g2⟩
      · rintro H locs ls ⟨w3, nf2, hW, hl, hB3, g1⟩
        refine lv_iload hx hb dX0_findParts_22 (lv_at hl 0 rfl) ?_
        refine lv_iload hx hb dX0_findParts_24 (lv_at hl 2 rfl) ?_
        refine n_icmp_ge (tgt := 55) hx hb (by omega) (by omega) dX0_findParts_26 (by decide) (fun hc => ?_) (fun hc => ?_)
        · have h2b : w3 kp = eL G 4 f := by rw [g1 kp (by omega) (by omega)]; exact h2
          have hlf := lft_le (b := bas k) (v := v) (n := i) (fun j => bas_red k j i) (fun j hj => rv j (by omega)) i (Nat.le_refl i)
          refine lv_aload_n hx hb dX0_findParts_55 rfl (lv_at hl 6 rfl) ?_
          refine lv_iload hx hb dX0_findParts_56 (lv_at hl 2 rfl) ?_
          refine lv_lload hx hb dX0_findParts_58 (lv_at hl 1 rfl) ?_
          refine call_sl B hA hW (k_rest l G n ad w3 (lft (bas k) v i i) (by omega) (by omega)) mf_X2_rest hw_26 rfl ⟨⟨rfl, rfl⟩, by decide, by decide⟩ ⟨Nat.zero_le _, Nat.zero_le _⟩ hl.1 rfl (Nat.le_of_ble_eq_true rfl) dX0_findParts_60 (fun r w9 H locs hp hW => ?_)
          obtain ⟨e1, e2⟩ := hp
          rw [e1] at hW
          subst e2
          refine z_last B hW (kp) (by omega) h2b (i) (by omega) (by decide) dX0_findParts_63 (fun H locs hW => ?_)
          rw [prt_zm (fun j hj => rv j (by omega))] at hW
          refine lv_iinc (v := (nI (i + 1))) (lv' := [(4, .int (nI (i + 1))), (7, .int (nI (i))), (5, .long (lZ (lft (bas k) v i i))), (0, .ref (ad (2))), (1, .int (nI (k))), (2, .ref (ad (kn))), (3, .ref (ad (kp)))]) hx hb dX0_findParts_64 hl (k := 2) rfl (iinc1 _) (by decide) rfl (fun ls hl => ?_)
          refine lv_goto (tgt := 3) hx hb dX0_findParts_67 (by decide) ?_
          refine ih H locs ls ⟨_, nf2, _, hW, lv_sub hl [0, 3, 4, 5, 6] rfl, hB3.keep (fun j q1 q2 => up_n (by omega)), fun j q1 q2 q3 => by rw [up_n q3, g1 j q1 q2]; exact h1 j q1 q2 q3, up_s, fun j hj => ?_, fun j hj => ?_⟩
          · by_cases q : j = i
            · rw [q, pk_uLs]
            · rw [pk_uLn q]; exact h3 j (by omega)
          · rw [pk_uLn (by omega)]; exact h4 j (by omega)
        · omega
  · rintro H locs ls ⟨w2, nf', f, hW, hl, hB2, h1, h2, h3, h4⟩
    refine lv_iload hx hb dX0_findParts_3 (lv_at hl 0 rfl) ?_
    refine lv_aload_n hx hb dX0_findParts_5 rfl (lv_at hl 1 rfl) ?_
    refine lv_iload_n hx hb dX0_findParts_6 rfl (lv_at hl 2 rfl) ?_
    obtain ⟨b2, -⟩ := id hB2
    refine call_vi B hA hW (2) (by omega) b2 (r := _) rfl rfl (k_sizeOf l G n ad w2 k nf' nf' hn hk hB2) mf_X0_sizeOf hw_224 rfl ⟨⟨rfl, rfl⟩, by decide, by decide⟩ ⟨Nat.zero_le _, Nat.zero_le _⟩ hl.1 rfl (Nat.le_of_ble_eq_true rfl) dX0_findParts_7 (fun r w9 H locs hp hW => ?_)
    obtain ⟨e1, e2⟩ := hp
    rw [e1] at hW
    subst e2
    refine n_icmp_ge (tgt := 70) hx hb (by omega) (by omega) dX0_findParts_10 (by decide) (fun hc => ?_) (fun hc => ?_)
    · exact ret_v B hr hlk hW ⟨nf', hB2, h1, f, h2, h3, h4⟩ dX0_findParts_70
    · omega
theorem k_findParts (l : Launch) (G : zG) (n : Nat) (ad : Nat → Nat) (w : Nat → va_E) (k nf kn kp N : Nat) (v : Nat → Nat) (hn : 55 ≤ n) (hk : k ≤ 40) (hk2 : k % 2 = 0) (hB : BOK G ad w nf nf) (hkn : 55 ≤ kn) (hkn2 : kn < n) (hkp : 55 ≤ kp) (hkp2 : kp < n) (hne : kn ≠ kp) (hN : zs k ≤ N) (hN2 : N < 2 ^ 31) (hv : isL G w kn N v) (rv : ∀ i, i < zs k → v i < 1000003) (fp : Nat → Int64) (hp0 : w kp = eL G 4 fp) :
    Cv l G yX0_findParts cdX0_findParts (zr 3) n ad w [.ref (ad 2), .int (nI k), .ref (ad kn), .ref (ad kp)] (fun w' => ∃ nf', BOK G ad w' nf' nf' ∧ (∀ j, j ≠ 2 → ¬ (11 ≤ j ∧ j < 55) → j ≠ kp → w' j = w j) ∧ ∃ f, w' kp = eL G 4 f ∧ (∀ i, i < zs k → f i = lN (prt (bas k) v i)) ∧ ∀ i, zs k ≤ i → f i = fp i) := by
  obtain ⟨fv, ev, vv⟩ := hv
  exact k_findPartsN l G n ad w k nf kn kp N v hn hk hk2 hB hkn hkn2 hkp hkp2 hne hN hN2 fv ev (fun i hi => vv i (by omega)) rv fp hp0
set_option maxHeartbeats 4000000 in
set_option maxRecDepth 100000 in
theorem k_join (l : Launch) (G : zG) (n : Nat) (ad : Nat → Nat) (w : Nat → va_E) (k nf kp kr : Nat) (pv : Nat → Nat) (hn : 55 ≤ n) (hk : k ≤ 40) (hk2 : k % 2 = 0) (hB : BOK G ad w nf nf) (hkp : 55 ≤ kp) (hkp2 : kp < n) (hkr : 55 ≤ kr) (hkr2 : kr < n) (hne : kp ≠ kr) (rv : ∀ i, i < zs k → pv i < 1000003) (fp : Nat → Int64) (hp0 : w kp = eL G 4 fp) (vp : ∀ i, i < zs k → fp i = lN (pv i)) (hr0 : ∃ f, w kr = eL G 48 f) :
    Cv l G yX0_join cdX0_join (zr 3) n ad w [.ref (ad 2), .int (nI k), .ref (ad kp), .ref (ad kr)] (fun w' => ∃ nf', BOK G ad w' nf' nf' ∧ (∀ j, j ≠ 2 → ¬ (11 ≤ j ∧ j < 55) → j ≠ kr → w' j = w j) ∧ isL G w' kr 48 (bld (bas k) (zs k) pv)) := by
  have hzl := zs_le k hk
  obtain ⟨fr, er⟩ := hr0
  refine ent_v (cc := cX0_join) (maxL := 8) (ret := none) (by decide +kernel) rfl (Nat.le_of_ble_eq_true rfl) ?_
  intro p e s m args below meth c A B hr hlk hA H locs ls hW hl
  have hx := B.1
  have hb := B.2.1
  have hl : lv_has ls 8 [(0, .ref (ad (2))), (1, .int (nI (k))), (2, .ref (ad (kp))), (3, .ref (ad (kr)))] := hl
  refine lv_iconst (v := nI 0) hx hb dX0_join_0 (by decide) ?_
  refine lv_istore (lv' := [(4, .int (nI (0))), (0, .ref (ad (2))), (1, .int (nI (k))), (2, .ref (ad (kp))), (3, .ref (ad (kr)))]) hx hb dX0_join_1 hl (by decide) rfl (fun ls hl => ?_)
  refine z_up (Wg := fun H locs ls => W p l e (zr 3) s m args below meth c H locs 0 0 _ (F0 m 3 ls [])) (I := fun i H locs ls => ∃ (w2 : Nat → va_E) (nf' : Nat) (f : Nat → Int64), Wo G A s.heap n ad w2 H locs ∧ lv_has ls 8 [(4, .int (nI i)), (0, .ref (ad 2)), (1, .int (nI k)), (2, .ref (ad kp)), (3, .ref (ad kr))] ∧ BOK G ad w2 nf' nf' ∧ (∀ j, j ≠ 2 → ¬ (11 ≤ j ∧ j < 55) → j ≠ kr → w2 j = w j) ∧ w2 kr = eL G 48 f ∧ (∀ j, j < i → f j = lN (bld (bas k) (zs k) pv j))) (a := 0) (b := 48) (Nat.zero_le _) ?_ ?_ H locs ls ⟨w, nf, fr, hW, hl, hB, fun _ _ _ _ => rfl, er, fun j h => by omega⟩
  · rintro i - hi ih H locs ls ⟨w2, nf', f, hW, hl, hB2, h1, h2, h3⟩
    refine lv_iload hx hb dX0_join_3 (lv_at hl 0 rfl) ?_
    refine lv_bipush (v := nI 48) hx hb dX0_join_5 (by decide) ?_
    refine n_icmp_ge (tgt := 68) hx hb (by omega) (by omega) dX0_join_7 (by decide) (fun hc => ?_) (fun hc => ?_)
    · omega
    · refine lv_lconst (v := lN 0) hx hb dX0_join_10 (by decide) ?_
      refine lv_lstore (lv' := [(5, .long (lN (0))), (4, .int (nI (i))), (0, .ref (ad (2))), (1, .int (nI (k))), (2, .ref (ad (kp))), (3, .ref (ad (kr)))]) hx hb dX0_join_11 hl (by decide) rfl (fun ls hl => ?_)
      refine lv_iconst (v := nI 0) hx hb dX0_join_13 (by decide) ?_
      refine lv_istore (lv' := [(7, .int (nI (0))), (5, .long (lN (0))), (4, .int (nI (i))), (0, .ref (ad (2))), (1, .int (nI (k))), (2, .ref (ad (kp))), (3, .ref (ad (kr)))]) hx hb dX0_join_14 hl (by decide) rfl (fun ls hl => ?_)
      refine z_up (Wg := fun H locs ls => W p l e (zr 3) s m args below meth c H locs 0 0 _ (F0 m 16 ls [])) (I := fun t H locs ls => ∃ (w3 : Nat → va_E) (nf2 : Nat), Wo G A s.heap n ad w3 H locs ∧ lv_has ls 8 [(7, .int (nI t)), (5, .long (lN (sm (fun j => pv j * bas k j i) t))), (4, .int (nI i)), (0, .ref (ad 2)), (1, .int (nI k)), (2, .ref (ad kp)), (3, .ref (ad kr))] ∧ BOK G ad w3 nf2 nf2 ∧ fr1 w2 w3) (a := 0) (b := zs k) (Nat.zero_le _) ?_ ?_ H locs ls ⟨w2, nf', hW, hl, hB2, fr1.rf⟩
      · rintro t - ht ih2 H locs ls ⟨w3, nf2, hW, hl, hB3, g1⟩
        refine lv_iload hx hb dX0_join_16 (lv_at hl 0 rfl) ?_
        refine lv_aload_n hx hb dX0_join_18 rfl (lv_at hl 3 rfl) ?_
        refine lv_iload_n hx hb dX0_join_19 rfl (lv_at hl 4 rfl) ?_
        obtain ⟨b2c, -⟩ := id hB3
        refine call_vi B hA hW (2) (by omega) b2c (r := _) rfl rfl (k_sizeOf l G n ad w3 k nf2 nf2 hn hk hB3) mf_X0_sizeOf hw_224 rfl ⟨⟨rfl, rfl⟩, by decide, by decide⟩ ⟨Nat.zero_le _, Nat.zero_le _⟩ hl.1 rfl (Nat.le_of_ble_eq_true rfl) dX0_join_20 (fun r w9 H locs hp hW => ?_)
        obtain ⟨e1, e2⟩ := hp
        rw [e1] at hW
        subst e2
        refine n_icmp_ge (tgt := 52) hx hb (by omega) (by omega) dX0_join_23 (by decide) (fun hc => ?_) (fun hc => ?_)
        · omega
        · have hpk : w3 kp = eL G 4 fp := by rw [g1 kp (by omega) (by omega), h1 kp (by omega) (by omega) hne]; exact hp0
          refine lv_lload hx hb dX0_join_26 (lv_at hl 1 rfl) ?_
          refine lv_aload_n hx hb dX0_join_28 rfl (lv_at hl 5 rfl) ?_
          refine lv_iload hx hb dX0_join_29 (lv_at hl 0 rfl) ?_
          refine z_lald B hW (kp) (by omega) hpk (t) (by omega) (by decide) (v := (lN (pv t))) (vp _ ht) dX0_join_31 ?_
          refine lv_aload_n hx hb dX0_join_32 rfl (lv_at hl 3 rfl) ?_
          refine lv_iload_n hx hb dX0_join_33 rfl (lv_at hl 4 rfl) ?_
          refine lv_iload hx hb dX0_join_34 (lv_at hl 0 rfl) ?_
          refine call_vr B hA hW (2) (by omega) b2c (r := _) rfl rfl (k_rowOf l G n ad w3 k t nf2 hn hk hk2 ht hB3) mf_X0_rowOf hw_228 rfl ⟨⟨rfl, rfl⟩, by decide, by decide⟩ ⟨Nat.zero_le _, Nat.zero_le _⟩ hl.1 rfl (Nat.le_of_ble_eq_true rfl) dX0_join_36 (fun q w4 H locs hp hW => ?_)
          obtain ⟨rfl, hB4, g2, fb, eb, vb⟩ := hp
          refine lv_iload hx hb dX0_join_39 (lv_at hl 2 rfl) ?_
          refine z_lald B hW (11 + (fst k + t)) (by omega) eb (i) (by omega) (by decide) (v := (lN (bas k t i))) (vb _ (by omega)) dX0_join_41 ?_
          refine n_lmul hx hb dX0_join_42 ?_
          refine n_ladd hx hb dX0_join_43 ?_
          refine lv_lstore (lv' := [(5, .long (lN ((sm (fun j => pv j * bas k j i) t) + ((pv t) * (bas k t i))))), (7, .int (nI (t))), (4, .int (nI (i))), (0, .ref (ad (2))), (1, .int (nI (k))), (2, .ref (ad (kp))), (3, .ref (ad (kr)))]) hx hb dX0_join_44 hl (by decide) rfl (fun ls hl => ?_)
          refine lv_iinc (v := (nI (t + 1))) (lv' := [(7, .int (nI (t + 1))), (5, .long (lN ((sm (fun j => pv j * bas k j i) t) + ((pv t) * (bas k t i))))), (4, .int (nI (i))), (0, .ref (ad (2))), (1, .int (nI (k))), (2, .ref (ad (kp))), (3, .ref (ad (kr)))]) hx hb dX0_join_46 hl (k := 1) rfl (iinc1 _) (by decide) rfl (fun ls hl => ?_)
          refine lv_goto (tgt := 16) hx hb dX0_join_49 (by decide) ?_
          exact ih2 H locs ls ⟨w4, _, hW, lv_sub hl [0, 1, 2, 3, 4, 5, 6] rfl, hB4, g1.tr g2⟩
      · rintro H locs ls ⟨w3, nf2, hW, hl, hB3, g1⟩
        refine lv_iload hx hb dX0_join_16 (lv_at hl 0 rfl) ?_
        refine lv_aload_n hx hb dX0_join_18 rfl (lv_at hl 3 rfl) ?_
        refine lv_iload_n hx hb dX0_join_19 rfl (lv_at hl 4 rfl) ?_
        obtain ⟨b2c, -⟩ := id hB3
        refine call_vi B hA hW (2) (by omega) b2c (r := _) rfl rfl (k_sizeOf l G n ad w3 k nf2 nf2 hn hk hB3) mf_X0_sizeOf hw_224 rfl ⟨⟨rfl, rfl⟩, by decide, by decide⟩ ⟨Nat.zero_le _, Nat.zero_le _⟩ hl.1 rfl (Nat.le_of_ble_eq_true rfl) dX0_join_20 (fun r w9 H locs hp hW => ?_)
        obtain ⟨e1, e2⟩ := hp
        rw [e1] at hW
        subst e2
        refine n_icmp_ge (tgt := 52) hx hb (by omega) (by omega) dX0_join_23 (by decide) (fun hc => ?_) (fun hc => ?_)
        · have h2b : w3 kr = eL G 48 f := by rw [g1 kr (by omega) (by omega)]; exact h2
          have hsm := sm_le (f := fun j => pv j * bas k j i) (c := 1000006000009) (n := zs k) (fun j hj => Nat.le_of_lt (mul_lt (rv j hj) (bas_red k j i)))
          refine lv_aload_n hx hb dX0_join_52 rfl (lv_at hl 6 rfl) ?_
          refine lv_iload hx hb dX0_join_53 (lv_at hl 2 rfl) ?_
          refine lv_lload hx hb dX0_join_55 (lv_at hl 1 rfl) ?_
          refine n_ldc2 B hw_247 (x := lN 1000003) (by decide) dX0_join_57 ?_
          refine n_lrem hx hb (by omega) (by omega) (by omega) dX0_join_60 ?_
          refine z_last B hW (kr) (by omega) h2b (i) (by omega) (by decide) dX0_join_61 (fun H locs hW => ?_)
          refine lv_iinc (v := (nI (i + 1))) (lv' := [(4, .int (nI (i + 1))), (7, .int (nI (zs k))), (5, .long (lN (sm (fun j => pv j * bas k j i) (zs k)))), (0, .ref (ad (2))), (1, .int (nI (k))), (2, .ref (ad (kp))), (3, .ref (ad (kr)))]) hx hb dX0_join_62 hl (k := 2) rfl (iinc1 _) (by decide) rfl (fun ls hl => ?_)
          refine lv_goto (tgt := 3) hx hb dX0_join_65 (by decide) ?_
          refine ih H locs ls ⟨_, nf2, _, hW, lv_sub hl [0, 3, 4, 5, 6] rfl, hB3.keep (fun j q1 q2 => up_n (by omega)), fun j q1 q2 q3 => by rw [up_n q3, g1 j q1 q2]; exact h1 j q1 q2 q3, up_s, fun j hj => ?_⟩
          by_cases q : j = i
          · rw [q, pk_uLs]; rfl
          · rw [pk_uLn q]; exact h3 j (by omega)
        · omega
  · rintro H locs ls ⟨w2, nf', f, hW, hl, hB2, h1, h2, h3⟩
    refine lv_iload hx hb dX0_join_3 (lv_at hl 0 rfl) ?_
    refine lv_bipush (v := nI 48) hx hb dX0_join_5 (by decide) ?_
    refine n_icmp_ge (tgt := 68) hx hb (by omega) (by omega) dX0_join_7 (by decide) (fun hc => ?_) (fun hc => ?_)
    · exact ret_v B hr hlk hW ⟨nf', hB2, h1, f, h2, h3⟩ dX0_join_68
    · omega
set_option maxHeartbeats 4000000 in
set_option maxRecDepth 100000 in
theorem k_putImage (l : Launch) (G : zG) (n : Nat) (ad : Nat → Nat) (w : Nat → va_E) (k nf cu ka kr p9 : Nat) (a : Nat → Nat) (hn : 55 ≤ n) (hk : k ≤ 40) (hk1 : 1 ≤ k) (hB : BOK G ad w nf cu) (hp9 : 2 ≤ p9) (hp92 : p9 ≤ 11) (hka : ka < n) (hkr : 55 ≤ kr) (hkr2 : kr < n) (hne : ka ≠ kr) (ha : isL G w ka 48 a) (ra : sM a) (hr0 : ∃ f, w kr = eL G 4 f) :
    Cv l G yX0_putImage cdX0_putImage (zr 1) n ad w [.ref (ad 2), .int (nI k), .ref (ad ka), .int (nI p9), .ref (ad kr)] (fun w' => (∀ j, j ≠ kr → w' j = w j) ∧ ∃ f, w' kr = eL G 4 f ∧ ∀ i, i < zs k → f i = lN (imgS k p9 a i)) := by
  have hzl := zs_le k hk
  obtain ⟨fr, er⟩ := hr0
  obtain ⟨fa, ea, va⟩ := ha
  refine ent_v (cc := cX0_putImage) (maxL := 10) (ret := none) (by decide +kernel) rfl (Nat.le_of_ble_eq_true rfl) ?_
  intro p e s m args below meth c A B hr hlk hA H locs ls hW hl
  have hx := B.1
  have hb := B.2.1
  have hl : lv_has ls 10 [(0, .ref (ad (2))), (1, .int (nI (k))), (2, .ref (ad (ka))), (3, .int (nI (p9))), (4, .ref (ad (kr)))] := hl
  refine lv_iload_n hx hb dX0_putImage_0 rfl (lv_at hl 3 rfl) ?_
  refine n_i2l hx hb (by omega) dX0_putImage_1 ?_
  refine lv_iload_n hx hb dX0_putImage_2 rfl (lv_at hl 1 rfl) ?_
  refine lv_iconst (v := nI 1) hx hb dX0_putImage_3 (by decide) ?_
  refine n_isub hx hb (by omega) dX0_putImage_4 ?_
  refine call_sl B hA hW (k_raised l G n ad w p9 (k - 1) (by omega) (by omega)) mf_X2_raised hw_259 rfl ⟨⟨rfl, rfl⟩, by decide, by decide⟩ ⟨Nat.zero_le _, Nat.zero_le _⟩ hl.1 rfl (Nat.le_of_ble_eq_true rfl) dX0_putImage_5 (fun r w9 H locs hp hW => ?_)
  obtain ⟨e1, e2⟩ := hp
  rw [e1] at hW
  subst e2
  have hfl := Nat.mod_lt (p9 ^ (k - 1)) (show 0 < 1000003 by decide)
  refine lv_lstore (lv' := [(5, .long (lN (p9 ^ (k - 1) % 1000003))), (0, .ref (ad (2))), (1, .int (nI (k))), (2, .ref (ad (ka))), (3, .int (nI (p9))), (4, .ref (ad (kr)))]) hx hb dX0_putImage_8 hl (by decide) rfl (fun ls hl => ?_)
  refine lv_iconst (v := nI 0) hx hb dX0_putImage_10 (by decide) ?_
  refine lv_istore (lv' := [(7, .int (nI (0))), (5, .long (lN (p9 ^ (k - 1) % 1000003))), (0, .ref (ad (2))), (1, .int (nI (k))), (2, .ref (ad (ka))), (3, .int (nI (p9))), (4, .ref (ad (kr)))]) hx hb dX0_putImage_11 hl (by decide) rfl (fun ls hl => ?_)
  refine z_up (Wg := fun H locs ls => W p l e (zr 1) s m args below meth c H locs 0 0 _ (F0 m 13 ls [])) (I := fun i H locs ls => ∃ (w2 : Nat → va_E) (f : Nat → Int64), Wo G A s.heap n ad w2 H locs ∧ lv_has ls 10 [(7, .int (nI i)), (5, .long (lN (p9 ^ (k - 1) % 1000003))), (0, .ref (ad 2)), (1, .int (nI k)), (2, .ref (ad ka)), (3, .int (nI p9)), (4, .ref (ad kr))] ∧ (∀ j, j ≠ kr → w2 j = w j) ∧ w2 kr = eL G 4 f ∧ (∀ j, j < i → f j = lN (imgS k p9 a j))) (a := 0) (b := zs k) (Nat.zero_le _) ?_ ?_ H locs ls ⟨w, fr, hW, hl, fun _ _ => rfl, er, fun j h => by omega⟩
  · rintro i - hi ih H locs ls ⟨w2, f, hW, hl, h1, h2, h3⟩
    refine lv_iload hx hb dX0_putImage_13 (lv_at hl 0 rfl) ?_
    refine lv_aload_n hx hb dX0_putImage_15 rfl (lv_at hl 2 rfl) ?_
    refine lv_iload_n hx hb dX0_putImage_16 rfl (lv_at hl 3 rfl) ?_
    have hB2 : BOK G ad w2 nf cu := hB.keep (fun j q1 q2 => h1 j (by omega))
    obtain ⟨b2, -⟩ := id hB2
    refine call_vi B hA hW (2) (by omega) b2 (r := _) rfl rfl (k_sizeOf l G n ad w2 k nf cu hn hk hB2) mf_X0_sizeOf hw_224 rfl ⟨⟨rfl, rfl⟩, by decide, by decide⟩ ⟨Nat.zero_le _, Nat.zero_le _⟩ hl.1 rfl (Nat.le_of_ble_eq_true rfl) dX0_putImage_17 (fun r w9 H locs hp hW => ?_)
    obtain ⟨e1, e2⟩ := hp
    rw [e1] at hW
    subst e2
    refine n_icmp_ge (tgt := 69) hx hb (by omega) (by omega) dX0_putImage_20 (by decide) (fun hc => ?_) (fun hc => ?_)
    · omega
    · have ea2 : w2 ka = eL G 48 fa := by rw [h1 ka hne]; exact ea
      have hpi : p9 * i ≤ 33 := Nat.le_trans (Nat.mul_le_mul hp92 (show i ≤ 3 by omega)) (by decide)
      refine lv_iload hx hb dX0_putImage_23 (lv_at hl 0 rfl) ?_
      refine lv_iload_n hx hb dX0_putImage_25 rfl (lv_at hl 5 rfl) ?_
      refine n_irem hx hb (by omega) (by omega) (by omega) dX0_putImage_26 ?_
      have hrl := Nat.mod_lt i (show 0 < p9 by omega)
      refine n_if_ne (tgt := 42) hx hb (by omega) dX0_putImage_27 (by decide) (fun hd => ?_) (fun hd => ?_)
      · obtain ⟨mo, hmo⟩ : ∃ mo, mo = (if i % p9 = 0 then p9 ^ (k - 1) % 1000003 * a (i / p9) else 0) := ⟨_, rfl⟩
        have hip : i / p9 < 48 := Nat.lt_of_le_of_lt (Nat.div_le_self _ _) (by omega)
        have hal := ra (i / p9) hip
        have hal2 := ra (p9 * i) (by omega)
        have hmm := mul_lt hfl hal
        rw [if_neg hd] at hmo
        have hmol : mo < 1000006000009 := by rw [hmo]; decide
        refine lv_lconst (v := lN 0) hx hb dX0_putImage_42 (by decide) ?_
        refine topl (y := (lN (mo))) (by rw [hmo]) ?_
        refine lv_lstore (lv' := [(8, .long (lN (mo))), (7, .int (nI (i))), (5, .long (lN (p9 ^ (k - 1) % 1000003))), (0, .ref (ad (2))), (1, .int (nI (k))), (2, .ref (ad (ka))), (3, .int (nI (p9))), (4, .ref (ad (kr)))]) hx hb dX0_putImage_43 hl (by decide) rfl (fun ls hl => ?_)
        refine lv_aload hx hb dX0_putImage_45 (lv_at hl 7 rfl) ?_
        refine lv_iload hx hb dX0_putImage_47 (lv_at hl 1 rfl) ?_
        refine lv_aload_n hx hb dX0_putImage_49 rfl (lv_at hl 5 rfl) ?_
        refine lv_iload_n hx hb dX0_putImage_50 rfl (lv_at hl 6 rfl) ?_
        refine lv_iload hx hb dX0_putImage_51 (lv_at hl 1 rfl) ?_
        refine n_imul hx hb dX0_putImage_53 ?_
        refine z_lald B hW (ka) (by omega) ea2 (p9 * i) (by omega) (by decide) (v := (lN (a (p9 * i)))) (va _ (by omega)) dX0_putImage_54 ?_
        refine lv_lload hx hb dX0_putImage_55 (lv_at hl 0 rfl) ?_
        refine n_ladd hx hb dX0_putImage_57 ?_
        refine n_ldc2 B hw_247 (x := lN 1000003) (by decide) dX0_putImage_58 ?_
        refine n_lrem hx hb (by omega) (by omega) (by omega) dX0_putImage_61 ?_
        refine z_last B hW (kr) (by omega) h2 (i) (by omega) (by decide) dX0_putImage_62 (fun H locs hW => ?_)
        refine lv_iinc (v := (nI (i + 1))) (lv' := [(7, .int (nI (i + 1))), (8, .long (lN (mo))), (5, .long (lN (p9 ^ (k - 1) % 1000003))), (0, .ref (ad (2))), (1, .int (nI (k))), (2, .ref (ad (ka))), (3, .int (nI (p9))), (4, .ref (ad (kr)))]) hx hb dX0_putImage_63 hl (k := 1) rfl (iinc1 _) (by decide) rfl (fun ls hl => ?_)
        refine lv_goto (tgt := 13) hx hb dX0_putImage_66 (by decide) ?_
        refine ih H locs ls ⟨_, _, hW, lv_sub hl [0, 2, 3, 4, 5, 6, 7] rfl, fun j hj => by rw [up_n hj]; exact h1 j hj, up_s, fun j hj => ?_⟩
        by_cases q : j = i
        · rw [q, pk_uLs]; unfold imgS; rw [hmo, if_neg hd]
        · rw [pk_uLn q]; exact h3 j (by omega)
      · obtain ⟨mo, hmo⟩ : ∃ mo, mo = (if i % p9 = 0 then p9 ^ (k - 1) % 1000003 * a (i / p9) else 0) := ⟨_, rfl⟩
        have hip : i / p9 < 48 := Nat.lt_of_le_of_lt (Nat.div_le_self _ _) (by omega)
        have hal := ra (i / p9) hip
        have hal2 := ra (p9 * i) (by omega)
        have hmm := mul_lt hfl hal
        rw [if_pos hd] at hmo
        have hmol : mo < 1000006000009 := by rw [hmo]; exact hmm
        refine lv_lload hx hb dX0_putImage_30 (lv_at hl 1 rfl) ?_
        refine lv_aload_n hx hb dX0_putImage_32 rfl (lv_at hl 4 rfl) ?_
        refine lv_iload hx hb dX0_putImage_33 (lv_at hl 0 rfl) ?_
        refine lv_iload_n hx hb dX0_putImage_35 rfl (lv_at hl 5 rfl) ?_
        refine n_idiv hx hb (by omega) (by omega) (by omega) dX0_putImage_36 ?_
        refine z_lald B hW (ka) (by omega) ea2 (i / p9) (by omega) (by decide) (v := (lN (a (i / p9)))) (va _ (by omega)) dX0_putImage_37 ?_
        refine n_lmul hx hb dX0_putImage_38 ?_
        refine topl (y := (lN (mo))) (by rw [hmo]) ?_
        refine lv_goto (tgt := 43) hx hb dX0_putImage_39 (by decide) ?_
        refine lv_lstore (lv' := [(8, .long (lN (mo))), (7, .int (nI (i))), (5, .long (lN (p9 ^ (k - 1) % 1000003))), (0, .ref (ad (2))), (1, .int (nI (k))), (2, .ref (ad (ka))), (3, .int (nI (p9))), (4, .ref (ad (kr)))]) hx hb dX0_putImage_43 hl (by decide) rfl (fun ls hl => ?_)
        refine lv_aload hx hb dX0_putImage_45 (lv_at hl 7 rfl) ?_
        refine lv_iload hx hb dX0_putImage_47 (lv_at hl 1 rfl) ?_
        refine lv_aload_n hx hb dX0_putImage_49 rfl (lv_at hl 5 rfl) ?_
        refine lv_iload_n hx hb dX0_putImage_50 rfl (lv_at hl 6 rfl) ?_
        refine lv_iload hx hb dX0_putImage_51 (lv_at hl 1 rfl) ?_
        refine n_imul hx hb dX0_putImage_53 ?_
        refine z_lald B hW (ka) (by omega) ea2 (p9 * i) (by omega) (by decide) (v := (lN (a (p9 * i)))) (va _ (by omega)) dX0_putImage_54 ?_
        refine lv_lload hx hb dX0_putImage_55 (lv_at hl 0 rfl) ?_
        refine n_ladd hx hb dX0_putImage_57 ?_
        refine n_ldc2 B hw_247 (x := lN 1000003) (by decide) dX0_putImage_58 ?_
        refine n_lrem hx hb (by omega) (by omega) (by omega) dX0_putImage_61 ?_
        refine z_last B hW (kr) (by omega) h2 (i) (by omega) (by decide) dX0_putImage_62 (fun H locs hW => ?_)
        refine lv_iinc (v := (nI (i + 1))) (lv' := [(7, .int (nI (i + 1))), (8, .long (lN (mo))), (5, .long (lN (p9 ^ (k - 1) % 1000003))), (0, .ref (ad (2))), (1, .int (nI (k))), (2, .ref (ad (ka))), (3, .int (nI (p9))), (4, .ref (ad (kr)))]) hx hb dX0_putImage_63 hl (k := 1) rfl (iinc1 _) (by decide) rfl (fun ls hl => ?_)
        refine lv_goto (tgt := 13) hx hb dX0_putImage_66 (by decide) ?_
        refine ih H locs ls ⟨_, _, hW, lv_sub hl [0, 2, 3, 4, 5, 6, 7] rfl, fun j hj => by rw [up_n hj]; exact h1 j hj, up_s, fun j hj => ?_⟩
        by_cases q : j = i
        · rw [q, pk_uLs]; unfold imgS; rw [hmo, if_pos hd]
        · rw [pk_uLn q]; exact h3 j (by omega)
  · rintro H locs ls ⟨w2, f, hW, hl, h1, h2, h3⟩
    refine lv_iload hx hb dX0_putImage_13 (lv_at hl 0 rfl) ?_
    refine lv_aload_n hx hb dX0_putImage_15 rfl (lv_at hl 2 rfl) ?_
    refine lv_iload_n hx hb dX0_putImage_16 rfl (lv_at hl 3 rfl) ?_
    have hB2 : BOK G ad w2 nf cu := hB.keep (fun j q1 q2 => h1 j (by omega))
    obtain ⟨b2, -⟩ := id hB2
    refine call_vi B hA hW (2) (by omega) b2 (r := _) rfl rfl (k_sizeOf l G n ad w2 k nf cu hn hk hB2) mf_X0_sizeOf hw_224 rfl ⟨⟨rfl, rfl⟩, by decide, by decide⟩ ⟨Nat.zero_le _, Nat.zero_le _⟩ hl.1 rfl (Nat.le_of_ble_eq_true rfl) dX0_putImage_17 (fun r w9 H locs hp hW => ?_)
    obtain ⟨e1, e2⟩ := hp
    rw [e1] at hW
    subst e2
    refine n_icmp_ge (tgt := 69) hx hb (by omega) (by omega) dX0_putImage_20 (by decide) (fun hc => ?_) (fun hc => ?_)
    · exact ret_v B hr hlk hW ⟨h1, f, h2, h3⟩ dX0_putImage_69
    · omega
end
section
/-! ===== pure: brackets, slopes ===== -/
theorem nI_m1 {j : Nat} (h : j < 2 ^ 31) : ¬ nI j = -1 := fun q => by
  have h1 := nI_pos h
  rw [q] at h1
  exact h1 (by decide)
def thS (a : Nat → Nat) (n : Nat) : Nat := n * a n % 1000003
/-- the bracket, the model's way -/
def brS (k l : Nat) (a b : Nat → Nat) (n : Nat) : Nat := (k * mulS a (thS b) n + (1000003 - l) * mulS (thS a) b n) % 1000003
/-- ... and the class's sum -/
def brZ (k l : Nat) (a b : Nat → Nat) (n : Nat) : Nat → Int
  | 0 => 0
  | t + 1 => brZ k l a b n t + ((a t * b (n - t) % 1000003 : Nat) : Int) * ((k * (n - t) : Nat) - (l * t : Nat))
theorem brZ_cv (k l : Nat) (a b : Nat → Nat) (n : Nat) : ∀ t, ∃ q : Int, brZ k l a b n t = (k : Int) * (cv a (thS b) n t : Nat) - (l : Int) * (cv (thS a) b n t : Nat) + 1000003 * q
  | 0 => ⟨0, by simp [brZ, cv]⟩
  | t + 1 => by
    obtain ⟨q, hq⟩ := brZ_cv k l a b n t
    show ∃ q' : Int, brZ k l a b n t + ((a t * b (n - t) % 1000003 : Nat) : Int) * ((k * (n - t) : Nat) - (l * t : Nat)) = (k : Int) * (cv a (thS b) n t + a t * thS b (n - t) : Nat) - (l : Int) * (cv (thS a) b n t + thS a t * b (n - t) : Nat) + 1000003 * q'
    rw [hq]
    unfold thS
    have e1 := Nat.div_add_mod (a t * b (n - t)) 1000003
    have e2 := Nat.div_add_mod ((n - t) * b (n - t)) 1000003
    have e3 := Nat.div_add_mod (t * a t) 1000003
    generalize a t * b (n - t) / 1000003 = q1 at e1
    generalize a t * b (n - t) % 1000003 = r1 at e1 ⊢
    generalize (n - t) * b (n - t) / 1000003 = q2 at e2
    generalize (n - t) * b (n - t) % 1000003 = r2 at e2 ⊢
    generalize t * a t / 1000003 = q3 at e3
    generalize t * a t % 1000003 = r3 at e3 ⊢
    generalize cv a (thS b) n t = X
    generalize cv (thS a) b n t = Y
    generalize n - t = j at e1 e2 ⊢
    have f1 : (1000003 : Int) * q1 + r1 = (a t : Int) * (b j : Int) := by rw [← Int.natCast_mul]; omega
    have f2 : (1000003 : Int) * q2 + r2 = (j : Int) * (b j : Int) := by rw [← Int.natCast_mul]; omega
    have f3 : (1000003 : Int) * q3 + r3 = (t : Int) * (a t : Int) := by rw [← Int.natCast_mul]; omega
    refine ⟨q - (q1 : Int) * ((k : Int) * j - l * t) + (k : Int) * a t * q2 - (l : Int) * q3 * b j, ?_⟩
    push_cast
    have g1 : (r1 : Int) = (a t : Int) * (b j : Int) - 1000003 * q1 := by omega
    have g2 : (r2 : Int) = (j : Int) * (b j : Int) - 1000003 * q2 := by omega
    have g3 : (r3 : Int) = (t : Int) * (a t : Int) - 1000003 * q3 := by omega
    rw [g1, g2, g3]
    grind
theorem brZ_zm {k l : Nat} {a b : Nat → Nat} {n : Nat} (hl : l ≤ 1000003) : zm (brZ k l a b n (n + 1)) = brS k l a b n := by
  obtain ⟨q, hq⟩ := brZ_cv k l a b n (n + 1)
  rw [hq]
  unfold brS mulS zm
  have e1 := Nat.div_add_mod (cv a (thS b) n (n + 1)) 1000003
  have e2 := Nat.div_add_mod (cv (thS a) b n (n + 1)) 1000003
  generalize cv a (thS b) n (n + 1) / 1000003 = q1 at e1
  generalize cv a (thS b) n (n + 1) % 1000003 = r1 at e1 ⊢
  generalize cv (thS a) b n (n + 1) / 1000003 = q2 at e2
  generalize cv (thS a) b n (n + 1) % 1000003 = r2 at e2 ⊢
  rw [← e1, ← e2]
  have h1 : (1000003 - l) * r2 = 1000003 * r2 - l * r2 := Nat.sub_mul _ _ _
  have h2 : l * r2 ≤ 1000003 * r2 := Nat.mul_le_mul_right _ hl
  rw [h1]
  have h3 : (k : Int) * ((1000003 * q1 + r1 : Nat) : Int) - (l : Int) * ((1000003 * q2 + r2 : Nat) : Int) + 1000003 * q = ((k * r1 : Nat) : Int) - ((l * r2 : Nat) : Int) + 1000003 * ((k : Int) * q1 - l * q2 + q) := by
    have hX : ((1000003 * q1 + r1 : Nat) : Int) = 1000003 * (q1 : Int) + r1 := by omega
    have hY : ((1000003 * q2 + r2 : Nat) : Int) = 1000003 * (q2 : Int) + r2 := by omega
    rw [hX, hY, Int.natCast_mul, Int.natCast_mul]
    grind
  rw [h3]
  generalize (k : Int) * q1 - l * q2 + q = Q
  generalize k * r1 = A at *
  generalize l * r2 = C at *
  omega
theorem brZ_le {k l : Nat} {a b : Nat → Nat} {n : Nat} (hk : k ≤ 40) (hl : l ≤ 40) (hn : n < 48) : ∀ t, t ≤ n + 1 → -((t : Int) * 2000000000) ≤ brZ k l a b n t ∧ brZ k l a b n t ≤ (t : Int) * 2000000000
  | 0, _ => by simp [brZ]
  | t + 1, h => by
    have ih := brZ_le (a := a) (b := b) hk hl hn t (by omega)
    have h1 : k * (n - t) ≤ 40 * 47 := Nat.mul_le_mul hk (by omega)
    have h2 : l * t ≤ 40 * 47 := Nat.mul_le_mul hl (by omega)
    have h3 := Nat.mod_lt (a t * b (n - t)) (show 0 < 1000003 by decide)
    show _ ≤ brZ k l a b n t + ((a t * b (n - t) % 1000003 : Nat) : Int) * ((k * (n - t) : Nat) - (l * t : Nat)) ∧ brZ k l a b n t + ((a t * b (n - t) % 1000003 : Nat) : Int) * ((k * (n - t) : Nat) - (l * t : Nat)) ≤ _
    generalize a t * b (n - t) % 1000003 = r at h3 ⊢
    generalize k * (n - t) = x at h1 ⊢
    generalize l * t = y at h2 ⊢
    have h4 : (r : Int) * ((x : Int) - (y : Int)) = ((r * x : Nat) : Int) - ((r * y : Nat) : Int) := by push_cast; rw [Int.mul_sub]
    rw [h4]
    have h5 : r * x ≤ 1000002 * 1880 := Nat.mul_le_mul (by omega) (by omega)
    have h6 : r * y ≤ 1000002 * 1880 := Nat.mul_le_mul (by omega) (by omega)
    generalize r * x = u at h5 ⊢
    generalize r * y = v at h6 ⊢
    push_cast
    omega
end
section
set_option maxHeartbeats 4000000 in
set_option maxRecDepth 100000 in
theorem k_ratio (l : Launch) (G : zG) (n : Nat) (ad : Nat → Nat) (w : Nat → va_E) (kb ka z : Nat) (a b : Nat → Nat) (hkb : kb < n) (hka : ka < n) (hz : z ≤ 4) (fb : Nat → Int64) (eb : w kb = eL G 4 fb) (vb : ∀ i, i < z → fb i = lN (b i)) (rb : ∀ i, i < z → b i < 1000003) (ha : isL G w ka 48 a) (ra : sM a) :
    Ci l G yX3_ratio cdX3_ratio (zr 3) n ad w [.ref (ad kb), .ref (ad ka), .int (nI z)] (fun r w' => w' = w ∧ ratR b a z r) := by
  obtain ⟨fa, ea, va⟩ := id ha
  refine ent_i (cc := cX3_ratio) (maxL := 7) (ret := (some .int)) (by decide +kernel) rfl (Nat.le_of_ble_eq_true rfl) ?_
  intro p e s m args below meth c A B hr hlk hA H locs ls hW hl
  have hx := B.1
  have hb := B.2.1
  have hl : lv_has ls 7 [(0, .ref (ad (kb))), (1, .ref (ad (ka))), (2, .int (nI (z)))] := hl
  refine lv_aload_n hx hb dX3_ratio_0 rfl (lv_at hl 1 rfl) ?_
  refine call_si B hA hW (k_leastPlace l G n ad w ka a hka ha ra) mf_X3_leastPlace hw_310 rfl ⟨⟨rfl, rfl⟩, by decide, by decide⟩ ⟨Nat.zero_le _, Nat.zero_le _⟩ hl.1 rfl (Nat.le_of_ble_eq_true rfl) dX3_ratio_1 (fun r w9 H locs hp hW => ?_)
  obtain ⟨e1, hr9⟩ := hp
  rw [e1] at hW
  rcases hr9 with ⟨rfl, hall⟩ | ⟨j, rfl, hj⟩
  · refine lv_istore_n (lv' := [(3, .int (-1)), (0, .ref (ad (kb))), (1, .ref (ad (ka))), (2, .int (nI (z)))]) hx hb dX3_ratio_4 rfl hl (by decide) rfl (fun ls hl => ?_)
    refine lv_iload_n hx hb dX3_ratio_5 rfl (lv_at hl 0 rfl) ?_
    refine lv_iconst (v := -1) hx hb dX3_ratio_6 (by decide) ?_
    refine lv_icmp_eq (tgt := 15) hx hb dX3_ratio_7 (by decide) (fun hc => ?_) (fun hc => ?_)
    · refine lv_iconst (v := -1) hx hb dX3_ratio_15 (by decide) ?_
      exact ret_i B hr hlk hW ⟨rfl, Or.inr ⟨rfl, Or.inl hall⟩⟩ dX3_ratio_16
    · exact absurd rfl hc
  · obtain ⟨hj48, hj0, hjl⟩ := id hj
    refine lv_istore_n (lv' := [(3, .int (nI (j))), (0, .ref (ad (kb))), (1, .ref (ad (ka))), (2, .int (nI (z)))]) hx hb dX3_ratio_4 rfl hl (by decide) rfl (fun ls hl => ?_)
    refine lv_iload_n hx hb dX3_ratio_5 rfl (lv_at hl 0 rfl) ?_
    refine lv_iconst (v := -1) hx hb dX3_ratio_6 (by decide) ?_
    refine lv_icmp_eq (tgt := 15) hx hb dX3_ratio_7 (by decide) (fun hc => ?_) (fun hc => ?_)
    · exact absurd hc (nI_m1 (by omega))
    · refine lv_iload_n hx hb dX3_ratio_10 rfl (lv_at hl 0 rfl) ?_
      refine lv_iload_n hx hb dX3_ratio_11 rfl (lv_at hl 3 rfl) ?_
      refine n_icmp_lt (tgt := 17) hx hb (by omega) (by omega) dX3_ratio_12 (by decide) (fun hd => ?_) (fun hd => ?_)
      · refine lv_aload_n hx hb dX3_ratio_17 rfl (lv_at hl 1 rfl) ?_
        refine lv_iload_n hx hb dX3_ratio_18 rfl (lv_at hl 0 rfl) ?_
        refine z_lald B hW (kb) (by omega) eb (j) (by omega) (by decide) (v := (lZ ((b (j) : Nat)))) (by rw [vb _ (by omega), lN_Z]) dX3_ratio_19 ?_
        refine lv_aload_n hx hb dX3_ratio_20 rfl (lv_at hl 2 rfl) ?_
        refine lv_iload_n hx hb dX3_ratio_21 rfl (lv_at hl 0 rfl) ?_
        refine z_lald B hW (ka) (by omega) ea (j) (by omega) (by decide) (v := (lZ ((a (j) : Nat)))) (by rw [va _ (by omega), lN_Z]) dX3_ratio_22 ?_
        have raj := ra j hj48
        have rbj := rb j hd
        refine call_sl B hA hW (k_quotient l G n ad w (b j : Nat) (a j : Nat) (by omega) (by omega) (by omega) (by omega)) mf_X2_quotient hw_311 rfl ⟨⟨rfl, rfl⟩, by decide, by decide⟩ ⟨Nat.zero_le _, Nat.zero_le _⟩ hl.1 rfl (Nat.le_of_ble_eq_true rfl) dX3_ratio_23 (fun r w9 H locs hp hW => ?_)
        obtain ⟨e1, e2⟩ := hp
        rw [e1] at hW
        subst e2
        obtain ⟨L, hL⟩ : ∃ L, L = b j * invM (a j) % 1000003 := ⟨_, rfl⟩
        have hLl : L < 1000003 := by rw [hL]; exact Nat.mod_lt _ (by decide)
        refine topl (y := (lN (L))) (by rw [hL, zm_nat, zm_nat, Nat.mod_eq_of_lt raj, Nat.mod_eq_of_lt rbj]; rfl) ?_
        refine lv_lstore (lv' := [(4, .long (lN (L))), (3, .int (nI (j))), (0, .ref (ad (kb))), (1, .ref (ad (ka))), (2, .int (nI (z)))]) hx hb dX3_ratio_26 hl (by decide) rfl (fun ls hl => ?_)
        refine lv_iconst (v := nI 0) hx hb dX3_ratio_28 (by decide) ?_
        refine lv_istore (lv' := [(6, .int (nI (0))), (4, .long (lN (L))), (3, .int (nI (j))), (0, .ref (ad (kb))), (1, .ref (ad (ka))), (2, .int (nI (z)))]) hx hb dX3_ratio_29 hl (by decide) rfl (fun ls hl => ?_)
        refine z_up1 (Wg := fun ls => W p l e (zr 3) s m args below meth c H locs 0 0 _ (F0 m 31 ls [])) (I := fun i ls => lv_has ls 7 [(6, .int (nI i)), (4, .long (lN L)), (3, .int (nI j)), (0, .ref (ad kb)), (1, .ref (ad ka)), (2, .int (nI z))] ∧ ∀ i', i' < i → b i' = L * a i' % 1000003) (a := 0) (b := z) (Nat.zero_le _) ?_ ?_ ls ⟨hl, fun i' h => by omega⟩
        · rintro i - hi ih ls ⟨hl, h1⟩
          refine lv_iload hx hb dX3_ratio_31 (lv_at hl 0 rfl) ?_
          refine lv_iload_n hx hb dX3_ratio_33 rfl (lv_at hl 5 rfl) ?_
          refine n_icmp_ge (tgt := 64) hx hb (by omega) (by omega) dX3_ratio_34 (by decide) (fun hc => ?_) (fun hc => ?_)
          · omega
          · have hll := mul_lt hLl (ra i (by omega))
            refine lv_aload_n hx hb dX3_ratio_37 rfl (lv_at hl 3 rfl) ?_
            refine lv_iload hx hb dX3_ratio_38 (lv_at hl 0 rfl) ?_
            refine z_lald B hW (kb) (by omega) eb (i) (by omega) (by decide) (v := (lN (b (i)))) (vb _ (by omega)) dX3_ratio_40 ?_
            refine lv_lload hx hb dX3_ratio_41 (lv_at hl 1 rfl) ?_
            refine lv_aload_n hx hb dX3_ratio_43 rfl (lv_at hl 4 rfl) ?_
            refine lv_iload hx hb dX3_ratio_44 (lv_at hl 0 rfl) ?_
            refine z_lald B hW (ka) (by omega) ea (i) (by omega) (by decide) (v := (lN (a (i)))) (va _ (by omega)) dX3_ratio_46 ?_
            refine n_lmul hx hb dX3_ratio_47 ?_
            refine n_ldc2 B hw_42 (x := lN 1000003) (by decide) dX3_ratio_48 ?_
            refine n_lrem hx hb (by omega) (by omega) (by omega) dX3_ratio_51 ?_
            refine lc_eq (tgt := 58) hx hb dX3_ratio_52 dX3_ratio_53 (by decide) (fun he => ?_) (fun he => ?_)
            · have h0 : b i = L * a i % 1000003 := (lN_inj (rb i hi) (Nat.mod_lt _ (by decide))).mp he
              refine lv_iinc (v := (nI (i + 1))) (lv' := [(6, .int (nI (i + 1))), (4, .long (lN (L))), (3, .int (nI (j))), (0, .ref (ad (kb))), (1, .ref (ad (ka))), (2, .int (nI (z)))]) hx hb dX3_ratio_58 hl (k := 0) rfl (iinc1 _) (by decide) rfl (fun ls hl => ?_)
              refine lv_goto (tgt := 31) hx hb dX3_ratio_61 (by decide) ?_
              exact ih ls ⟨hl, fun i' hi' => by
                by_cases q : i' = i
                · rw [q]; exact h0
                · exact h1 i' (by omega)⟩
            · refine lv_iconst (v := -1) hx hb dX3_ratio_56 (by decide) ?_
              exact ret_i B hr hlk hW ⟨rfl, Or.inr ⟨rfl, Or.inr ⟨j, hj, Or.inr ⟨i, hi, fun q => he (by rw [q, hL])⟩⟩⟩⟩ dX3_ratio_57
        · rintro ls ⟨hl, h1⟩
          refine lv_iload hx hb dX3_ratio_31 (lv_at hl 0 rfl) ?_
          refine lv_iload_n hx hb dX3_ratio_33 rfl (lv_at hl 5 rfl) ?_
          refine n_icmp_ge (tgt := 64) hx hb (by omega) (by omega) dX3_ratio_34 (by decide) (fun hc => ?_) (fun hc => ?_)
          · refine lv_lload hx hb dX3_ratio_64 (lv_at hl 1 rfl) ?_
            refine n_l2i hx hb dX3_ratio_66 ?_
            exact ret_i B hr hlk hW ⟨rfl, Or.inl ⟨j, hj, hd, by rw [hL], fun i hi => by rw [← hL]; exact h1 i hi⟩⟩ dX3_ratio_67
          · omega
      · refine lv_iconst (v := -1) hx hb dX3_ratio_15 (by decide) ?_
        exact ret_i B hr hlk hW ⟨rfl, Or.inr ⟨rfl, Or.inr ⟨j, hj, Or.inl hd⟩⟩⟩ dX3_ratio_16
set_option maxHeartbeats 4000000 in
set_option maxRecDepth 100000 in
theorem k_putBracket (l : Launch) (G : zG) (n : Nat) (ad : Nat → Nat) (w : Nat → va_E) (kf kg af ag kr wf wg : Nat) (x1 x2 y1 y2 : Int32) (a b : Nat → Nat) (hkf : kf < n) (hkg : kg < n) (haf : af < n) (hag : ag < n) (hkr : kr < n) (hwf : wf ≤ 40) (hwg : wg ≤ 40) (ef : w kf = eO 1 [.ref (ad af), .int (nI wf), .int x1, .int x2]) (eg : w kg = eO 1 [.ref (ad ag), .int (nI wg), .int y1, .int y2]) (ha : isL G w af 48 a) (hb0 : isL G w ag 48 b) (ra : sM a) (rb : sM b) (hr0 : ∃ f, w kr = eL G 48 f) (n1 : af ≠ kr) (n2 : ag ≠ kr) (n3 : kf ≠ kr) (n4 : kg ≠ kr) :
    Cv l G yX1_putBracket cdX1_putBracket (zr 2) n ad w [.ref (ad kf), .ref (ad kg), .ref (ad kr)] (fun w' => (∀ j, j ≠ kr → w' j = w j) ∧ isL G w' kr 48 (brS wf wg a b)) := by
  obtain ⟨fr, er⟩ := hr0
  obtain ⟨fa, ea, va⟩ := ha
  obtain ⟨fb, eb, vb⟩ := hb0
  refine ent_v (cc := cX1_putBracket) (maxL := 8) (ret := none) (by decide +kernel) rfl (Nat.le_of_ble_eq_true rfl) ?_
  intro p e s m args below meth c A B hr hlk hA H locs ls hW hl
  have hx := B.1
  have hb := B.2.1
  have hl : lv_has ls 8 [(0, .ref (ad (kf))), (1, .ref (ad (kg))), (2, .ref (ad (kr)))] := hl
  refine lv_iconst (v := nI 0) hx hb dX1_putBracket_0 (by decide) ?_
  refine lv_istore_n (lv' := [(3, .int (nI (0))), (0, .ref (ad (kf))), (1, .ref (ad (kg))), (2, .ref (ad (kr)))]) hx hb dX1_putBracket_1 rfl hl (by decide) rfl (fun ls hl => ?_)
  refine z_up (Wg := fun H locs ls => W p l e (zr 2) s m args below meth c H locs 0 0 _ (F0 m 2 ls [])) (I := fun i H locs ls => ∃ (w2 : Nat → va_E) (f : Nat → Int64), Wo G A s.heap n ad w2 H locs ∧ lv_has ls 8 [(3, .int (nI i)), (0, .ref (ad kf)), (1, .ref (ad kg)), (2, .ref (ad kr))] ∧ (∀ j, j ≠ kr → w2 j = w j) ∧ w2 kr = eL G 48 f ∧ (∀ j, j < i → f j = lN (brS wf wg a b j))) (a := 0) (b := 48) (Nat.zero_le _) ?_ ?_ H locs ls ⟨w, fr, hW, hl, fun _ _ => rfl, er, fun j h => by omega⟩
  · rintro i - hi ih H locs ls ⟨w2, f, hW, hl, h1, h2, h3⟩
    have ef2 := (h1 kf n3).trans ef
    have eg2 := (h1 kg n4).trans eg
    have ea2 := (h1 af n1).trans ea
    have eb2 := (h1 ag n2).trans eb
    refine lv_iload_n hx hb dX1_putBracket_2 rfl (lv_at hl 0 rfl) ?_
    refine lv_bipush (v := nI 48) hx hb dX1_putBracket_3 (by decide) ?_
    refine n_icmp_ge (tgt := 87) hx hb (by omega) (by omega) dX1_putBracket_5 (by decide) (fun hc => ?_) (fun hc => ?_)
    · omega
    · refine lv_lconst (v := lZ 0) hx hb dX1_putBracket_8 (by decide) ?_
      refine lv_lstore (lv' := [(4, .long (lZ (0))), (3, .int (nI (i))), (0, .ref (ad (kf))), (1, .ref (ad (kg))), (2, .ref (ad (kr)))]) hx hb dX1_putBracket_9 hl (by decide) rfl (fun ls hl => ?_)
      refine lv_iconst (v := nI 0) hx hb dX1_putBracket_11 (by decide) ?_
      refine lv_istore (lv' := [(6, .int (nI (0))), (4, .long (lZ (0))), (3, .int (nI (i))), (0, .ref (ad (kf))), (1, .ref (ad (kg))), (2, .ref (ad (kr)))]) hx hb dX1_putBracket_12 hl (by decide) rfl (fun ls hl => ?_)
      refine z_up1 (Wg := fun ls => W p l e (zr 2) s m args below meth c H locs 0 0 _ (F0 m 14 ls [])) (I := fun t ls => lv_has ls 8 [(6, .int (nI t)), (4, .long (lZ (brZ wf wg a b i t))), (3, .int (nI i)), (0, .ref (ad kf)), (1, .ref (ad kg)), (2, .ref (ad kr))]) (a := 0) (b := i + 1) (Nat.zero_le _) ?_ ?_ ls hl
      · rintro t - ht ih2 ls hl
        have hm1 := mul_lt (ra t (by omega)) (rb (i - t) (by omega))
        have hm2 : wf * (i - t) ≤ 40 * 47 := Nat.mul_le_mul hwf (by omega)
        have hm3 : wg * t ≤ 40 * 47 := Nat.mul_le_mul hwg (by omega)
        refine lv_iload hx hb dX1_putBracket_14 (lv_at hl 0 rfl) ?_
        refine lv_iload_n hx hb dX1_putBracket_16 rfl (lv_at hl 2 rfl) ?_
        refine n_icmp_gt (tgt := 73) hx hb (by omega) (by omega) dX1_putBracket_17 (by decide) (fun hc => ?_) (fun hc => ?_)
        · omega
        · refine lv_iload_n hx hb dX1_putBracket_20 rfl (lv_at hl 2 rfl) ?_
          refine lv_iload hx hb dX1_putBracket_21 (lv_at hl 0 rfl) ?_
          refine n_isub hx hb (by omega) dX1_putBracket_23 ?_
          refine lv_istore (lv' := [(7, .int (nI (i - t))), (6, .int (nI (t))), (4, .long (lZ (brZ wf wg a b i t))), (3, .int (nI (i))), (0, .ref (ad (kf))), (1, .ref (ad (kg))), (2, .ref (ad (kr)))]) hx hb dX1_putBracket_24 hl (by decide) rfl (fun ls hl => ?_)
          refine lv_lload hx hb dX1_putBracket_26 (lv_at hl 2 rfl) ?_
          refine lv_aload_n hx hb dX1_putBracket_28 rfl (lv_at hl 4 rfl) ?_
          refine z_get B hW (kf) (by omega) ef2 rfl inX1 0 (by decide) hw_97 rfl (v := .ref (ad (af))) rfl dX1_putBracket_29 ?_
          refine lv_iload hx hb dX1_putBracket_32 (lv_at hl 1 rfl) ?_
          refine z_lald B hW (af) (by omega) ea2 (t) (by omega) (by decide) (v := (lN (a (t)))) (va _ (by omega)) dX1_putBracket_34 ?_
          refine lv_aload_n hx hb dX1_putBracket_35 rfl (lv_at hl 5 rfl) ?_
          refine z_get B hW (kg) (by omega) eg2 rfl inX1 0 (by decide) hw_97 rfl (v := .ref (ad (ag))) rfl dX1_putBracket_36 ?_
          refine lv_iload hx hb dX1_putBracket_39 (lv_at hl 0 rfl) ?_
          refine z_lald B hW (ag) (by omega) eb2 (i - t) (by omega) (by decide) (v := (lN (b (i - t)))) (vb _ (by omega)) dX1_putBracket_41 ?_
          refine n_lmul hx hb dX1_putBracket_42 ?_
          refine n_ldc2 B hw_214 (x := lN 1000003) (by decide) dX1_putBracket_43 ?_
          refine n_lrem hx hb (by omega) (by omega) (by omega) dX1_putBracket_46 ?_
          refine topl (y := (lZ (((a t * b (i - t) % 1000003 : Nat) : Int)))) (lN_Z _) ?_
          refine lv_aload_n hx hb dX1_putBracket_47 rfl (lv_at hl 4 rfl) ?_
          refine z_get B hW (kf) (by omega) ef2 rfl inX1 1 (by decide) hw_99 rfl (v := .int (nI (wf))) rfl dX1_putBracket_48 ?_
          refine lv_iload hx hb dX1_putBracket_51 (lv_at hl 0 rfl) ?_
          refine n_imul hx hb dX1_putBracket_53 ?_
          refine topi (y := (iZ (((wf * (i - t) : Nat) : Int)))) (nI_Z _) ?_
          refine lv_aload_n hx hb dX1_putBracket_54 rfl (lv_at hl 5 rfl) ?_
          refine z_get B hW (kg) (by omega) eg2 rfl inX1 1 (by decide) hw_99 rfl (v := .int (nI (wg))) rfl dX1_putBracket_55 ?_
          refine lv_iload hx hb dX1_putBracket_58 (lv_at hl 1 rfl) ?_
          refine n_imul hx hb dX1_putBracket_60 ?_
          refine topi (y := (iZ (((wg * t : Nat) : Int)))) (nI_Z _) ?_
          refine z_isub hx hb dX1_putBracket_61 ?_
          refine z_i2l hx hb (by omega) (by omega) dX1_putBracket_62 ?_
          refine z_lmul hx hb dX1_putBracket_63 ?_
          refine z_ladd hx hb dX1_putBracket_64 ?_
          refine lv_lstore (lv' := [(4, .long (lZ ((brZ wf wg a b i t) + (((a t * b (i - t) % 1000003 : Nat) : Int) * (((wf * (i - t) : Nat) : Int) - ((wg * t : Nat) : Int)))))), (7, .int (nI (i - t))), (6, .int (nI (t))), (3, .int (nI (i))), (0, .ref (ad (kf))), (1, .ref (ad (kg))), (2, .ref (ad (kr)))]) hx hb dX1_putBracket_65 hl (by decide) rfl (fun ls hl => ?_)
          refine lv_iinc (v := (nI (t + 1))) (lv' := [(6, .int (nI (t + 1))), (4, .long (lZ ((brZ wf wg a b i t) + (((a t * b (i - t) % 1000003 : Nat) : Int) * (((wf * (i - t) : Nat) : Int) - ((wg * t : Nat) : Int)))))), (7, .int (nI (i - t))), (3, .int (nI (i))), (0, .ref (ad (kf))), (1, .ref (ad (kg))), (2, .ref (ad (kr)))]) hx hb dX1_putBracket_67 hl (k := 2) rfl (iinc1 _) (by decide) rfl (fun ls hl => ?_)
          refine lv_goto (tgt := 14) hx hb dX1_putBracket_70 (by decide) ?_
          exact ih2 ls (lv_sub hl [0, 1, 3, 4, 5, 6] rfl)
      · rintro ls hl
        have hle := brZ_le (a := a) (b := b) hwf hwg hi (i + 1) (Nat.le_refl _)
        refine lv_iload hx hb dX1_putBracket_14 (lv_at hl 0 rfl) ?_
        refine lv_iload_n hx hb dX1_putBracket_16 rfl (lv_at hl 2 rfl) ?_
        refine n_icmp_gt (tgt := 73) hx hb (by omega) (by omega) dX1_putBracket_17 (by decide) (fun hc => ?_) (fun hc => ?_)
        · refine lv_aload_n hx hb dX1_putBracket_73 rfl (lv_at hl 5 rfl) ?_
          refine lv_iload_n hx hb dX1_putBracket_74 rfl (lv_at hl 2 rfl) ?_
          refine lv_lload hx hb dX1_putBracket_75 (lv_at hl 1 rfl) ?_
          refine call_sl B hA hW (k_rest l G n ad w2 (brZ wf wg a b i (i + 1)) (by omega) (by omega)) mf_X2_rest hw_215 rfl ⟨⟨rfl, rfl⟩, by decide, by decide⟩ ⟨Nat.zero_le _, Nat.zero_le _⟩ hl.1 rfl (Nat.le_of_ble_eq_true rfl) dX1_putBracket_77 (fun r w9 H locs hp hW => ?_)
          obtain ⟨e1, e2⟩ := hp
          rw [e1] at hW
          subst e2
          refine z_last B hW (kr) (by omega) h2 (i) (by omega) (by decide) dX1_putBracket_80 (fun H locs hW => ?_)
          rw [brZ_zm (by omega)] at hW
          refine lv_iinc (v := (nI (i + 1))) (lv' := [(3, .int (nI (i + 1))), (6, .int (nI (i + 1))), (4, .long (lZ (brZ wf wg a b i (i + 1)))), (0, .ref (ad (kf))), (1, .ref (ad (kg))), (2, .ref (ad (kr)))]) hx hb dX1_putBracket_81 hl (k := 2) rfl (iinc1 _) (by decide) rfl (fun ls hl => ?_)
          refine lv_goto (tgt := 2) hx hb dX1_putBracket_84 (by decide) ?_
          refine ih H locs ls ⟨_, _, hW, lv_sub hl [0, 3, 4, 5] rfl, fun j hj => by rw [up_n hj]; exact h1 j hj, up_s, fun j hj => ?_⟩
          by_cases q : j = i
          · rw [q, pk_uLs]
          · rw [pk_uLn q]; exact h3 j (by omega)
        · omega
  · rintro H locs ls ⟨w2, f, hW, hl, h1, h2, h3⟩
    refine lv_iload_n hx hb dX1_putBracket_2 rfl (lv_at hl 0 rfl) ?_
    refine lv_bipush (v := nI 48) hx hb dX1_putBracket_3 (by decide) ?_
    refine n_icmp_ge (tgt := 87) hx hb (by omega) (by omega) dX1_putBracket_5 (by decide) (fun hc => ?_) (fun hc => ?_)
    · exact ret_v B hr hlk hW ⟨h1, f, h2, h3⟩ dX1_putBracket_87
    · omega
end
section
/-! ===== the state that both sides hold, and what each call does to it ===== -/
/-- forms held; their weights, kinds, what was told of them, their series; refusals; the row's length, if it is there, and its numbers -/
abbrev zS : Type := Nat × (Nat → Nat) × (Nat → Nat) × (Nat → Nat) × (Nat → Nat → Nat) × (Nat → Int32) × Option Nat × (Nat → Nat)
def sH (σ : zS) : Nat := σ.1
def sW (σ : zS) : Nat → Nat := σ.2.1
def sK (σ : zS) : Nat → Nat := σ.2.2.1
def sT (σ : zS) : Nat → Nat := σ.2.2.2.1
def sE (σ : zS) : Nat → Nat → Nat := σ.2.2.2.2.1
def sF (σ : zS) : Nat → Int32 := σ.2.2.2.2.2.1
def sR (σ : zS) : Option Nat := σ.2.2.2.2.2.2.1
def sV (σ : zS) : Nat → Nat := σ.2.2.2.2.2.2.2
noncomputable def cif {α : Type} (P : Prop) (a b : α) : α := @ite α P (Classical.propDecidable P) a b
theorem cif_t {α : Type} {P : Prop} {a b : α} (h : P) : cif P a b = a := if_pos h
theorem cif_f {α : Type} {P : Prop} {a b : α} (h : ¬ P) : cif P a b = b := if_neg h
noncomputable def theI (R : Int32 → Prop) : Int32 := Classical.epsilon R
theorem theI_eq {R : Int32 → Prop} {r : Int32} (h : R r) (u : ∀ a b, R a → R b → a = b) : r = theI R := u _ _ h (Classical.epsilon_spec ⟨r, h⟩)
def isF (h : Nat) (x : Int32) : Prop := ∃ j, j < h ∧ x = nI j
def cN (x : Int32) : Nat := x.toNatClampNeg
theorem cN_nI {j : Nat} (h : j < 2 ^ 31) : cN (nI j) = j := nI_clamp h
def rlI : Option Nat → Int32
  | none => -1
  | some n => nI n
/-- a refusal: counted -/
def ref (σ : zS) (c : Nat) : Int32 × zS := (-(nI c), sH σ, sW σ, sK σ, sT σ, sE σ, upd (sF σ) c (sF σ c + 1), sR σ, sV σ)
def push (σ : zS) (k kd td : Nat) (a : Nat → Nat) : zS := (sH σ + 1, va_up (sW σ) (sH σ) k, va_up (sK σ) (sH σ) kd, va_up (sT σ) (sH σ) td, va_up (sE σ) (sH σ) a, sF σ, sR σ, sV σ)
def come (σ : zS) (k kd td : Nat) (a : Nat → Nat) : Int32 × zS := if sH σ < 16 ∧ k ≤ 40 then (nI (sH σ), push σ k kd td a) else ref σ 8
def knd (k : Nat) (a : Nat → Nat) : Nat := if k = 0 then 3 else if a 0 = 0 then 4 else 0
def comeO (σ : zS) (k : Nat) (a : Nat → Nat) : Int32 × zS := come σ k (knd k a) 0 a
def spn (k : Nat) (a : Nat → Nat) : Prop := ∀ n, n < 48 → a n = bld (bas k) (zs k) (prt (bas k) a) n
def FOK (k kd td : Nat) (a : Nat → Nat) : Prop := k ≤ 40 ∧ k % 2 = 0 ∧ kd ≤ 4 ∧ td ≤ 40 ∧ red a ∧ spn k a
def SOK (σ : zS) : Prop := sH σ ≤ 16 ∧ (∀ i, i < sH σ → FOK (sW σ i) (sK σ i) (sT σ i) (sE σ i)) ∧ ∀ m, sR σ = some m → m ≤ 48 ∧ ∀ i, i < m → sV σ i < 1000003
theorem SOK.ref1 {σ : zS} (h : SOK σ) (c : Nat) : SOK (ref σ c).2 := h
theorem SOK.push1 {σ : zS} (h : SOK σ) {k kd td : Nat} {a : Nat → Nat} (hh : sH σ < 16) (hF : FOK k kd td a) : SOK (push σ k kd td a) := by
  refine ⟨Nat.succ_le_of_lt hh, fun i hi => ?_, h.2.2⟩
  show FOK (va_up (sW σ) (sH σ) k i) (va_up (sK σ) (sH σ) kd i) (va_up (sT σ) (sH σ) td i) (va_up (sE σ) (sH σ) a i)
  by_cases q : i = sH σ
  · subst q
    rw [up_s, up_s, up_s, up_s]
    exact hF
  · rw [up_n q, up_n q, up_n q, up_n q]
    have hi : i < sH σ + 1 := hi
    exact h.2.1 i (by omega)
theorem SOK.come1 {σ : zS} (h : SOK σ) {k kd td : Nat} {a : Nat → Nat} (hF : k ≤ 40 → FOK k kd td a) : SOK (come σ k kd td a).2 := by
  unfold come
  split
  · rename_i q
    exact h.push1 q.1 (hF q.2)
  · exact h.ref1 8
theorem knd_le (k : Nat) (a : Nat → Nat) : knd k a ≤ 4 := by
  unfold knd
  split
  · decide
  · split <;> decide
theorem SOK.comeO1 {σ : zS} (h : SOK σ) {k : Nat} {a : Nat → Nat} (hF : k ≤ 40 → k % 2 = 0 ∧ red a ∧ spn k a) : SOK (comeO σ k a).2 :=
  h.come1 (fun q => ⟨q, (hF q).1, knd_le k a, by decide, (hF q).2.1, (hF q).2.2⟩)
/-! ===== the class's cells ===== -/
def XOK (G : zG) (ad : Nat → Nat) (w : Nat → va_E) (σ : zS) : Prop :=
  (∃ nf, BOK G ad w nf nf) ∧
  w 0 = eO 2 [.ref (ad 1), .int (nI (sH σ)), .ref (ad 2), .ref (ad 55), .ref (ad 56), .ref (ad 57), .ref (ad 58), .int (rlI (sR σ)), .ref (ad 59)] ∧
  (∃ f : Nat → Option Nat, w 1 = eF G 16 f ∧ ∀ i, i < 16 → f i = some (ad (60 + 2 * i))) ∧
  (∃ f, w 55 = eL G 4 f) ∧ (∃ f, w 56 = eL G 4 f) ∧ (∃ f, w 57 = eI G 100 f) ∧
  (∃ f : Nat → Int64, w 58 = eL G 48 f ∧ ∀ i, i < (sR σ).getD 0 → f i = lN (sV σ i)) ∧
  (∃ f : Nat → Int32, w 59 = eI G 9 f ∧ ∀ i, 2 ≤ i → i < 9 → f i = sF σ i) ∧
  (∀ i, i < 16 → ∃ (x y z : Int32) (f : Nat → Int64), w (60 + 2 * i) = eO 1 [.ref (ad (61 + 2 * i)), .int x, .int y, .int z] ∧ w (61 + 2 * i) = eL G 48 f ∧ (i < sH σ → x = nI (sW σ i) ∧ y = nI (sK σ i) ∧ z = nI (sT σ i) ∧ ∀ j, j < 48 → f j = lN (sE σ i j)))
/-- a form that is held -/
theorem XOK.form {G : zG} {ad : Nat → Nat} {w : Nat → va_E} {σ : zS} (h : XOK G ad w σ) (hs : SOK σ) {i : Nat} (hi : i < sH σ) : w (60 + 2 * i) = eO 1 [.ref (ad (61 + 2 * i)), .int (nI (sW σ i)), .int (nI (sK σ i)), .int (nI (sT σ i))] ∧ isL G w (61 + 2 * i) 48 (sE σ i) := by
  obtain ⟨x, y, z, f, h1, h2, h3⟩ := h.2.2.2.2.2.2.2.2 i (by have := hs.1; omega)
  obtain ⟨rfl, rfl, rfl, h4⟩ := h3 hi
  exact ⟨h1, f, h2, h4⟩
/-- the place of the form to come -/
theorem XOK.free {G : zG} {ad : Nat → Nat} {w : Nat → va_E} {σ : zS} (h : XOK G ad w σ) {i : Nat} (hi : i < 16) : ∃ (x y z : Int32) (f : Nat → Int64), w (60 + 2 * i) = eO 1 [.ref (ad (61 + 2 * i)), .int x, .int y, .int z] ∧ w (61 + 2 * i) = eL G 48 f := by
  obtain ⟨x, y, z, f, h1, h2, -⟩ := h.2.2.2.2.2.2.2.2 i hi
  exact ⟨x, y, z, f, h1, h2⟩
/-- scratch cells, bases and the place of the form to come may change -/
theorem XOK.gen {G : zG} {ad : Nat → Nat} {w w' : Nat → va_E} {σ : zS} (h : XOK G ad w σ) (hB : ∃ nf, BOK G ad w' nf nf) (h55 : ∃ f, w' 55 = eL G 4 f) (h56 : ∃ f, w' 56 = eL G 4 f) (h57 : ∃ f, w' 57 = eI G 100 f) (hn : ∀ i, i < 16 → i = sH σ → ∃ f, w' (61 + 2 * i) = eL G 48 f)
    (hk : ∀ j, (j < 2 ∨ 58 ≤ j) → j ≠ 61 + 2 * sH σ → w' j = w j) : XOK G ad w' σ := by
  obtain ⟨-, x0, x1, -, -, -, x58, x59, xf⟩ := h
  refine ⟨hB, by rw [hk 0 (by omega) (by omega)]; exact x0, by rw [hk 1 (by omega) (by omega)]; exact x1, h55, h56, h57, by rw [hk 58 (by omega) (by omega)]; exact x58, by rw [hk 59 (by omega) (by omega)]; exact x59, fun i hi => ?_⟩
  obtain ⟨x, y, z, f, h1, h2, h3⟩ := xf i hi
  by_cases q : i = sH σ
  · obtain ⟨g, hg⟩ := hn i hi q
    exact ⟨x, y, z, g, by rw [hk _ (by omega) (by omega)]; exact h1, hg, fun r => by omega⟩
  · exact ⟨x, y, z, f, by rw [hk _ (by omega) (by omega)]; exact h1, by rw [hk _ (by omega) (by omega)]; exact h2, h3⟩
/-- the numbers of the form to come are written -/
theorem XOK.num {G : zG} {ad : Nat → Nat} {w w' : Nat → va_E} {σ : zS} (h : XOK G ad w σ) (hn : ∃ f, w' (61 + 2 * sH σ) = eL G 48 f) (hk : ∀ j, j ≠ 61 + 2 * sH σ → w' j = w j) : XOK G ad w' σ := by
  refine h.gen ?_ ?_ ?_ ?_ (fun i hi q => by rw [q]; exact hn) (fun j _ h2 => hk j h2)
  · obtain ⟨nf, hB⟩ := h.1
    exact ⟨nf, hB.keep (fun j h1 h2 => hk j (by omega))⟩
  · rw [hk 55 (by omega)]; exact h.2.2.2.1
  · rw [hk 56 (by omega)]; exact h.2.2.2.2.1
  · rw [hk 57 (by omega)]; exact h.2.2.2.2.2.1
def postX (G : zG) (ad : Nat → Nat) (w : Nat → va_E) (S : Int32 × zS) (r : Int32) (w' : Nat → va_E) : Prop := r = S.1 ∧ XOK G ad w' S.2 ∧ ∀ j, 92 ≤ j → w' j = w j
end
section
set_option maxHeartbeats 4000000 in
set_option maxRecDepth 100000 in
theorem k_isRefusal (l : Launch) (G : zG) (n : Nat) (ad : Nat → Nat) (w : Nat → va_E) (x : Int32) :
    Ci l G yX4_isRefusal cdX4_isRefusal (zr 0) n ad w [.int x] (fun r w' => w' = w ∧ ((x ≤ -2 ∧ -8 ≤ x ∧ r = nI 1) ∨ (¬ (x ≤ -2 ∧ -8 ≤ x) ∧ r = nI 0))) := by
  refine ent_i (cc := cX4_isRefusal) (maxL := 1) (ret := (some .boolean)) (by decide +kernel) rfl (Nat.le_of_ble_eq_true rfl) ?_
  intro p e s m args below meth c A B hr hlk hA H locs ls hW hl
  have hx := B.1
  have hb := B.2.1
  have hl : lv_has ls 1 [(0, .int (x))] := hl
  refine lv_iload_n hx hb dX4_isRefusal_0 rfl (lv_at hl 0 rfl) ?_
  refine lv_bipush (v := -2) hx hb dX4_isRefusal_1 (by decide) ?_
  refine lv_icmp_gt (tgt := 16) hx hb dX4_isRefusal_3 (by decide) (fun hc => ?_) (fun hc => ?_)
  · refine lv_iconst (v := nI 0) hx hb dX4_isRefusal_16 (by decide) ?_
    exact ret_z B hr hlk hW rfl ⟨rfl, Or.inr ⟨fun q => by have q2 := q.1; rw [Int32.le_iff_toInt_le] at q2; rw [Int32.lt_iff_toInt_lt] at hc; omega, rfl⟩⟩ dX4_isRefusal_17
  · refine lv_iload_n hx hb dX4_isRefusal_6 rfl (lv_at hl 0 rfl) ?_
    refine lv_bipush (v := -8) hx hb dX4_isRefusal_7 (by decide) ?_
    refine lv_icmp_lt (tgt := 16) hx hb dX4_isRefusal_9 (by decide) (fun hd => ?_) (fun hd => ?_)
    · refine lv_iconst (v := nI 0) hx hb dX4_isRefusal_16 (by decide) ?_
      exact ret_z B hr hlk hW rfl ⟨rfl, Or.inr ⟨fun q => by have q2 := q.2; rw [Int32.le_iff_toInt_le] at q2; rw [Int32.lt_iff_toInt_lt] at hd; omega, rfl⟩⟩ dX4_isRefusal_17
    · refine lv_iconst (v := nI 1) hx hb dX4_isRefusal_12 (by decide) ?_
      refine lv_goto (tgt := 17) hx hb dX4_isRefusal_13 (by decide) ?_
      exact ret_z B hr hlk hW rfl ⟨rfl, Or.inl ⟨by rw [Int32.le_iff_toInt_le]; rw [Int32.lt_iff_toInt_lt] at hc; omega, by rw [Int32.le_iff_toInt_le]; rw [Int32.lt_iff_toInt_lt] at hd; omega, rfl⟩⟩ dX4_isRefusal_17
set_option maxHeartbeats 4000000 in
set_option maxRecDepth 100000 in
theorem k_refuse (l : Launch) (G : zG) (n : Nat) (ad : Nat → Nat) (w : Nat → va_E) (hn : 92 ≤ n) (σ : zS) (hX : XOK G ad w σ) (x : Int32) (c9 : Nat) (h1 : x ≤ -2) (h2 : -8 ≤ x) (h3 : -x = nI c9) (h4 : 2 ≤ c9) (h5 : c9 < 9) :
    Ci l G yX4_refuse cdX4_refuse (zr 1) n ad w [.ref (ad 0), .int x] (postX G ad w (ref σ c9)) := by
  obtain ⟨⟨nf, hB⟩, x0, ⟨f1, x1, v1⟩, ⟨f55, x55⟩, ⟨f56, x56⟩, ⟨f57, x57⟩, ⟨f58, x58, v58⟩, ⟨f59, x59, v59⟩, xf⟩ := id hX
  have hxc : x = -(nI c9) := by rw [← h3]; simp
  refine ent_i (cc := cX4_refuse) (maxL := 2) (ret := (some .int)) (by decide +kernel) rfl (Nat.le_of_ble_eq_true rfl) ?_
  intro p e s m args below meth c A B hr hlk hA H locs ls hW hl
  have hx := B.1
  have hb := B.2.1
  have hl : lv_has ls 2 [(0, .ref (ad (0))), (1, .int (x))] := hl
  refine lv_iload_n hx hb dX4_refuse_0 rfl (lv_at hl 1 rfl) ?_
  refine call_si B hA hW (k_isRefusal l G n ad w x) mf_X4_isRefusal hw_153 rfl ⟨⟨rfl, rfl⟩, by decide, by decide⟩ ⟨Nat.zero_le _, Nat.zero_le _⟩ hl.1 rfl (Nat.le_of_ble_eq_true rfl) dX4_refuse_1 (fun r w9 H locs hp hW => ?_)
  obtain ⟨e1, hp⟩ := hp
  rw [e1] at hW
  rcases hp with ⟨-, -, rfl⟩ | ⟨q, -⟩
  · refine n_if_eq (tgt := 18) hx hb (by omega) dX4_refuse_4 (by decide) (fun hc => ?_) (fun hc => ?_)
    · omega
    · refine lv_aload_n hx hb dX4_refuse_7 rfl (lv_at hl 0 rfl) ?_
      refine z_get B hW (0) (by omega) x0 rfl inX4 8 (by decide) hw_120 rfl (v := .ref (ad (59))) rfl dX4_refuse_8 ?_
      refine lv_iload_n hx hb dX4_refuse_11 rfl (lv_at hl 1 rfl) ?_
      refine lv_ineg hx hb dX4_refuse_12 ?_
      refine topi (y := (nI (c9))) h3 ?_
      refine lv_dup2_11 hx hb dX4_refuse_13 rfl rfl ?_
      obtain ⟨y, hy⟩ : ∃ y, y = sF σ c9 := ⟨_, rfl⟩
      refine z_iald B hW (59) (by omega) x59 (c9) (by omega) (by decide) (v := (y)) (by rw [v59 _ h4 h5, hy]) dX4_refuse_14 ?_
      refine lv_iconst (v := nI 1) hx hb dX4_refuse_15 (by decide) ?_
      refine lv_iadd hx hb dX4_refuse_16 ?_
      refine z_iast B hW (59) (by omega) x59 (c9) (by omega) (by decide) dX4_refuse_17 (fun H locs hW => ?_)
      refine lv_iload_n hx hb dX4_refuse_18 rfl (lv_at hl 1 rfl) ?_
      refine ret_i B hr hlk hW ⟨hxc, ?_, fun j hj => up_n (by omega)⟩ dX4_refuse_19
      refine ⟨⟨nf, hB.keep (fun j q1 q2 => up_n (by omega))⟩, (up_n (by decide)).trans x0, ⟨f1, (up_n (by decide)).trans x1, v1⟩, ⟨f55, (up_n (by decide)).trans x55⟩, ⟨f56, (up_n (by decide)).trans x56⟩, ⟨f57, (up_n (by decide)).trans x57⟩, ⟨f58, (up_n (by decide)).trans x58, v58⟩, ⟨_, up_s, fun i q1 q2 => ?_⟩, fun i hi => ?_⟩
      · show upd f59 c9 (y + nI 1) i = upd (sF σ) c9 (sF σ c9 + 1) i
        by_cases q : i = c9
        · subst q; rw [pk_us, pk_us, hy]; rfl
        · rw [pk_un q, pk_un q]; exact v59 i q1 q2
      · obtain ⟨a1, a2, a3, a4, a5, a6, a7⟩ := xf i hi
        exact ⟨a1, a2, a3, a4, (up_n (by omega)).trans a5, (up_n (by omega)).trans a6, a7⟩
  · exact absurd ⟨h1, h2⟩ q
set_option maxHeartbeats 4000000 in
set_option maxRecDepth 100000 in
theorem k_isForm (l : Launch) (G : zG) (n : Nat) (ad : Nat → Nat) (w : Nat → va_E) (hn : 92 ≤ n) (σ : zS) (hX : XOK G ad w σ) (hs : SOK σ) (x : Int32) :
    Ci l G yX4_isForm cdX4_isForm (zr 0) n ad w [.ref (ad 0), .int x] (fun r w' => w' = w ∧ ((∃ j, j < sH σ ∧ x = nI j ∧ r = nI 1) ∨ (¬ isF (sH σ) x ∧ r = nI 0))) := by
  obtain ⟨⟨nf, hB⟩, x0, ⟨f1, x1, v1⟩, ⟨f55, x55⟩, ⟨f56, x56⟩, ⟨f57, x57⟩, ⟨f58, x58, v58⟩, ⟨f59, x59, v59⟩, xf⟩ := id hX
  have hsh := hs.1
  refine ent_i (cc := cX4_isForm) (maxL := 2) (ret := (some .boolean)) (by decide +kernel) rfl (Nat.le_of_ble_eq_true rfl) ?_
  intro p e s m args below meth c A B hr hlk hA H locs ls hW hl
  have hx := B.1
  have hb := B.2.1
  have hl : lv_has ls 2 [(0, .ref (ad (0))), (1, .int (x))] := hl
  refine lv_iload_n hx hb dX4_isForm_0 rfl (lv_at hl 1 rfl) ?_
  refine lv_if_lt (tgt := 16) hx hb dX4_isForm_1 (by decide) (fun hc => ?_) (fun hc => ?_)
  · refine lv_iconst (v := nI 0) hx hb dX4_isForm_16 (by decide) ?_
    exact ret_z B hr hlk hW rfl ⟨rfl, Or.inr ⟨fun ⟨j, q1, q2⟩ => nI_pos (by omega) (q2 ▸ hc), rfl⟩⟩ dX4_isForm_17
  · obtain ⟨j, hj, rfl⟩ := nI_of hc
    refine lv_iload_n hx hb dX4_isForm_4 rfl (lv_at hl 1 rfl) ?_
    refine lv_aload_n hx hb dX4_isForm_5 rfl (lv_at hl 0 rfl) ?_
    refine z_get B hW (0) (by omega) x0 rfl inX4 1 (by decide) hw_113 rfl (v := .int (nI (sH σ))) rfl dX4_isForm_6 ?_
    refine n_icmp_ge (tgt := 16) hx hb (by omega) (by omega) dX4_isForm_9 (by decide) (fun hd => ?_) (fun hd => ?_)
    · refine lv_iconst (v := nI 0) hx hb dX4_isForm_16 (by decide) ?_
      exact ret_z B hr hlk hW rfl ⟨rfl, Or.inr ⟨fun ⟨i, q1, q2⟩ => by have := (nI_eq hj (by omega)).mp q2; omega, rfl⟩⟩ dX4_isForm_17
    · refine lv_iconst (v := nI 1) hx hb dX4_isForm_12 (by decide) ?_
      refine lv_goto (tgt := 17) hx hb dX4_isForm_13 (by decide) ?_
      exact ret_z B hr hlk hW rfl ⟨rfl, Or.inl ⟨j, hd, rfl, rfl⟩⟩ dX4_isForm_17
set_option maxHeartbeats 4000000 in
set_option maxRecDepth 100000 in
theorem k_isWeight (l : Launch) (G : zG) (n : Nat) (ad : Nat → Nat) (w : Nat → va_E) (x : Int32) :
    Ci l G yX4_isWeight cdX4_isWeight (zr 0) n ad w [.int x] (fun r w' => w' = w ∧ ((∃ k, k ≤ 40 ∧ k % 2 = 0 ∧ x = nI k ∧ r = nI 1) ∨ ((¬ ∃ k, k ≤ 40 ∧ k % 2 = 0 ∧ x = nI k) ∧ r = nI 0))) := by
  refine ent_i (cc := cX4_isWeight) (maxL := 1) (ret := (some .boolean)) (by decide +kernel) rfl (Nat.le_of_ble_eq_true rfl) ?_
  intro p e s m args below meth c A B hr hlk hA H locs ls hW hl
  have hx := B.1
  have hb := B.2.1
  have hl : lv_has ls 1 [(0, .int (x))] := hl
  refine lv_iload_n hx hb dX4_isWeight_0 rfl (lv_at hl 0 rfl) ?_
  refine lv_if_lt (tgt := 20) hx hb dX4_isWeight_1 (by decide) (fun hc => ?_) (fun hc => ?_)
  · refine lv_iconst (v := nI 0) hx hb dX4_isWeight_20 (by decide) ?_
    exact ret_z B hr hlk hW rfl ⟨rfl, Or.inr ⟨fun ⟨j, q1, _, q2⟩ => nI_pos (by omega) (q2 ▸ hc), rfl⟩⟩ dX4_isWeight_21
  · obtain ⟨j, hj, rfl⟩ := nI_of hc
    refine lv_iload_n hx hb dX4_isWeight_4 rfl (lv_at hl 0 rfl) ?_
    refine lv_bipush (v := nI 40) hx hb dX4_isWeight_5 (by decide) ?_
    refine n_icmp_gt (tgt := 20) hx hb (by omega) (by omega) dX4_isWeight_7 (by decide) (fun hd => ?_) (fun hd => ?_)
    · refine lv_iconst (v := nI 0) hx hb dX4_isWeight_20 (by decide) ?_
      exact ret_z B hr hlk hW rfl ⟨rfl, Or.inr ⟨fun ⟨i, q1, q3, q2⟩ => by have := (nI_eq hj (by omega)).mp q2; omega, rfl⟩⟩ dX4_isWeight_21
    · refine lv_iload_n hx hb dX4_isWeight_10 rfl (lv_at hl 0 rfl) ?_
      refine lv_iconst (v := nI 2) hx hb dX4_isWeight_11 (by decide) ?_
      refine n_irem hx hb (by omega) (by omega) (by omega) dX4_isWeight_12 ?_
      refine n_if_ne (tgt := 20) hx hb (by omega) dX4_isWeight_13 (by decide) (fun he => ?_) (fun he => ?_)
      · refine lv_iconst (v := nI 0) hx hb dX4_isWeight_20 (by decide) ?_
        exact ret_z B hr hlk hW rfl ⟨rfl, Or.inr ⟨fun ⟨i, q1, q3, q2⟩ => by have := (nI_eq hj (by omega)).mp q2; omega, rfl⟩⟩ dX4_isWeight_21
      · refine lv_iconst (v := nI 1) hx hb dX4_isWeight_16 (by decide) ?_
        refine lv_goto (tgt := 21) hx hb dX4_isWeight_17 (by decide) ?_
        exact ret_z B hr hlk hW rfl ⟨rfl, Or.inl ⟨j, hd, he, rfl, rfl⟩⟩ dX4_isWeight_21
set_option maxHeartbeats 4000000 in
set_option maxRecDepth 100000 in
theorem k_X4_isPrime (l : Launch) (G : zG) (n : Nat) (ad : Nat → Nat) (w : Nat → va_E) (x : Int32) :
    Ci l G yX4_isPrime cdX4_isPrime (zr 0) n ad w [.int x] (fun r w' => w' = w ∧ ((∃ p, (p = 2 ∨ p = 3 ∨ p = 5 ∨ p = 7 ∨ p = 11) ∧ x = nI p ∧ r = nI 1) ∨ ((¬ ∃ p, (p = 2 ∨ p = 3 ∨ p = 5 ∨ p = 7 ∨ p = 11) ∧ x = nI p) ∧ r = nI 0))) := by
  refine ent_i (cc := cX4_isPrime) (maxL := 1) (ret := (some .boolean)) (by decide +kernel) rfl (Nat.le_of_ble_eq_true rfl) ?_
  intro p e s m args below meth c A B hr hlk hA H locs ls hW hl
  have hx := B.1
  have hb := B.2.1
  have hl : lv_has ls 1 [(0, .int (x))] := hl
  refine lv_iload_n hx hb dX4_isPrime_0 rfl (lv_at hl 0 rfl) ?_
  refine lv_iconst (v := nI 2) hx hb dX4_isPrime_1 (by decide) ?_
  refine lv_icmp_eq (tgt := 27) hx hb dX4_isPrime_2 (by decide) (fun c0 => ?_) (fun c0 => ?_)
  · refine lv_iconst (v := nI 1) hx hb dX4_isPrime_27 (by decide) ?_
    refine lv_goto (tgt := 32) hx hb dX4_isPrime_28 (by decide) ?_
    exact ret_z B hr hlk hW rfl ⟨rfl, Or.inl ⟨2, by decide, c0, rfl⟩⟩ dX4_isPrime_32
  · refine lv_iload_n hx hb dX4_isPrime_5 rfl (lv_at hl 0 rfl) ?_
    refine lv_iconst (v := nI 3) hx hb dX4_isPrime_6 (by decide) ?_
    refine lv_icmp_eq (tgt := 27) hx hb dX4_isPrime_7 (by decide) (fun c1 => ?_) (fun c1 => ?_)
    · refine lv_iconst (v := nI 1) hx hb dX4_isPrime_27 (by decide) ?_
      refine lv_goto (tgt := 32) hx hb dX4_isPrime_28 (by decide) ?_
      exact ret_z B hr hlk hW rfl ⟨rfl, Or.inl ⟨3, by decide, c1, rfl⟩⟩ dX4_isPrime_32
    · refine lv_iload_n hx hb dX4_isPrime_10 rfl (lv_at hl 0 rfl) ?_
      refine lv_iconst (v := nI 5) hx hb dX4_isPrime_11 (by decide) ?_
      refine lv_icmp_eq (tgt := 27) hx hb dX4_isPrime_12 (by decide) (fun c2 => ?_) (fun c2 => ?_)
      · refine lv_iconst (v := nI 1) hx hb dX4_isPrime_27 (by decide) ?_
        refine lv_goto (tgt := 32) hx hb dX4_isPrime_28 (by decide) ?_
        exact ret_z B hr hlk hW rfl ⟨rfl, Or.inl ⟨5, by decide, c2, rfl⟩⟩ dX4_isPrime_32
      · refine lv_iload_n hx hb dX4_isPrime_15 rfl (lv_at hl 0 rfl) ?_
        refine lv_bipush (v := nI 7) hx hb dX4_isPrime_16 (by decide) ?_
        refine lv_icmp_eq (tgt := 27) hx hb dX4_isPrime_18 (by decide) (fun c3 => ?_) (fun c3 => ?_)
        · refine lv_iconst (v := nI 1) hx hb dX4_isPrime_27 (by decide) ?_
          refine lv_goto (tgt := 32) hx hb dX4_isPrime_28 (by decide) ?_
          exact ret_z B hr hlk hW rfl ⟨rfl, Or.inl ⟨7, by decide, c3, rfl⟩⟩ dX4_isPrime_32
        · refine lv_iload_n hx hb dX4_isPrime_21 rfl (lv_at hl 0 rfl) ?_
          refine lv_bipush (v := nI 11) hx hb dX4_isPrime_22 (by decide) ?_
          refine lv_icmp_ne (tgt := 31) hx hb dX4_isPrime_24 (by decide) (fun c4 => ?_) (fun c4 => ?_)
          · refine lv_iconst (v := nI 0) hx hb dX4_isPrime_31 (by decide) ?_
            exact ret_z B hr hlk hW rfl ⟨rfl, Or.inr ⟨fun ⟨p, q, q2⟩ => by rcases q with rfl | rfl | rfl | rfl | rfl <;> first | exact c0 q2 | exact c1 q2 | exact c2 q2 | exact c3 q2 | exact c4 q2, rfl⟩⟩ dX4_isPrime_32
          · refine lv_iconst (v := nI 1) hx hb dX4_isPrime_27 (by decide) ?_
            refine lv_goto (tgt := 32) hx hb dX4_isPrime_28 (by decide) ?_
            exact ret_z B hr hlk hW rfl ⟨rfl, Or.inl ⟨11, by decide, c4, rfl⟩⟩ dX4_isPrime_32
set_option maxHeartbeats 4000000 in
set_option maxRecDepth 100000 in
theorem k_hasRoom (l : Launch) (G : zG) (n : Nat) (ad : Nat → Nat) (w : Nat → va_E) (hn : 92 ≤ n) (σ : zS) (hX : XOK G ad w σ) (hs : SOK σ) (k : Nat) (hk : k < 2 ^ 31) :
    Ci l G yX4_hasRoom cdX4_hasRoom (zr 0) n ad w [.ref (ad 0), .int (nI k)] (fun r w' => w' = w ∧ ((sH σ < 16 ∧ k ≤ 40 ∧ r = nI 1) ∨ (¬ (sH σ < 16 ∧ k ≤ 40) ∧ r = nI 0))) := by
  obtain ⟨⟨nf, hB⟩, x0, ⟨f1, x1, v1⟩, ⟨f55, x55⟩, ⟨f56, x56⟩, ⟨f57, x57⟩, ⟨f58, x58, v58⟩, ⟨f59, x59, v59⟩, xf⟩ := id hX
  have hsh := hs.1
  refine ent_i (cc := cX4_hasRoom) (maxL := 2) (ret := (some .boolean)) (by decide +kernel) rfl (Nat.le_of_ble_eq_true rfl) ?_
  intro p e s m args below meth c A B hr hlk hA H locs ls hW hl
  have hx := B.1
  have hb := B.2.1
  have hl : lv_has ls 2 [(0, .ref (ad (0))), (1, .int (nI (k)))] := hl
  refine lv_aload_n hx hb dX4_hasRoom_0 rfl (lv_at hl 0 rfl) ?_
  refine z_get B hW (0) (by omega) x0 rfl inX4 1 (by decide) hw_113 rfl (v := .int (nI (sH σ))) rfl dX4_hasRoom_1 ?_
  refine lv_bipush (v := nI 16) hx hb dX4_hasRoom_4 (by decide) ?_
  refine n_icmp_ge (tgt := 19) hx hb (by omega) (by omega) dX4_hasRoom_6 (by decide) (fun hc => ?_) (fun hc => ?_)
  · refine lv_iconst (v := nI 0) hx hb dX4_hasRoom_19 (by decide) ?_
    exact ret_z B hr hlk hW rfl ⟨rfl, Or.inr ⟨by omega, rfl⟩⟩ dX4_hasRoom_20
  · refine lv_iload_n hx hb dX4_hasRoom_9 rfl (lv_at hl 1 rfl) ?_
    refine lv_bipush (v := nI 40) hx hb dX4_hasRoom_10 (by decide) ?_
    refine n_icmp_gt (tgt := 19) hx hb (by omega) (by omega) dX4_hasRoom_12 (by decide) (fun hd => ?_) (fun hd => ?_)
    · refine lv_iconst (v := nI 0) hx hb dX4_hasRoom_19 (by decide) ?_
      exact ret_z B hr hlk hW rfl ⟨rfl, Or.inr ⟨by omega, rfl⟩⟩ dX4_hasRoom_20
    · refine lv_iconst (v := nI 1) hx hb dX4_hasRoom_15 (by decide) ?_
      refine lv_goto (tgt := 20) hx hb dX4_hasRoom_16 (by decide) ?_
      exact ret_z B hr hlk hW rfl ⟨rfl, Or.inl ⟨hc, hd, rfl⟩⟩ dX4_hasRoom_20
set_option maxHeartbeats 4000000 in
set_option maxRecDepth 100000 in
theorem k_comeAsTold (l : Launch) (G : zG) (n : Nat) (ad : Nat → Nat) (w : Nat → va_E) (hn : 92 ≤ n) (σ : zS) (hX : XOK G ad w σ) (hs : SOK σ) (hh : sH σ < 16) (kd k td : Nat) (a : Nat → Nat) (ha : isL G w (61 + 2 * sH σ) 48 a) :
    Ci l G yX4_comeAsTold cdX4_comeAsTold (zr 0) n ad w [.ref (ad 0), .int (nI kd), .int (nI k), .int (nI td)] (postX G ad w (nI (sH σ), push σ k kd td a)) := by
  obtain ⟨⟨nf, hB⟩, x0, ⟨f1, x1, v1⟩, ⟨f55, x55⟩, ⟨f56, x56⟩, ⟨f57, x57⟩, ⟨f58, x58, v58⟩, ⟨f59, x59, v59⟩, xf⟩ := id hX
  obtain ⟨xa, ya, za, fa, g1, g2, -⟩ := xf (sH σ) hh
  refine ent_i (cc := cX4_comeAsTold) (maxL := 5) (ret := (some .int)) (by decide +kernel) rfl (Nat.le_of_ble_eq_true rfl) ?_
  intro p e s m args below meth c A B hr hlk hA H locs ls hW hl
  have hx := B.1
  have hb := B.2.1
  have hl : lv_has ls 5 [(0, .ref (ad (0))), (1, .int (nI (kd))), (2, .int (nI (k))), (3, .int (nI (td)))] := hl
  refine lv_aload_n hx hb dX4_comeAsTold_0 rfl (lv_at hl 0 rfl) ?_
  refine z_get B hW (0) (by omega) x0 rfl inX4 0 (by decide) hw_112 rfl (v := .ref (ad (1))) rfl dX4_comeAsTold_1 ?_
  refine lv_aload_n hx hb dX4_comeAsTold_4 rfl (lv_at hl 0 rfl) ?_
  refine z_get B hW (0) (by omega) x0 rfl inX4 1 (by decide) hw_113 rfl (v := .int (nI (sH σ))) rfl dX4_comeAsTold_5 ?_
  refine z_aald B hW (1) (by omega) x1 (sH σ) (by omega) (by decide) (q := ad (60 + 2 * (sH σ))) (v1 _ (by omega)) dX4_comeAsTold_8 ?_
  refine lv_astore (lv' := [(4, .ref (ad (60 + 2 * (sH σ)))), (0, .ref (ad (0))), (1, .int (nI (kd))), (2, .int (nI (k))), (3, .int (nI (td)))]) hx hb dX4_comeAsTold_9 hl (by decide) rfl (fun ls hl => ?_)
  refine lv_aload hx hb dX4_comeAsTold_11 (lv_at hl 0 rfl) ?_
  refine lv_iload_n hx hb dX4_comeAsTold_13 rfl (lv_at hl 2 rfl) ?_
  refine z_put B hW (60 + 2 * (sH σ)) (by omega) g1 rfl inX1 tyX1 tyX1_ok nmX1 2 (by decide) hw_101 rfl rfl (v := .int (nI (kd))) rfl rfl (Nat.le_of_ble_eq_true rfl) dX4_comeAsTold_14 (fun H locs hW => ?_)
  have hW : Wo G A s.heap n ad (va_up w (60 + 2 * (sH σ)) (eO 1 [.ref (ad (61 + 2 * (sH σ))), .int xa, .int (nI kd), .int za])) H locs := hW
  have g1b : va_up w (60 + 2 * (sH σ)) (eO 1 [.ref (ad (61 + 2 * (sH σ))), .int xa, .int (nI kd), .int za]) (60 + 2 * (sH σ)) = _ := up_s
  refine lv_aload hx hb dX4_comeAsTold_17 (lv_at hl 0 rfl) ?_
  refine lv_iload_n hx hb dX4_comeAsTold_19 rfl (lv_at hl 3 rfl) ?_
  refine z_put B hW (60 + 2 * (sH σ)) (by omega) g1b rfl inX1 tyX1 tyX1_ok nmX1 1 (by decide) hw_100 rfl rfl (v := .int (nI (k))) rfl rfl (Nat.le_of_ble_eq_true rfl) dX4_comeAsTold_20 (fun H locs hW => ?_)
  have g1c : va_up (va_up w (60 + 2 * (sH σ)) (eO 1 [.ref (ad (61 + 2 * (sH σ))), .int xa, .int (nI kd), .int za])) (60 + 2 * (sH σ)) (eO 1 [.ref (ad (61 + 2 * (sH σ))), .int (nI k), .int (nI kd), .int za]) (60 + 2 * (sH σ)) = _ := up_s
  refine lv_aload hx hb dX4_comeAsTold_23 (lv_at hl 0 rfl) ?_
  refine lv_iload_n hx hb dX4_comeAsTold_25 rfl (lv_at hl 4 rfl) ?_
  refine z_put B hW (60 + 2 * (sH σ)) (by omega) g1c rfl inX1 tyX1 tyX1_ok nmX1 3 (by decide) hw_102 rfl rfl (v := .int (nI (td))) rfl rfl (Nat.le_of_ble_eq_true rfl) dX4_comeAsTold_26 (fun H locs hW => ?_)
  obtain ⟨w2, hw2⟩ : ∃ w2, w2 = va_up w (60 + 2 * (sH σ)) (eO 1 [.ref (ad (61 + 2 * (sH σ))), .int (nI k), .int (nI kd), .int (nI td)]) := ⟨_, rfl⟩
  have hW : Wo G A s.heap n ad w2 H locs := by
    refine hW.congr (fun j hj => ?_)
    rw [hw2]
    by_cases q : j = 60 + 2 * (sH σ)
    · rw [q, up_s, up_s]; rfl
    · rw [up_n q, up_n q, up_n q, up_n q]
  have x0b := (show w2 0 = w 0 by rw [hw2, up_n (by omega)]).trans x0
  refine lv_aload_n hx hb dX4_comeAsTold_29 rfl (lv_at hl 1 rfl) ?_
  refine lv_dup hx hb dX4_comeAsTold_30 rfl ?_
  refine z_get B hW (0) (by omega) x0b rfl inX4 1 (by decide) hw_113 rfl (v := .int (nI (sH σ))) rfl dX4_comeAsTold_31 ?_
  refine lv_iconst (v := nI 1) hx hb dX4_comeAsTold_34 (by decide) ?_
  refine n_iadd hx hb dX4_comeAsTold_35 ?_
  refine z_put B hW (0) (by omega) x0b rfl inX4 tyX4 tyX4_ok nmX4 1 (by decide) hw_113 rfl rfl (v := .int (nI ((sH σ) + 1))) rfl rfl (Nat.le_of_ble_eq_true rfl) dX4_comeAsTold_36 (fun H locs hW => ?_)
  have x0c : va_up w2 0 (eO 2 [.ref (ad 1), .int (nI (sH σ + 1)), .ref (ad 2), .ref (ad 55), .ref (ad 56), .ref (ad 57), .ref (ad 58), .int (rlI (sR σ)), .ref (ad 59)]) 0 = _ := up_s
  refine lv_aload_n hx hb dX4_comeAsTold_39 rfl (lv_at hl 1 rfl) ?_
  refine z_get B hW (0) (by omega) x0c rfl inX4 1 (by decide) hw_113 rfl (v := .int (nI (sH σ + 1))) rfl dX4_comeAsTold_40 ?_
  refine lv_iconst (v := nI 1) hx hb dX4_comeAsTold_43 (by decide) ?_
  refine n_isub hx hb (by omega) dX4_comeAsTold_44 ?_
  refine ret_i B hr hlk hW ⟨rfl, ?_, fun j hj => by rw [up_n (by omega), hw2, up_n (by omega)]⟩ dX4_comeAsTold_45
  have hk2 : ∀ j, j ≠ 0 → j ≠ 60 + 2 * (sH σ) → va_up w2 0 (eO 2 [.ref (ad 1), .int (nI (sH σ + 1)), .ref (ad 2), .ref (ad 55), .ref (ad 56), .ref (ad 57), .ref (ad 58), .int (rlI (sR σ)), .ref (ad 59)]) j = w j := fun j q1 q2 => by rw [up_n q1, hw2, up_n q2]
  refine ⟨⟨nf, hB.keep (fun j q1 q2 => hk2 j (by omega) (by omega))⟩, x0c, ⟨f1, (hk2 1 (by omega) (by omega)).trans x1, v1⟩, ⟨f55, (hk2 55 (by omega) (by omega)).trans x55⟩, ⟨f56, (hk2 56 (by omega) (by omega)).trans x56⟩, ⟨f57, (hk2 57 (by omega) (by omega)).trans x57⟩, ⟨f58, (hk2 58 (by omega) (by omega)).trans x58, v58⟩, ⟨f59, (hk2 59 (by omega) (by omega)).trans x59, v59⟩, fun i hi => ?_⟩
  by_cases q : i = sH σ
  · subst q
    obtain ⟨ga, e3, v3⟩ := ha
    refine ⟨nI k, nI kd, nI td, ga, by rw [up_n (by omega), hw2, up_s], (hk2 _ (by omega) (by omega)).trans e3, fun _ => ⟨?_, ?_, ?_, fun j hj => ?_⟩⟩
    · show _ = nI (va_up (sW σ) (sH σ) k (sH σ)); rw [up_s]
    · show _ = nI (va_up (sK σ) (sH σ) kd (sH σ)); rw [up_s]
    · show _ = nI (va_up (sT σ) (sH σ) td (sH σ)); rw [up_s]
    · show _ = lN (va_up (sE σ) (sH σ) a (sH σ) j); rw [up_s]; exact v3 j hj
  · obtain ⟨a1, a2, a3, a4, a5, a6, a7⟩ := xf i hi
    refine ⟨a1, a2, a3, a4, (hk2 _ (by omega) (by omega)).trans a5, (hk2 _ (by omega) (by omega)).trans a6, fun hi2 => ?_⟩
    have hi2 : i < sH σ + 1 := hi2
    obtain ⟨b1, b2, b3, b4⟩ := a7 (by omega)
    refine ⟨?_, ?_, ?_, fun j hj => ?_⟩
    · show _ = nI (va_up (sW σ) (sH σ) k i); rw [up_n q]; exact b1
    · show _ = nI (va_up (sK σ) (sH σ) kd i); rw [up_n q]; exact b2
    · show _ = nI (va_up (sT σ) (sH σ) td i); rw [up_n q]; exact b3
    · show _ = lN (va_up (sE σ) (sH σ) a i j); rw [up_n q]; exact b4 j hj
set_option maxHeartbeats 4000000 in
set_option maxRecDepth 100000 in
theorem k_comeOfOthers (l : Launch) (G : zG) (n : Nat) (ad : Nat → Nat) (w : Nat → va_E) (hn : 92 ≤ n) (σ : zS) (hX : XOK G ad w σ) (hs : SOK σ) (hh : sH σ < 16) (k : Nat) (hk : k ≤ 40) (a : Nat → Nat) (ha : isL G w (61 + 2 * sH σ) 48 a) (ra : a 0 < 1000003) :
    Ci l G yX4_comeOfOthers cdX4_comeOfOthers (zr 1) n ad w [.ref (ad 0), .int (nI k)] (postX G ad w (comeO σ k a)) := by
  have hco : comeO σ k a = (nI (sH σ), push σ k (knd k a) 0 a) := by unfold comeO come; rw [if_pos ⟨hh, hk⟩]
  rw [hco]
  obtain ⟨⟨nf, hB⟩, x0, ⟨f1, x1, v1⟩, ⟨f55, x55⟩, ⟨f56, x56⟩, ⟨f57, x57⟩, ⟨f58, x58, v58⟩, ⟨f59, x59, v59⟩, xf⟩ := id hX
  obtain ⟨xa, ya, za, fa, g1, g2⟩ := hX.free hh
  obtain ⟨ga, e3, v3⟩ := id ha
  refine ent_i (cc := cX4_comeOfOthers) (maxL := 3) (ret := (some .int)) (by decide +kernel) rfl (Nat.le_of_ble_eq_true rfl) ?_
  intro p e s m args below meth c A B hr hlk hA H locs ls hW hl
  have hx := B.1
  have hb := B.2.1
  have hl : lv_has ls 3 [(0, .ref (ad (0))), (1, .int (nI (k)))] := hl
  refine lv_iload_n hx hb dX4_comeOfOthers_0 rfl (lv_at hl 1 rfl) ?_
  refine n_if_ne (tgt := 8) hx hb (by omega) dX4_comeOfOthers_1 (by decide) (fun hc => ?_) (fun hc => ?_)
  · refine lv_aload_n hx hb dX4_comeOfOthers_8 rfl (lv_at hl 0 rfl) ?_
    refine z_get B hW (0) (by omega) x0 rfl inX4 0 (by decide) hw_112 rfl (v := .ref (ad (1))) rfl dX4_comeOfOthers_9 ?_
    refine lv_aload_n hx hb dX4_comeOfOthers_12 rfl (lv_at hl 0 rfl) ?_
    refine z_get B hW (0) (by omega) x0 rfl inX4 1 (by decide) hw_113 rfl (v := .int (nI (sH σ))) rfl dX4_comeOfOthers_13 ?_
    refine z_aald B hW (1) (by omega) x1 (sH σ) (by omega) (by decide) (q := ad (60 + 2 * (sH σ))) (v1 _ (by omega)) dX4_comeOfOthers_16 ?_
    refine z_get B hW (60 + 2 * (sH σ)) (by omega) g1 rfl inX1 0 (by decide) hw_98 rfl (v := .ref (ad (61 + 2 * (sH σ)))) rfl dX4_comeOfOthers_17 ?_
    refine lv_iconst (v := nI 0) hx hb dX4_comeOfOthers_20 (by decide) ?_
    refine z_lald B hW (61 + 2 * (sH σ)) (by omega) e3 (0) (by omega) (by decide) (v := (lN (a 0))) (v3 0 (by omega)) dX4_comeOfOthers_21 ?_
    refine lv_lconst (v := lN 0) hx hb dX4_comeOfOthers_22 (by decide) ?_
    refine lc_ne (tgt := 31) hx hb dX4_comeOfOthers_23 dX4_comeOfOthers_24 (by decide) (fun hd => ?_) (fun hd => ?_)
    · have hkd : knd k a = 0 := by unfold knd; rw [if_neg hc, if_neg (fun q => hd (by rw [q]))]
      refine lv_iconst (v := nI 0) hx hb dX4_comeOfOthers_31 (by decide) ?_
      refine topi (y := (nI (knd k a))) (by rw [hkd]) ?_
      refine lv_istore_n (lv' := [(2, .int (nI (knd k a))), (0, .ref (ad (0))), (1, .int (nI (k)))]) hx hb dX4_comeOfOthers_32 rfl hl (by decide) rfl (fun ls hl => ?_)
      refine lv_aload_n hx hb dX4_comeOfOthers_33 rfl (lv_at hl 1 rfl) ?_
      refine lv_iload_n hx hb dX4_comeOfOthers_34 rfl (lv_at hl 0 rfl) ?_
      refine lv_iload_n hx hb dX4_comeOfOthers_35 rfl (lv_at hl 2 rfl) ?_
      refine lv_iconst (v := nI 0) hx hb dX4_comeOfOthers_36 (by decide) ?_
      refine call_vi B hA hW (0) (by omega) x0 (r := _) rfl rfl (k_comeAsTold l G n ad w hn σ hX hs hh (knd k a) k 0 a ha) mf_X4_comeAsTold hw_171 rfl ⟨⟨rfl, rfl⟩, by decide, by decide⟩ ⟨Nat.zero_le _, Nat.zero_le _⟩ hl.1 rfl (Nat.le_of_ble_eq_true rfl) dX4_comeOfOthers_37 (fun r w9 H locs hp hW => ?_)
      exact ret_i B hr hlk hW hp dX4_comeOfOthers_40
    · have hkd : knd k a = 4 := by unfold knd; rw [if_neg hc, if_pos ((lN_inj ra (by decide)).mp hd)]
      refine lv_iconst (v := nI 4) hx hb dX4_comeOfOthers_27 (by decide) ?_
      refine lv_goto (tgt := 32) hx hb dX4_comeOfOthers_28 (by decide) ?_
      refine topi (y := (nI (knd k a))) (by rw [hkd]) ?_
      refine lv_istore_n (lv' := [(2, .int (nI (knd k a))), (0, .ref (ad (0))), (1, .int (nI (k)))]) hx hb dX4_comeOfOthers_32 rfl hl (by decide) rfl (fun ls hl => ?_)
      refine lv_aload_n hx hb dX4_comeOfOthers_33 rfl (lv_at hl 1 rfl) ?_
      refine lv_iload_n hx hb dX4_comeOfOthers_34 rfl (lv_at hl 0 rfl) ?_
      refine lv_iload_n hx hb dX4_comeOfOthers_35 rfl (lv_at hl 2 rfl) ?_
      refine lv_iconst (v := nI 0) hx hb dX4_comeOfOthers_36 (by decide) ?_
      refine call_vi B hA hW (0) (by omega) x0 (r := _) rfl rfl (k_comeAsTold l G n ad w hn σ hX hs hh (knd k a) k 0 a ha) mf_X4_comeAsTold hw_171 rfl ⟨⟨rfl, rfl⟩, by decide, by decide⟩ ⟨Nat.zero_le _, Nat.zero_le _⟩ hl.1 rfl (Nat.le_of_ble_eq_true rfl) dX4_comeOfOthers_37 (fun r w9 H locs hp hW => ?_)
      exact ret_i B hr hlk hW hp dX4_comeOfOthers_40
  · have hkd : knd k a = 3 := by unfold knd; rw [if_pos hc]
    refine lv_iconst (v := nI 3) hx hb dX4_comeOfOthers_4 (by decide) ?_
    refine lv_goto (tgt := 32) hx hb dX4_comeOfOthers_5 (by decide) ?_
    refine topi (y := (nI (knd k a))) (by rw [hkd]) ?_
    refine lv_istore_n (lv' := [(2, .int (nI (knd k a))), (0, .ref (ad (0))), (1, .int (nI (k)))]) hx hb dX4_comeOfOthers_32 rfl hl (by decide) rfl (fun ls hl => ?_)
    refine lv_aload_n hx hb dX4_comeOfOthers_33 rfl (lv_at hl 1 rfl) ?_
    refine lv_iload_n hx hb dX4_comeOfOthers_34 rfl (lv_at hl 0 rfl) ?_
    refine lv_iload_n hx hb dX4_comeOfOthers_35 rfl (lv_at hl 2 rfl) ?_
    refine lv_iconst (v := nI 0) hx hb dX4_comeOfOthers_36 (by decide) ?_
    refine call_vi B hA hW (0) (by omega) x0 (r := _) rfl rfl (k_comeAsTold l G n ad w hn σ hX hs hh (knd k a) k 0 a ha) mf_X4_comeAsTold hw_171 rfl ⟨⟨rfl, rfl⟩, by decide, by decide⟩ ⟨Nat.zero_le _, Nat.zero_le _⟩ hl.1 rfl (Nat.le_of_ble_eq_true rfl) dX4_comeOfOthers_37 (fun r w9 H locs hp hW => ?_)
    exact ret_i B hr hlk hW hp dX4_comeOfOthers_40
end
section
/-! ===== what each call answers, and the state behind it ===== -/
theorem comeO_full {σ : zS} {k : Nat} {a : Nat → Nat} (h : ¬ (sH σ < 16 ∧ k ≤ 40)) : comeO σ k a = ref σ 8 := by unfold comeO come; rw [if_neg h]
theorem come_full {σ : zS} {k kd td : Nat} {a : Nat → Nat} (h : ¬ (sH σ < 16 ∧ k ≤ 40)) : come σ k kd td a = ref σ 8 := by unfold come; rw [if_neg h]
theorem come_ok {σ : zS} {k kd td : Nat} {a : Nat → Nat} (h : sH σ < 16) (h2 : k ≤ 40) : come σ k kd td a = (nI (sH σ), push σ k kd td a) := by unfold come; rw [if_pos ⟨h, h2⟩]
def isW (x : Int32) : Prop := ∃ k, k ≤ 40 ∧ k % 2 = 0 ∧ x = nI k
def isP (x : Int32) : Prop := ∃ p, (p = 2 ∨ p = 3 ∨ p = 5 ∨ p = 7 ∨ p = 11) ∧ x = nI p
def smc (k : Nat) : Nat := if k = 4 then 240 else if k = 6 then 999499 else if k = 8 then 480 else if k = 10 then 999739 else if k = 12 then 65520 * invM 691 % 1000003 else if k = 14 then 999979 else 0
def isSm (x : Int32) : Prop := ∃ k, (k = 4 ∨ k = 6 ∨ k = 8 ∨ k = 10 ∨ k = 12 ∨ k = 14) ∧ x = nI k
noncomputable def st_sums (σ : zS) (x : Int32) : Int32 × zS := cif (isSm x) (come σ (cN x) 1 (cN x) (sumsS (smc (cN x)) (cN x - 1))) (ref σ 7)
noncomputable def st_product (σ : zS) (x : Int32) : Int32 × zS := cif (∃ e, 1 ≤ e ∧ e ≤ 3 ∧ x = nI e) (come σ (12 * cN x) 2 (cN x) (powS dS (cN x))) (ref σ 7)
def addS (x y : Int32) (a b : Nat → Nat) (n : Nat) : Nat := zm (x.toInt * (a n : Nat) + y.toInt * (b n : Nat))
noncomputable def st_add (σ : zS) (f x g y : Int32) : Int32 × zS := cif (isF (sH σ) f ∧ isF (sH σ) g) (cif (sW σ (cN f) = sW σ (cN g)) (comeO σ (sW σ (cN f)) (addS x y (sE σ (cN f)) (sE σ (cN g)))) (ref σ 7)) (ref σ 3)
noncomputable def st_times (σ : zS) (f g : Int32) : Int32 × zS := cif (isF (sH σ) f ∧ isF (sH σ) g) (comeO σ (sW σ (cN f) + sW σ (cN g)) (mulS (sE σ (cN f)) (sE σ (cN g)))) (ref σ 3)
noncomputable def st_power (σ : zS) (f e : Int32) : Int32 × zS := cif (isF (sH σ) f) (cif (e < 0) (ref σ 4) (cif (20 < cN e) (ref σ 7) (comeO σ (sW σ (cN f) * cN e) (powS (sE σ (cN f)) (cN e))))) (ref σ 3)
def slpS (k : Nat) (a : Nat → Nat) (n : Nat) : Nat := zm (((n * a n : Nat) : Int) - ((k * invM 12 % 1000003 * mulS e2S a n : Nat) : Int))
noncomputable def st_slope (σ : zS) (f : Int32) : Int32 × zS := cif (isF (sH σ) f) (comeO σ (sW σ (cN f) + 2) (slpS (sW σ (cN f)) (sE σ (cN f)))) (ref σ 3)
noncomputable def st_bracket (σ : zS) (f g : Int32) : Int32 × zS := cif (isF (sH σ) f ∧ isF (sH σ) g) (comeO σ (sW σ (cN f) + sW σ (cN g) + 2) (brS (sW σ (cN f)) (sW σ (cN g)) (sE σ (cN f)) (sE σ (cN g)))) (ref σ 3)
def ovrS (k : Nat) (a : Nat → Nat) : Nat → Nat := bld (bas (k - 12)) (zs (k - 12)) (fun i => prt (bas k) a (i + 1))
noncomputable def st_over (σ : zS) (f : Int32) : Int32 × zS := cif (isF (sH σ) f) (cif (12 ≤ sW σ (cN f) ∧ sE σ (cN f) 0 = 0) (comeO σ (sW σ (cN f) - 12) (ovrS (sW σ (cN f)) (sE σ (cN f)))) (ref σ 7)) (ref σ 3)
def prmS (k p : Nat) (a : Nat → Nat) : Nat → Nat := bld (bas k) (zs k) (prt (bas k) (imgS k p a))
noncomputable def st_prime (σ : zS) (f p : Int32) : Int32 × zS := cif (isF (sH σ) f) (cif (isP p ∧ 4 ≤ sW σ (cN f)) (comeO σ (sW σ (cN f)) (prmS (sW σ (cN f)) (cN p) (sE σ (cN f)))) (ref σ 7)) (ref σ 3)
noncomputable def st_basis (σ : zS) (k i : Int32) : Int32 × zS := cif (isW k) (cif (isF (zs (cN k)) i) (comeO σ (cN k) (bas (cN k) (cN i))) (ref σ 3)) (ref σ 7)
def st_drop (σ : zS) : Int32 × zS := if sH σ = 0 then ref σ 2 else (nI (sH σ - 1), sH σ - 1, sW σ, sK σ, sT σ, sE σ, sF σ, sR σ, sV σ)
noncomputable def st_look (σ : zS) (f x : Int32) : Int32 × zS := cif (isF (sH σ) f) (cif (x = nI 0) (nI (sK σ (cN f)), σ) (cif (x = nI 1) (nI (sW σ (cN f)), σ) (cif (x = nI 2) (theI (lstR (sE σ (cN f))), σ) (cif (x = nI 3) (nI (zs (sW σ (cN f))), σ) (cif (x = nI 4) (cif (sK σ (cN f) = 1 ∨ sK σ (cN f) = 2) (nI (sT σ (cN f)), σ) (ref σ 5)) (ref σ 7)))))) (ref σ 3)
noncomputable def st_at (σ : zS) (f i : Int32) : Int32 × zS := cif (isF (sH σ) f ∧ isF 48 i) (nI (sE σ (cN f) (cN i)), σ) (ref σ 3)
noncomputable def st_part (σ : zS) (f i : Int32) : Int32 × zS := cif (isF (sH σ) f ∧ isF (zs (sW σ (cN f))) i) (nI (prt (bas (sW σ (cN f))) (sE σ (cN f)) (cN i)), σ) (ref σ 3)
noncomputable def st_same (σ : zS) (f g : Int32) : Int32 × zS := cif (isF (sH σ) f ∧ isF (sH σ) g) (cif ((sW σ (cN f) = sW σ (cN g) ∨ ∀ i, i < 48 → sE σ (cN f) i = 0) ∧ ∀ i, i < 48 → sE σ (cN f) i = sE σ (cN g) i) (nI 1, σ) (nI 0, σ)) (ref σ 3)
noncomputable def st_apart (σ : zS) (f g : Int32) : Int32 × zS := cif (isF (sH σ) f ∧ isF (sH σ) g) (cif (sW σ (cN f) = sW σ (cN g)) (theI (unlR (sE σ (cN f)) (sE σ (cN g))), σ) (ref σ 7)) (ref σ 3)
noncomputable def st_size (σ : zS) (k : Int32) : Int32 × zS := cif (isW k) (nI (zs (cN k)), σ) (ref σ 7)
noncomputable def st_own (σ : zS) (f p : Int32) : Int32 × zS := cif (isF (sH σ) f) (cif (isP p ∧ 4 ≤ sW σ (cN f)) (theI (ratR (imgS (sW σ (cN f)) (cN p) (sE σ (cN f))) (sE σ (cN f)) (zs (sW σ (cN f)))), σ) (ref σ 7)) (ref σ 3)
def trS (k p c0 : Nat) : Nat → Nat
  | 0 => 0
  | t + 1 => trS k p c0 t + if c0 ≤ t then prt (bas k) (imgS k p (bas k t)) t else 0
noncomputable def st_trace (σ : zS) (k p : Int32) (c0 : Nat) : Int32 × zS := cif (isW k ∧ 4 ≤ cN k ∧ isP p) (nI (trS (cN k) (cN p) c0 (zs (cN k)) % 1000003), σ) (ref σ 7)
/-- in how many ways m is a sum of so many squares -/
def sqN : Nat → Nat → Nat
  | 0, m => if m = 0 then 1 else 0
  | s + 1, m => sqN s m + 2 * sm (fun r => if 1 ≤ r ∧ r * r ≤ m then sqN s (m - r * r) else 0) 11
noncomputable def st_squares (σ : zS) (s m : Int32) : Int32 × zS := cif ((∃ k, 1 ≤ k ∧ k ≤ 8 ∧ s = nI k) ∧ isF 100 m) (nI (sqN (cN s) (cN m)), σ) (ref σ 7)
def st_count (σ : zS) : Int32 × zS := (nI (sH σ), σ)
noncomputable def st_lay (σ : zS) (f m : Int32) : Int32 × zS := cif (isF (sH σ) f) (cif (m < 0) (ref σ 4) (cif (48 < cN m) (ref σ 7) (m, sH σ, sW σ, sK σ, sT σ, sE σ, sF σ, some (cN m), sE σ (cN f)))) (ref σ 3)
noncomputable def st_tell (σ : zS) (i v : Int32) : Int32 × zS := cif (sR σ = none) (ref σ 2) (cif (isF ((sR σ).getD 0) i) (cif (sV σ (cN i) = zm v.toInt) (nI 0) (nI 1), sH σ, sW σ, sK σ, sT σ, sE σ, sF σ, sR σ, va_up (sV σ) (cN i) (zm v.toInt)) (ref σ 3))
noncomputable def st_give (σ : zS) (k : Int32) : Int32 × zS := cif (sR σ = none) (ref σ 2) (cif (isW k ∧ zs (cN k) ≤ (sR σ).getD 0) (comeO σ (cN k) (bld (bas (cN k)) (zs (cN k)) (prt (bas (cN k)) (sV σ)))) (ref σ 7))
noncomputable def st_tear (σ : zS) : Int32 × zS := (cif (sR σ = none) (nI 0) (nI 1), sH σ, sW σ, sK σ, sT σ, sE σ, sF σ, none, sV σ)
noncomputable def st_row (σ : zS) (i : Int32) : Int32 × zS := cif (sR σ = none) (ref σ 2) (cif (isF ((sR σ).getD 0) i) (nI (sV σ (cN i)), σ) (ref σ 3))
noncomputable def st_copy (σ : zS) (i j m : Int32) : Int32 × zS := cif (sR σ = none) (ref σ 2) (cif (m < 0) (ref σ 4) (cif (0 ≤ i.toInt ∧ 0 ≤ j.toInt ∧ i.toInt + m.toInt ≤ (((sR σ).getD 0 : Nat) : Int) ∧ j.toInt + m.toInt ≤ (((sR σ).getD 0 : Nat) : Int)) (m, sH σ, sW σ, sK σ, sT σ, sE σ, sF σ, sR σ, va_cpy (sV σ) (sV σ) (cN i) (cN j) (cN m)) (ref σ 6)))
noncomputable def st_status (σ : zS) (x : Int32) : Int32 × zS := cif (x ≤ -2 ∧ -8 ≤ x) (sF σ (cN (-x)), σ) (ref σ 7)
theorem ratR_one {b a : Nat → Nat} {z : Nat} (r r' : Int32) (h : ratR b a z r) (h' : ratR b a z r') : r = r' := by
  have key : ∀ r r', ratR b a z r → ratR b a z r' → (∃ j, isLeast a j ∧ j < z ∧ r = nI (b j * invM (a j) % 1000003) ∧ ∀ i, i < z → b i = b j * invM (a j) % 1000003 * a i % 1000003) → r = r' := by
    intro r r' _ h' ⟨j, h1, h2, h3, h4⟩
    rcases h' with ⟨j', g1, g2, g3, g4⟩ | ⟨g1, g2⟩
    · have e := isLeast_one h1 g1
      subst e
      rw [h3, g3]
    · rcases g2 with g2 | ⟨j', g2, g3⟩
      · exact absurd (g2 j h1.1) h1.2.1
      · have e := isLeast_one h1 g2
        subst e
        rcases g3 with g3 | ⟨i, g3, g4⟩
        · omega
        · exact absurd (h4 i g3) g4
  rcases h with h1 | ⟨h1, h2⟩
  · exact key r r' (Or.inl h1) h' h1
  · rcases h' with g1 | ⟨g1, g2⟩
    · exact (key r' r (Or.inl g1) (Or.inr ⟨h1, h2⟩) g1).symm
    · rw [h1, g1]
/-- findParts, join behind the class's own cells -/
theorem XOK.parts {G : zG} {ad : Nat → Nat} {w w' : Nat → va_E} {σ : zS} (h : XOK G ad w σ) {nf : Nat} (hB : BOK G ad w' nf nf) (hk : ∀ j, j ≠ 2 → ¬ (11 ≤ j ∧ j < 55) → j ≠ 55 → w' j = w j) (h55 : ∃ f, w' 55 = eL G 4 f) : XOK G ad w' σ := by
  refine h.gen ⟨nf, hB⟩ h55 ?_ ?_ (fun i hi q => ?_) (fun j h1 h2 => hk j (by omega) (by omega) (by omega))
  · rw [hk 56 (by omega) (by omega) (by omega)]; exact h.2.2.2.2.1
  · rw [hk 57 (by omega) (by omega) (by omega)]; exact h.2.2.2.2.2.1
  · obtain ⟨_, _, _, f, _, h2⟩ := h.free hi
    exact ⟨f, by rw [hk _ (by omega) (by omega) (by omega)]; exact h2⟩
theorem XOK.join1 {G : zG} {ad : Nat → Nat} {w w' : Nat → va_E} {σ : zS} (h : XOK G ad w σ) {nf : Nat} (hB : BOK G ad w' nf nf) (hk : ∀ j, j ≠ 2 → ¬ (11 ≤ j ∧ j < 55) → j ≠ 61 + 2 * sH σ → w' j = w j) (hn : ∃ f, w' (61 + 2 * sH σ) = eL G 48 f) : XOK G ad w' σ := by
  refine h.gen ⟨nf, hB⟩ ?_ ?_ ?_ (fun i hi q => by rw [q]; exact hn) (fun j h1 h2 => hk j (by omega) (by omega) h2)
  · rw [hk 55 (by omega) (by omega) (by omega)]; exact h.2.2.2.1
  · rw [hk 56 (by omega) (by omega) (by omega)]; exact h.2.2.2.2.1
  · rw [hk 57 (by omega) (by omega) (by omega)]; exact h.2.2.2.2.2.1
theorem XOK.img {G : zG} {ad : Nat → Nat} {w w' : Nat → va_E} {σ : zS} (h : XOK G ad w σ) (hk : ∀ j, j ≠ 56 → w' j = w j) (h56 : ∃ f, w' 56 = eL G 4 f) : XOK G ad w' σ := by
  obtain ⟨nf, hB⟩ := h.1
  refine h.gen ⟨nf, hB.keep (fun j q1 q2 => hk j (by omega))⟩ ?_ h56 ?_ (fun i hi q => ?_) (fun j h1 h2 => hk j (by omega))
  · rw [hk 55 (by omega)]; exact h.2.2.2.1
  · rw [hk 57 (by omega)]; exact h.2.2.2.2.2.1
  · obtain ⟨_, _, _, f, _, h2⟩ := h.free hi
    exact ⟨f, by rw [hk _ (by omega)]; exact h2⟩
theorem XOK.rows {G : zG} {ad : Nat → Nat} {w w' : Nat → va_E} {σ : zS} (h : XOK G ad w σ) {nf : Nat} (hB : BOK G ad w' nf nf) (hk : fr1 w w') : XOK G ad w' σ := by
  refine h.gen ⟨nf, hB⟩ ?_ ?_ ?_ (fun i hi q => ?_) (fun j h1 h2 => hk j (by omega) (by omega))
  · rw [hk 55 (by omega) (by omega)]; exact h.2.2.2.1
  · rw [hk 56 (by omega) (by omega)]; exact h.2.2.2.2.1
  · rw [hk 57 (by omega) (by omega)]; exact h.2.2.2.2.2.1
  · obtain ⟨_, _, _, f, _, h2⟩ := h.free hi
    exact ⟨f, by rw [hk _ (by omega) (by omega)]; exact h2⟩
theorem imgS_lt (k p : Nat) (a : Nat → Nat) (n : Nat) : imgS k p a n < 1000003 := Nat.mod_lt _ (by decide)
theorem bld_lt (b : Nat → Nat → Nat) (z : Nat) (p : Nat → Nat) (n : Nat) : bld b z p n < 1000003 := Nat.mod_lt _ (by decide)
theorem isP_rng {p : Nat} (h : p = 2 ∨ p = 3 ∨ p = 5 ∨ p = 7 ∨ p = 11) : 2 ≤ p ∧ p ≤ 11 := by omega
end
section
set_option maxHeartbeats 4000000 in
set_option maxRecDepth 100000 in
theorem k_X4_count (l : Launch) (G : zG) (n : Nat) (ad : Nat → Nat) (w : Nat → va_E) (hn : 92 ≤ n) (σ : zS) (hX : XOK G ad w σ) (hs : SOK σ)  :
    Ci l G yX4_count cdX4_count (zr 5) n ad w [.ref (ad (0))] (postX G ad w (st_count σ)) := by
  obtain ⟨⟨nf, hB⟩, x0, ⟨f1, x1, v1⟩, ⟨f55, x55⟩, ⟨f56, x56⟩, ⟨f57, x57⟩, ⟨f58, x58, v58⟩, ⟨f59, x59, v59⟩, xf⟩ := id hX
  have hsh := hs.1
  refine ent_i (cc := cX4_count) (maxL := 1) (ret := (some .int)) (by decide +kernel) rfl (Nat.le_of_ble_eq_true rfl) ?_
  intro p e s m args below meth c A B hr hlk hA H locs ls hW hl
  have hx := B.1
  have hb := B.2.1
  have hl : lv_has ls 1 [(0, .ref (ad (0)))] := hl
  obtain ⟨b2, -⟩ := id hB
  refine lv_aload_n hx hb dX4_count_0 rfl (lv_at hl 0 rfl) ?_
  refine z_get B hW (0) (by omega) x0 rfl inX4 1 (by decide) hw_113 rfl (v := .int (nI (sH σ))) rfl dX4_count_1 ?_
  exact ret_i B hr hlk hW ⟨rfl, hX, fun _ _ => rfl⟩ dX4_count_4
set_option maxHeartbeats 4000000 in
set_option maxRecDepth 100000 in
theorem k_X4_drop (l : Launch) (G : zG) (n : Nat) (ad : Nat → Nat) (w : Nat → va_E) (hn : 92 ≤ n) (σ : zS) (hX : XOK G ad w σ) (hs : SOK σ)  :
    Ci l G yX4_drop cdX4_drop (zr 5) n ad w [.ref (ad (0))] (postX G ad w (st_drop σ)) := by
  obtain ⟨⟨nf, hB⟩, x0, ⟨f1, x1, v1⟩, ⟨f55, x55⟩, ⟨f56, x56⟩, ⟨f57, x57⟩, ⟨f58, x58, v58⟩, ⟨f59, x59, v59⟩, xf⟩ := id hX
  have hsh := hs.1
  refine ent_i (cc := cX4_drop) (maxL := 1) (ret := (some .int)) (by decide +kernel) rfl (Nat.le_of_ble_eq_true rfl) ?_
  intro p e s m args below meth c A B hr hlk hA H locs ls hW hl
  have hx := B.1
  have hb := B.2.1
  have hl : lv_has ls 1 [(0, .ref (ad (0)))] := hl
  obtain ⟨b2, -⟩ := id hB
  refine lv_aload_n hx hb dX4_drop_0 rfl (lv_at hl 0 rfl) ?_
  refine z_get B hW (0) (by omega) x0 rfl inX4 1 (by decide) hw_113 rfl (v := .int (nI (sH σ))) rfl dX4_drop_1 ?_
  refine n_if_gt (tgt := 14) hx hb (by omega) dX4_drop_4 (by decide) (fun hc => ?_) (fun hc => ?_)
  · have hS : st_drop σ = (nI (sH σ - 1), sH σ - 1, sW σ, sK σ, sT σ, sE σ, sF σ, sR σ, sV σ) := by unfold st_drop; rw [if_neg (by omega)]
    rw [hS]
    refine lv_aload_n hx hb dX4_drop_14 rfl (lv_at hl 0 rfl) ?_
    refine lv_dup hx hb dX4_drop_15 rfl ?_
    refine z_get B hW (0) (by omega) x0 rfl inX4 1 (by decide) hw_113 rfl (v := .int (nI (sH σ))) rfl dX4_drop_16 ?_
    refine lv_iconst (v := nI 1) hx hb dX4_drop_19 (by decide) ?_
    refine n_isub hx hb (by omega) dX4_drop_20 ?_
    refine z_put B hW (0) (by omega) x0 rfl inX4 tyX4 tyX4_ok nmX4 1 (by decide) hw_113 rfl rfl (v := .int (nI ((sH σ) - 1))) rfl rfl (Nat.le_of_ble_eq_true rfl) dX4_drop_21 (fun H locs hW => ?_)
    have x0c : va_up w 0 (eO 2 [.ref (ad 1), .int (nI (sH σ - 1)), .ref (ad 2), .ref (ad 55), .ref (ad 56), .ref (ad 57), .ref (ad 58), .int (rlI (sR σ)), .ref (ad 59)]) 0 = _ := up_s
    refine lv_aload_n hx hb dX4_drop_24 rfl (lv_at hl 0 rfl) ?_
    refine z_get B hW (0) (by omega) x0c rfl inX4 1 (by decide) hw_113 rfl (v := .int (nI (sH σ - 1))) rfl dX4_drop_25 ?_
    refine ret_i B hr hlk hW ⟨rfl, ?_, fun j hj => up_n (by omega)⟩ dX4_drop_28
    refine ⟨⟨nf, hB.keep (fun j q1 q2 => up_n (by omega))⟩, x0c, ⟨f1, (up_n (by decide)).trans x1, v1⟩, ⟨f55, (up_n (by decide)).trans x55⟩, ⟨f56, (up_n (by decide)).trans x56⟩, ⟨f57, (up_n (by decide)).trans x57⟩, ⟨f58, (up_n (by decide)).trans x58, v58⟩, ⟨f59, (up_n (by decide)).trans x59, v59⟩, fun i hi => ?_⟩
    obtain ⟨a1, a2, a3, a4, a5, a6, a7⟩ := xf i hi
    refine ⟨a1, a2, a3, a4, (up_n (by omega)).trans a5, (up_n (by omega)).trans a6, fun hi2 => a7 ?_⟩
    have hi2 : i < sH σ - 1 := hi2
    omega
  · refine lv_aload_n hx hb dX4_drop_7 rfl (lv_at hl 0 rfl) ?_
    refine lv_bipush (v := -2) hx hb dX4_drop_8 (by decide) ?_
    refine call_vi B hA hW (0) (by omega) x0 (r := _) rfl rfl (k_refuse l G n ad w hn σ hX (-2) 2 (by decide) (by decide) (by decide) (by decide) (by decide)) mf_X4_refuse hw_149 rfl ⟨⟨rfl, rfl⟩, by decide, by decide⟩ ⟨Nat.zero_le _, Nat.zero_le _⟩ hl.1 rfl (Nat.le_of_ble_eq_true rfl) dX4_drop_10 (fun r w9 H locs hp hW => ?_)
    exact ret_i B hr hlk hW (by rw [show st_drop σ = ref σ 2 by unfold st_drop; rw [if_pos hc]]; exact hp) dX4_drop_13
set_option maxHeartbeats 4000000 in
set_option maxRecDepth 100000 in
theorem k_X4_size (l : Launch) (G : zG) (n : Nat) (ad : Nat → Nat) (w : Nat → va_E) (hn : 92 ≤ n) (σ : zS) (hX : XOK G ad w σ) (hs : SOK σ) (x : Int32) :
    Ci l G yX4_size cdX4_size (zr 5) n ad w [.ref (ad (0)), .int (x)] (postX G ad w (st_size σ x)) := by
  obtain ⟨⟨nf, hB⟩, x0, ⟨f1, x1, v1⟩, ⟨f55, x55⟩, ⟨f56, x56⟩, ⟨f57, x57⟩, ⟨f58, x58, v58⟩, ⟨f59, x59, v59⟩, xf⟩ := id hX
  have hsh := hs.1
  refine ent_i (cc := cX4_size) (maxL := 2) (ret := (some .int)) (by decide +kernel) rfl (Nat.le_of_ble_eq_true rfl) ?_
  intro p e s m args below meth c A B hr hlk hA H locs ls hW hl
  have hx := B.1
  have hb := B.2.1
  have hl : lv_has ls 2 [(0, .ref (ad (0))), (1, .int (x))] := hl
  obtain ⟨b2, -⟩ := id hB
  refine lv_iload_n hx hb dX4_size_0 rfl (lv_at hl 1 rfl) ?_
  refine call_si B hA hW (k_isWeight l G n ad w x) mf_X4_isWeight hw_264 rfl ⟨⟨rfl, rfl⟩, by decide, by decide⟩ ⟨Nat.zero_le _, Nat.zero_le _⟩ hl.1 rfl (Nat.le_of_ble_eq_true rfl) dX4_size_1 (fun r w9 H locs hp hW => ?_)
  obtain ⟨e1, hp⟩ := hp
  rw [e1] at hW
  rcases hp with ⟨k, hk, hk2, rfl, rfl⟩ | ⟨hnf, rfl⟩
  · refine n_if_eq (tgt := 18) hx hb (by omega) dX4_size_4 (by decide) (fun hz => ?_) (fun hz => ?_)
    · exact absurd hz (by decide)
    · refine lv_aload_n hx hb dX4_size_7 rfl (lv_at hl 0 rfl) ?_
      refine z_get B hW (0) (by omega) x0 rfl inX4 2 (by decide) hw_114 rfl (v := .ref (ad (2))) rfl dX4_size_8 ?_
      refine lv_iload_n hx hb dX4_size_11 rfl (lv_at hl 1 rfl) ?_
      refine call_vi B hA hW (2) (by omega) b2 (r := _) rfl rfl (k_sizeOf l G n ad w k nf nf (by omega) hk hB) mf_X0_sizeOf hw_242 rfl ⟨⟨rfl, rfl⟩, by decide, by decide⟩ ⟨Nat.zero_le _, Nat.zero_le _⟩ hl.1 rfl (Nat.le_of_ble_eq_true rfl) dX4_size_12 (fun r w9 H locs hp hW => ?_)
      obtain ⟨e1, e2⟩ := hp
      rw [e1] at hW
      subst e2
      refine lv_goto (tgt := 24) hx hb dX4_size_15 (by decide) ?_
      exact ret_i B hr hlk hW (by rw [show st_size σ (nI k) = (nI (zs k), σ) by unfold st_size; rw [cif_t ⟨k, hk, hk2, rfl⟩, cN_nI (by omega)]]; exact ⟨rfl, hX, fun _ _ => rfl⟩) dX4_size_24
  · refine n_if_eq (tgt := 18) hx hb (by omega) dX4_size_4 (by decide) (fun hz => ?_) (fun hz => ?_)
    · refine lv_aload_n hx hb dX4_size_18 rfl (lv_at hl 0 rfl) ?_
      refine lv_bipush (v := -7) hx hb dX4_size_19 (by decide) ?_
      refine call_vi B hA hW (0) (by omega) x0 (r := _) rfl rfl (k_refuse l G n ad w hn σ hX (-7) 7 (by decide) (by decide) (by decide) (by decide) (by decide)) mf_X4_refuse hw_149 rfl ⟨⟨rfl, rfl⟩, by decide, by decide⟩ ⟨Nat.zero_le _, Nat.zero_le _⟩ hl.1 rfl (Nat.le_of_ble_eq_true rfl) dX4_size_21 (fun r w9 H locs hp hW => ?_)
      exact ret_i B hr hlk hW (by rw [show st_size σ x = ref σ 7 by unfold st_size; rw [cif_f (P := isW x) hnf]]; exact hp) dX4_size_24
    · exact absurd rfl hz
set_option maxHeartbeats 4000000 in
set_option maxRecDepth 100000 in
theorem k_X4_times (l : Launch) (G : zG) (n : Nat) (ad : Nat → Nat) (w : Nat → va_E) (hn : 92 ≤ n) (σ : zS) (hX : XOK G ad w σ) (hs : SOK σ) (f g : Int32) :
    Ci l G yX4_times cdX4_times (zr 5) n ad w [.ref (ad (0)), .int (f), .int (g)] (postX G ad w (st_times σ f g)) := by
  obtain ⟨⟨nf, hB⟩, x0, ⟨f1, x1, v1⟩, ⟨f55, x55⟩, ⟨f56, x56⟩, ⟨f57, x57⟩, ⟨f58, x58, v58⟩, ⟨f59, x59, v59⟩, xf⟩ := id hX
  have hsh := hs.1
  refine ent_i (cc := cX4_times) (maxL := 4) (ret := (some .int)) (by decide +kernel) rfl (Nat.le_of_ble_eq_true rfl) ?_
  intro p e s m args below meth c A B hr hlk hA H locs ls hW hl
  have hx := B.1
  have hb := B.2.1
  have hl : lv_has ls 4 [(0, .ref (ad (0))), (1, .int (f)), (2, .int (g))] := hl
  obtain ⟨b2, -⟩ := id hB
  refine lv_aload_n hx hb dX4_times_0 rfl (lv_at hl 0 rfl) ?_
  refine lv_iload_n hx hb dX4_times_1 rfl (lv_at hl 1 rfl) ?_
  refine call_vi B hA hW (0) (by omega) x0 (r := _) rfl rfl (k_isForm l G n ad w hn σ hX hs f) mf_X4_isForm hw_184 rfl ⟨⟨rfl, rfl⟩, by decide, by decide⟩ ⟨Nat.zero_le _, Nat.zero_le _⟩ hl.1 rfl (Nat.le_of_ble_eq_true rfl) dX4_times_2 (fun r w9 H locs hp hW => ?_)
  obtain ⟨e1, hp⟩ := hp
  rw [e1] at hW
  rcases hp with ⟨i, hi, rfl, rfl⟩ | ⟨hnf, rfl⟩
  · obtain ⟨w40_i, w2_i, k4_i, t40_i, r_i, s_i⟩ := hs.2.1 i hi
    obtain ⟨o_i, n_i⟩ := hX.form hs hi
    obtain ⟨f_i, e_i, v_i⟩ := id n_i
    refine n_if_eq (tgt := 16) hx hb (by omega) dX4_times_5 (by decide) (fun hz => ?_) (fun hz => ?_)
    · exact absurd hz (by decide)
    · refine lv_aload_n hx hb dX4_times_8 rfl (lv_at hl 0 rfl) ?_
      refine lv_iload_n hx hb dX4_times_9 rfl (lv_at hl 2 rfl) ?_
      refine call_vi B hA hW (0) (by omega) x0 (r := _) rfl rfl (k_isForm l G n ad w hn σ hX hs g) mf_X4_isForm hw_184 rfl ⟨⟨rfl, rfl⟩, by decide, by decide⟩ ⟨Nat.zero_le _, Nat.zero_le _⟩ hl.1 rfl (Nat.le_of_ble_eq_true rfl) dX4_times_10 (fun r w9 H locs hp hW => ?_)
      obtain ⟨e1, hp⟩ := hp
      rw [e1] at hW
      rcases hp with ⟨j, hj, rfl, rfl⟩ | ⟨hnf, rfl⟩
      · obtain ⟨w40_j, w2_j, k4_j, t40_j, r_j, s_j⟩ := hs.2.1 j hj
        obtain ⟨o_j, n_j⟩ := hX.form hs hj
        obtain ⟨f_j, e_j, v_j⟩ := id n_j
        refine n_if_ne (tgt := 23) hx hb (by omega) dX4_times_13 (by decide) (fun hz => ?_) (fun hz => ?_)
        · have hS : st_times σ (nI i) (nI j) = comeO σ (sW σ i + sW σ j) (mulS (sE σ i) (sE σ j)) := by
            unfold st_times
            rw [cif_t ⟨⟨i, hi, rfl⟩, ⟨j, hj, rfl⟩⟩, cN_nI (by omega), cN_nI (by omega)]
          rw [hS]
          refine lv_aload_n hx hb dX4_times_23 rfl (lv_at hl 0 rfl) ?_
          refine z_get B hW (0) (by omega) x0 rfl inX4 0 (by decide) hw_112 rfl (v := .ref (ad (1))) rfl dX4_times_24 ?_
          refine lv_iload_n hx hb dX4_times_27 rfl (lv_at hl 1 rfl) ?_
          refine z_aald B hW (1) (by omega) x1 (i) (by omega) (by decide) (q := ad (60 + 2 * (i))) (v1 _ (by omega)) dX4_times_28 ?_
          refine z_get B hW (60 + 2 * (i)) (by omega) o_i rfl inX1 1 (by decide) hw_100 rfl (v := .int (nI (sW σ i))) rfl dX4_times_29 ?_
          refine lv_aload_n hx hb dX4_times_32 rfl (lv_at hl 0 rfl) ?_
          refine z_get B hW (0) (by omega) x0 rfl inX4 0 (by decide) hw_112 rfl (v := .ref (ad (1))) rfl dX4_times_33 ?_
          refine lv_iload_n hx hb dX4_times_36 rfl (lv_at hl 2 rfl) ?_
          refine z_aald B hW (1) (by omega) x1 (j) (by omega) (by decide) (q := ad (60 + 2 * (j))) (v1 _ (by omega)) dX4_times_37 ?_
          refine z_get B hW (60 + 2 * (j)) (by omega) o_j rfl inX1 1 (by decide) hw_100 rfl (v := .int (nI (sW σ j))) rfl dX4_times_38 ?_
          refine n_iadd hx hb dX4_times_41 ?_
          refine lv_istore_n (lv' := [(3, .int (nI ((sW σ i) + (sW σ j)))), (0, .ref (ad (0))), (1, .int (nI (i))), (2, .int (nI (j)))]) hx hb dX4_times_42 rfl hl (by decide) rfl (fun ls hl => ?_)
          refine lv_aload_n hx hb dX4_times_43 rfl (lv_at hl 1 rfl) ?_
          refine lv_iload_n hx hb dX4_times_44 rfl (lv_at hl 0 rfl) ?_
          refine call_vi B hA hW (0) (by omega) x0 (r := _) rfl rfl (k_hasRoom l G n ad w hn σ hX hs (sW σ i + sW σ j) (by omega)) mf_X4_hasRoom hw_156 rfl ⟨⟨rfl, rfl⟩, by decide, by decide⟩ ⟨Nat.zero_le _, Nat.zero_le _⟩ hl.1 rfl (Nat.le_of_ble_eq_true rfl) dX4_times_45 (fun r w9 H locs hp hW => ?_)
          obtain ⟨e1, hp⟩ := hp
          rw [e1] at hW
          rcases hp with ⟨hh, hk40, rfl⟩ | ⟨hnr, rfl⟩
          · obtain ⟨xa, ya, za, fa, g1, g2⟩ := hX.free hh
            refine n_if_ne (tgt := 58) hx hb (by omega) dX4_times_48 (by decide) (fun hz => ?_) (fun hz => ?_)
            · refine lv_aload_n hx hb dX4_times_58 rfl (lv_at hl 1 rfl) ?_
              refine z_get B hW (0) (by omega) x0 rfl inX4 0 (by decide) hw_112 rfl (v := .ref (ad (1))) rfl dX4_times_59 ?_
              refine lv_iload_n hx hb dX4_times_62 rfl (lv_at hl 2 rfl) ?_
              refine z_aald B hW (1) (by omega) x1 (i) (by omega) (by decide) (q := ad (60 + 2 * (i))) (v1 _ (by omega)) dX4_times_63 ?_
              refine z_get B hW (60 + 2 * (i)) (by omega) o_i rfl inX1 0 (by decide) hw_98 rfl (v := .ref (ad (61 + 2 * (i)))) rfl dX4_times_64 ?_
              refine lv_aload_n hx hb dX4_times_67 rfl (lv_at hl 1 rfl) ?_
              refine z_get B hW (0) (by omega) x0 rfl inX4 0 (by decide) hw_112 rfl (v := .ref (ad (1))) rfl dX4_times_68 ?_
              refine lv_iload_n hx hb dX4_times_71 rfl (lv_at hl 3 rfl) ?_
              refine z_aald B hW (1) (by omega) x1 (j) (by omega) (by decide) (q := ad (60 + 2 * (j))) (v1 _ (by omega)) dX4_times_72 ?_
              refine z_get B hW (60 + 2 * (j)) (by omega) o_j rfl inX1 0 (by decide) hw_98 rfl (v := .ref (ad (61 + 2 * (j)))) rfl dX4_times_73 ?_
              refine lv_aload_n hx hb dX4_times_76 rfl (lv_at hl 1 rfl) ?_
              refine z_get B hW (0) (by omega) x0 rfl inX4 0 (by decide) hw_112 rfl (v := .ref (ad (1))) rfl dX4_times_77 ?_
              refine lv_aload_n hx hb dX4_times_80 rfl (lv_at hl 1 rfl) ?_
              refine z_get B hW (0) (by omega) x0 rfl inX4 1 (by decide) hw_113 rfl (v := .int (nI (sH σ))) rfl dX4_times_81 ?_
              refine z_aald B hW (1) (by omega) x1 (sH σ) (by omega) (by decide) (q := ad (60 + 2 * (sH σ))) (v1 _ (by omega)) dX4_times_84 ?_
              refine z_get B hW (60 + 2 * (sH σ)) (by omega) g1 rfl inX1 0 (by decide) hw_98 rfl (v := .ref (ad (61 + 2 * (sH σ)))) rfl dX4_times_85 ?_
              refine call_sv B hA hW (k_X3_multiply l G n ad w (61 + 2 * i) (61 + 2 * j) (61 + 2 * sH σ) (sE σ i) (sE σ j) (by omega) (by omega) (by omega) n_i n_j ⟨_, g2⟩ r_i.s r_j.s) mf_X3_multiply hw_197 rfl ⟨⟨rfl, rfl⟩, by decide, by decide⟩ ⟨Nat.zero_le _, Nat.zero_le _⟩ hl.1 rfl (Nat.le_of_ble_eq_true rfl) dX4_times_88 (fun w2 H locs hp hW => ?_)
              have hX2 : XOK G ad w2 σ := hX.num ⟨_, hp.2.choose_spec.1⟩ hp.1
              refine lv_aload_n hx hb dX4_times_91 rfl (lv_at hl 1 rfl) ?_
              refine lv_iload_n hx hb dX4_times_92 rfl (lv_at hl 0 rfl) ?_
              refine call_vi B hA hW (0) (by omega) hX2.2.1 (r := _) rfl rfl (k_comeOfOthers l G n ad w2 hn σ hX2 hs hh (sW σ i + sW σ j) hk40 (mulS (sE σ i) (sE σ j)) hp.2 (mulS_lt _ _ _)) mf_X4_comeOfOthers hw_189 rfl ⟨⟨rfl, rfl⟩, by decide, by decide⟩ ⟨Nat.zero_le _, Nat.zero_le _⟩ hl.1 rfl (Nat.le_of_ble_eq_true rfl) dX4_times_93 (fun r w9 H locs hp9 hW => ?_)
              exact ret_i B hr hlk hW ⟨hp9.1, hp9.2.1, fun j hj => (hp9.2.2 j hj).trans (hp.1 j (by omega))⟩ dX4_times_96
            · exact absurd hz (by decide)
          · refine n_if_ne (tgt := 58) hx hb (by omega) dX4_times_48 (by decide) (fun hz => ?_) (fun hz => ?_)
            · exact absurd rfl hz
            · refine lv_aload_n hx hb dX4_times_51 rfl (lv_at hl 1 rfl) ?_
              refine lv_bipush (v := -8) hx hb dX4_times_52 (by decide) ?_
              refine call_vi B hA hW (0) (by omega) x0 (r := _) rfl rfl (k_refuse l G n ad w hn σ hX (-8) 8 (by decide) (by decide) (by decide) (by decide) (by decide)) mf_X4_refuse hw_149 rfl ⟨⟨rfl, rfl⟩, by decide, by decide⟩ ⟨Nat.zero_le _, Nat.zero_le _⟩ hl.1 rfl (Nat.le_of_ble_eq_true rfl) dX4_times_54 (fun r w9 H locs hp hW => ?_)
              exact ret_i B hr hlk hW (by rw [comeO_full hnr]; exact hp) dX4_times_57
        · exact absurd hz (by decide)
      · refine n_if_ne (tgt := 23) hx hb (by omega) dX4_times_13 (by decide) (fun hz => ?_) (fun hz => ?_)
        · exact absurd rfl hz
        · refine lv_aload_n hx hb dX4_times_16 rfl (lv_at hl 0 rfl) ?_
          refine lv_bipush (v := -3) hx hb dX4_times_17 (by decide) ?_
          refine call_vi B hA hW (0) (by omega) x0 (r := _) rfl rfl (k_refuse l G n ad w hn σ hX (-3) 3 (by decide) (by decide) (by decide) (by decide) (by decide)) mf_X4_refuse hw_149 rfl ⟨⟨rfl, rfl⟩, by decide, by decide⟩ ⟨Nat.zero_le _, Nat.zero_le _⟩ hl.1 rfl (Nat.le_of_ble_eq_true rfl) dX4_times_19 (fun r w9 H locs hp hW => ?_)
          exact ret_i B hr hlk hW (by rw [show st_times σ (nI i) g = ref σ 3 by unfold st_times; rw [cif_f (fun q => hnf q.2)]]; exact hp) dX4_times_22
  · refine n_if_eq (tgt := 16) hx hb (by omega) dX4_times_5 (by decide) (fun hz => ?_) (fun hz => ?_)
    · refine lv_aload_n hx hb dX4_times_16 rfl (lv_at hl 0 rfl) ?_
      refine lv_bipush (v := -3) hx hb dX4_times_17 (by decide) ?_
      refine call_vi B hA hW (0) (by omega) x0 (r := _) rfl rfl (k_refuse l G n ad w hn σ hX (-3) 3 (by decide) (by decide) (by decide) (by decide) (by decide)) mf_X4_refuse hw_149 rfl ⟨⟨rfl, rfl⟩, by decide, by decide⟩ ⟨Nat.zero_le _, Nat.zero_le _⟩ hl.1 rfl (Nat.le_of_ble_eq_true rfl) dX4_times_19 (fun r w9 H locs hp hW => ?_)
      exact ret_i B hr hlk hW (by rw [show st_times σ f g = ref σ 3 by unfold st_times; rw [cif_f (fun q => hnf q.1)]]; exact hp) dX4_times_22
    · exact absurd rfl hz
set_option maxHeartbeats 4000000 in
set_option maxRecDepth 100000 in
theorem k_X4_bracket (l : Launch) (G : zG) (n : Nat) (ad : Nat → Nat) (w : Nat → va_E) (hn : 92 ≤ n) (σ : zS) (hX : XOK G ad w σ) (hs : SOK σ) (f g : Int32) :
    Ci l G yX4_bracket cdX4_bracket (zr 5) n ad w [.ref (ad (0)), .int (f), .int (g)] (postX G ad w (st_bracket σ f g)) := by
  obtain ⟨⟨nf, hB⟩, x0, ⟨f1, x1, v1⟩, ⟨f55, x55⟩, ⟨f56, x56⟩, ⟨f57, x57⟩, ⟨f58, x58, v58⟩, ⟨f59, x59, v59⟩, xf⟩ := id hX
  have hsh := hs.1
  refine ent_i (cc := cX4_bracket) (maxL := 4) (ret := (some .int)) (by decide +kernel) rfl (Nat.le_of_ble_eq_true rfl) ?_
  intro p e s m args below meth c A B hr hlk hA H locs ls hW hl
  have hx := B.1
  have hb := B.2.1
  have hl : lv_has ls 4 [(0, .ref (ad (0))), (1, .int (f)), (2, .int (g))] := hl
  obtain ⟨b2, -⟩ := id hB
  refine lv_aload_n hx hb dX4_bracket_0 rfl (lv_at hl 0 rfl) ?_
  refine lv_iload_n hx hb dX4_bracket_1 rfl (lv_at hl 1 rfl) ?_
  refine call_vi B hA hW (0) (by omega) x0 (r := _) rfl rfl (k_isForm l G n ad w hn σ hX hs f) mf_X4_isForm hw_184 rfl ⟨⟨rfl, rfl⟩, by decide, by decide⟩ ⟨Nat.zero_le _, Nat.zero_le _⟩ hl.1 rfl (Nat.le_of_ble_eq_true rfl) dX4_bracket_2 (fun r w9 H locs hp hW => ?_)
  obtain ⟨e1, hp⟩ := hp
  rw [e1] at hW
  rcases hp with ⟨i, hi, rfl, rfl⟩ | ⟨hnf, rfl⟩
  · obtain ⟨w40_i, w2_i, k4_i, t40_i, r_i, s_i⟩ := hs.2.1 i hi
    obtain ⟨o_i, n_i⟩ := hX.form hs hi
    obtain ⟨f_i, e_i, v_i⟩ := id n_i
    refine n_if_eq (tgt := 16) hx hb (by omega) dX4_bracket_5 (by decide) (fun hz => ?_) (fun hz => ?_)
    · exact absurd hz (by decide)
    · refine lv_aload_n hx hb dX4_bracket_8 rfl (lv_at hl 0 rfl) ?_
      refine lv_iload_n hx hb dX4_bracket_9 rfl (lv_at hl 2 rfl) ?_
      refine call_vi B hA hW (0) (by omega) x0 (r := _) rfl rfl (k_isForm l G n ad w hn σ hX hs g) mf_X4_isForm hw_184 rfl ⟨⟨rfl, rfl⟩, by decide, by decide⟩ ⟨Nat.zero_le _, Nat.zero_le _⟩ hl.1 rfl (Nat.le_of_ble_eq_true rfl) dX4_bracket_10 (fun r w9 H locs hp hW => ?_)
      obtain ⟨e1, hp⟩ := hp
      rw [e1] at hW
      rcases hp with ⟨j, hj, rfl, rfl⟩ | ⟨hnf, rfl⟩
      · obtain ⟨w40_j, w2_j, k4_j, t40_j, r_j, s_j⟩ := hs.2.1 j hj
        obtain ⟨o_j, n_j⟩ := hX.form hs hj
        obtain ⟨f_j, e_j, v_j⟩ := id n_j
        refine n_if_ne (tgt := 23) hx hb (by omega) dX4_bracket_13 (by decide) (fun hz => ?_) (fun hz => ?_)
        · have hS : st_bracket σ (nI i) (nI j) = comeO σ (sW σ i + sW σ j + 2) (brS (sW σ i) (sW σ j) (sE σ i) (sE σ j)) := by
            unfold st_bracket
            rw [cif_t ⟨⟨i, hi, rfl⟩, ⟨j, hj, rfl⟩⟩, cN_nI (by omega), cN_nI (by omega)]
          rw [hS]
          refine lv_aload_n hx hb dX4_bracket_23 rfl (lv_at hl 0 rfl) ?_
          refine z_get B hW (0) (by omega) x0 rfl inX4 0 (by decide) hw_112 rfl (v := .ref (ad (1))) rfl dX4_bracket_24 ?_
          refine lv_iload_n hx hb dX4_bracket_27 rfl (lv_at hl 1 rfl) ?_
          refine z_aald B hW (1) (by omega) x1 (i) (by omega) (by decide) (q := ad (60 + 2 * (i))) (v1 _ (by omega)) dX4_bracket_28 ?_
          refine z_get B hW (60 + 2 * (i)) (by omega) o_i rfl inX1 1 (by decide) hw_100 rfl (v := .int (nI (sW σ i))) rfl dX4_bracket_29 ?_
          refine lv_aload_n hx hb dX4_bracket_32 rfl (lv_at hl 0 rfl) ?_
          refine z_get B hW (0) (by omega) x0 rfl inX4 0 (by decide) hw_112 rfl (v := .ref (ad (1))) rfl dX4_bracket_33 ?_
          refine lv_iload_n hx hb dX4_bracket_36 rfl (lv_at hl 2 rfl) ?_
          refine z_aald B hW (1) (by omega) x1 (j) (by omega) (by decide) (q := ad (60 + 2 * (j))) (v1 _ (by omega)) dX4_bracket_37 ?_
          refine z_get B hW (60 + 2 * (j)) (by omega) o_j rfl inX1 1 (by decide) hw_100 rfl (v := .int (nI (sW σ j))) rfl dX4_bracket_38 ?_
          refine n_iadd hx hb dX4_bracket_41 ?_
          refine lv_iconst (v := nI 2) hx hb dX4_bracket_42 (by decide) ?_
          refine n_iadd hx hb dX4_bracket_43 ?_
          refine lv_istore_n (lv' := [(3, .int (nI (((sW σ i) + (sW σ j)) + 2))), (0, .ref (ad (0))), (1, .int (nI (i))), (2, .int (nI (j)))]) hx hb dX4_bracket_44 rfl hl (by decide) rfl (fun ls hl => ?_)
          refine lv_aload_n hx hb dX4_bracket_45 rfl (lv_at hl 1 rfl) ?_
          refine lv_iload_n hx hb dX4_bracket_46 rfl (lv_at hl 0 rfl) ?_
          refine call_vi B hA hW (0) (by omega) x0 (r := _) rfl rfl (k_hasRoom l G n ad w hn σ hX hs (sW σ i + sW σ j + 2) (by omega)) mf_X4_hasRoom hw_156 rfl ⟨⟨rfl, rfl⟩, by decide, by decide⟩ ⟨Nat.zero_le _, Nat.zero_le _⟩ hl.1 rfl (Nat.le_of_ble_eq_true rfl) dX4_bracket_47 (fun r w9 H locs hp hW => ?_)
          obtain ⟨e1, hp⟩ := hp
          rw [e1] at hW
          rcases hp with ⟨hh, hk40, rfl⟩ | ⟨hnr, rfl⟩
          · obtain ⟨xa, ya, za, fa, g1, g2⟩ := hX.free hh
            refine n_if_ne (tgt := 60) hx hb (by omega) dX4_bracket_50 (by decide) (fun hz => ?_) (fun hz => ?_)
            · refine lv_aload_n hx hb dX4_bracket_60 rfl (lv_at hl 1 rfl) ?_
              refine z_get B hW (0) (by omega) x0 rfl inX4 0 (by decide) hw_112 rfl (v := .ref (ad (1))) rfl dX4_bracket_61 ?_
              refine lv_iload_n hx hb dX4_bracket_64 rfl (lv_at hl 2 rfl) ?_
              refine z_aald B hW (1) (by omega) x1 (i) (by omega) (by decide) (q := ad (60 + 2 * (i))) (v1 _ (by omega)) dX4_bracket_65 ?_
              refine lv_aload_n hx hb dX4_bracket_66 rfl (lv_at hl 1 rfl) ?_
              refine z_get B hW (0) (by omega) x0 rfl inX4 0 (by decide) hw_112 rfl (v := .ref (ad (1))) rfl dX4_bracket_67 ?_
              refine lv_iload_n hx hb dX4_bracket_70 rfl (lv_at hl 3 rfl) ?_
              refine z_aald B hW (1) (by omega) x1 (j) (by omega) (by decide) (q := ad (60 + 2 * (j))) (v1 _ (by omega)) dX4_bracket_71 ?_
              refine lv_aload_n hx hb dX4_bracket_72 rfl (lv_at hl 1 rfl) ?_
              refine z_get B hW (0) (by omega) x0 rfl inX4 0 (by decide) hw_112 rfl (v := .ref (ad (1))) rfl dX4_bracket_73 ?_
              refine lv_aload_n hx hb dX4_bracket_76 rfl (lv_at hl 1 rfl) ?_
              refine z_get B hW (0) (by omega) x0 rfl inX4 1 (by decide) hw_113 rfl (v := .int (nI (sH σ))) rfl dX4_bracket_77 ?_
              refine z_aald B hW (1) (by omega) x1 (sH σ) (by omega) (by decide) (q := ad (60 + 2 * (sH σ))) (v1 _ (by omega)) dX4_bracket_80 ?_
              refine z_get B hW (60 + 2 * (sH σ)) (by omega) g1 rfl inX1 0 (by decide) hw_98 rfl (v := .ref (ad (61 + 2 * (sH σ)))) rfl dX4_bracket_81 ?_
              refine call_sv B hA hW (k_putBracket l G n ad w (60 + 2 * i) (60 + 2 * j) (61 + 2 * i) (61 + 2 * j) (61 + 2 * sH σ) (sW σ i) (sW σ j) (nI (sK σ i)) (nI (sT σ i)) (nI (sK σ j)) (nI (sT σ j)) (sE σ i) (sE σ j) (by omega) (by omega) (by omega) (by omega) (by omega) w40_i w40_j o_i o_j n_i n_j r_i.s r_j.s ⟨_, g2⟩ (by omega) (by omega) (by omega) (by omega)) mf_X1_putBracket hw_211 rfl ⟨⟨rfl, rfl⟩, by decide, by decide⟩ ⟨Nat.zero_le _, Nat.zero_le _⟩ hl.1 rfl (Nat.le_of_ble_eq_true rfl) dX4_bracket_84 (fun w2 H locs hp hW => ?_)
              have hX2 : XOK G ad w2 σ := hX.num ⟨_, hp.2.choose_spec.1⟩ hp.1
              refine lv_aload_n hx hb dX4_bracket_87 rfl (lv_at hl 1 rfl) ?_
              refine lv_iload_n hx hb dX4_bracket_88 rfl (lv_at hl 0 rfl) ?_
              refine call_vi B hA hW (0) (by omega) hX2.2.1 (r := _) rfl rfl (k_comeOfOthers l G n ad w2 hn σ hX2 hs hh (sW σ i + sW σ j + 2) hk40 (brS (sW σ i) (sW σ j) (sE σ i) (sE σ j)) hp.2 (Nat.mod_lt _ (by decide))) mf_X4_comeOfOthers hw_189 rfl ⟨⟨rfl, rfl⟩, by decide, by decide⟩ ⟨Nat.zero_le _, Nat.zero_le _⟩ hl.1 rfl (Nat.le_of_ble_eq_true rfl) dX4_bracket_89 (fun r w9 H locs hp9 hW => ?_)
              exact ret_i B hr hlk hW ⟨hp9.1, hp9.2.1, fun j hj => (hp9.2.2 j hj).trans (hp.1 j (by omega))⟩ dX4_bracket_92
            · exact absurd hz (by decide)
          · refine n_if_ne (tgt := 60) hx hb (by omega) dX4_bracket_50 (by decide) (fun hz => ?_) (fun hz => ?_)
            · exact absurd rfl hz
            · refine lv_aload_n hx hb dX4_bracket_53 rfl (lv_at hl 1 rfl) ?_
              refine lv_bipush (v := -8) hx hb dX4_bracket_54 (by decide) ?_
              refine call_vi B hA hW (0) (by omega) x0 (r := _) rfl rfl (k_refuse l G n ad w hn σ hX (-8) 8 (by decide) (by decide) (by decide) (by decide) (by decide)) mf_X4_refuse hw_149 rfl ⟨⟨rfl, rfl⟩, by decide, by decide⟩ ⟨Nat.zero_le _, Nat.zero_le _⟩ hl.1 rfl (Nat.le_of_ble_eq_true rfl) dX4_bracket_56 (fun r w9 H locs hp hW => ?_)
              exact ret_i B hr hlk hW (by rw [comeO_full hnr]; exact hp) dX4_bracket_59
        · exact absurd hz (by decide)
      · refine n_if_ne (tgt := 23) hx hb (by omega) dX4_bracket_13 (by decide) (fun hz => ?_) (fun hz => ?_)
        · exact absurd rfl hz
        · refine lv_aload_n hx hb dX4_bracket_16 rfl (lv_at hl 0 rfl) ?_
          refine lv_bipush (v := -3) hx hb dX4_bracket_17 (by decide) ?_
          refine call_vi B hA hW (0) (by omega) x0 (r := _) rfl rfl (k_refuse l G n ad w hn σ hX (-3) 3 (by decide) (by decide) (by decide) (by decide) (by decide)) mf_X4_refuse hw_149 rfl ⟨⟨rfl, rfl⟩, by decide, by decide⟩ ⟨Nat.zero_le _, Nat.zero_le _⟩ hl.1 rfl (Nat.le_of_ble_eq_true rfl) dX4_bracket_19 (fun r w9 H locs hp hW => ?_)
          exact ret_i B hr hlk hW (by rw [show st_bracket σ (nI i) g = ref σ 3 by unfold st_bracket; rw [cif_f (fun q => hnf q.2)]]; exact hp) dX4_bracket_22
  · refine n_if_eq (tgt := 16) hx hb (by omega) dX4_bracket_5 (by decide) (fun hz => ?_) (fun hz => ?_)
    · refine lv_aload_n hx hb dX4_bracket_16 rfl (lv_at hl 0 rfl) ?_
      refine lv_bipush (v := -3) hx hb dX4_bracket_17 (by decide) ?_
      refine call_vi B hA hW (0) (by omega) x0 (r := _) rfl rfl (k_refuse l G n ad w hn σ hX (-3) 3 (by decide) (by decide) (by decide) (by decide) (by decide)) mf_X4_refuse hw_149 rfl ⟨⟨rfl, rfl⟩, by decide, by decide⟩ ⟨Nat.zero_le _, Nat.zero_le _⟩ hl.1 rfl (Nat.le_of_ble_eq_true rfl) dX4_bracket_19 (fun r w9 H locs hp hW => ?_)
      exact ret_i B hr hlk hW (by rw [show st_bracket σ f g = ref σ 3 by unfold st_bracket; rw [cif_f (fun q => hnf q.1)]]; exact hp) dX4_bracket_22
    · exact absurd rfl hz
set_option maxHeartbeats 4000000 in
set_option maxRecDepth 100000 in
theorem k_X4_power (l : Launch) (G : zG) (n : Nat) (ad : Nat → Nat) (w : Nat → va_E) (hn : 92 ≤ n) (σ : zS) (hX : XOK G ad w σ) (hs : SOK σ) (f x : Int32) :
    Ci l G yX4_power cdX4_power (zr 5) n ad w [.ref (ad (0)), .int (f), .int (x)] (postX G ad w (st_power σ f x)) := by
  obtain ⟨⟨nf, hB⟩, x0, ⟨f1, x1, v1⟩, ⟨f55, x55⟩, ⟨f56, x56⟩, ⟨f57, x57⟩, ⟨f58, x58, v58⟩, ⟨f59, x59, v59⟩, xf⟩ := id hX
  have hsh := hs.1
  refine ent_i (cc := cX4_power) (maxL := 4) (ret := (some .int)) (by decide +kernel) rfl (Nat.le_of_ble_eq_true rfl) ?_
  intro p e s m args below meth c A B hr hlk hA H locs ls hW hl
  have hx := B.1
  have hb := B.2.1
  have hl : lv_has ls 4 [(0, .ref (ad (0))), (1, .int (f)), (2, .int (x))] := hl
  obtain ⟨b2, -⟩ := id hB
  refine lv_aload_n hx hb dX4_power_0 rfl (lv_at hl 0 rfl) ?_
  refine lv_iload_n hx hb dX4_power_1 rfl (lv_at hl 1 rfl) ?_
  refine call_vi B hA hW (0) (by omega) x0 (r := _) rfl rfl (k_isForm l G n ad w hn σ hX hs f) mf_X4_isForm hw_184 rfl ⟨⟨rfl, rfl⟩, by decide, by decide⟩ ⟨Nat.zero_le _, Nat.zero_le _⟩ hl.1 rfl (Nat.le_of_ble_eq_true rfl) dX4_power_2 (fun r w9 H locs hp hW => ?_)
  obtain ⟨e1, hp⟩ := hp
  rw [e1] at hW
  rcases hp with ⟨i, hi, rfl, rfl⟩ | ⟨hnf, rfl⟩
  · obtain ⟨w40_i, w2_i, k4_i, t40_i, r_i, s_i⟩ := hs.2.1 i hi
    obtain ⟨o_i, n_i⟩ := hX.form hs hi
    obtain ⟨f_i, e_i, v_i⟩ := id n_i
    refine n_if_ne (tgt := 15) hx hb (by omega) dX4_power_5 (by decide) (fun hz => ?_) (fun hz => ?_)
    · refine lv_iload_n hx hb dX4_power_15 rfl (lv_at hl 2 rfl) ?_
      refine lv_if_ge (tgt := 26) hx hb dX4_power_16 (by decide) (fun hc => ?_) (fun hc => ?_)
      · have hnl : ¬ x < 0 := Int32.not_lt.mpr hc
        obtain ⟨e9, he9, rfl⟩ := nI_of hnl
        refine lv_iload_n hx hb dX4_power_26 rfl (lv_at hl 2 rfl) ?_
        refine lv_bipush (v := nI 20) hx hb dX4_power_27 (by decide) ?_
        refine n_icmp_le (tgt := 39) hx hb (by omega) (by omega) dX4_power_29 (by decide) (fun hd => ?_) (fun hd => ?_)
        · have hS : st_power σ (nI i) (nI e9) = comeO σ (sW σ i * e9) (powS (sE σ i) e9) := by
            unfold st_power
            rw [cif_t ⟨i, hi, rfl⟩, cif_f hnl, cN_nI he9, cif_f (by omega), cN_nI (by omega)]
          rw [hS]
          have hmu : sW σ i * e9 ≤ 40 * 20 := Nat.mul_le_mul w40_i hd
          refine lv_aload_n hx hb dX4_power_39 rfl (lv_at hl 0 rfl) ?_
          refine z_get B hW (0) (by omega) x0 rfl inX4 0 (by decide) hw_112 rfl (v := .ref (ad (1))) rfl dX4_power_40 ?_
          refine lv_iload_n hx hb dX4_power_43 rfl (lv_at hl 1 rfl) ?_
          refine z_aald B hW (1) (by omega) x1 (i) (by omega) (by decide) (q := ad (60 + 2 * (i))) (v1 _ (by omega)) dX4_power_44 ?_
          refine z_get B hW (60 + 2 * (i)) (by omega) o_i rfl inX1 1 (by decide) hw_100 rfl (v := .int (nI (sW σ i))) rfl dX4_power_45 ?_
          refine lv_iload_n hx hb dX4_power_48 rfl (lv_at hl 2 rfl) ?_
          refine n_imul hx hb dX4_power_49 ?_
          refine lv_istore_n (lv' := [(3, .int (nI ((sW σ i) * e9))), (0, .ref (ad (0))), (1, .int (nI (i))), (2, .int (nI (e9)))]) hx hb dX4_power_50 rfl hl (by decide) rfl (fun ls hl => ?_)
          refine lv_aload_n hx hb dX4_power_51 rfl (lv_at hl 1 rfl) ?_
          refine lv_iload_n hx hb dX4_power_52 rfl (lv_at hl 0 rfl) ?_
          refine call_vi B hA hW (0) (by omega) x0 (r := _) rfl rfl (k_hasRoom l G n ad w hn σ hX hs (sW σ i * e9) (by omega)) mf_X4_hasRoom hw_156 rfl ⟨⟨rfl, rfl⟩, by decide, by decide⟩ ⟨Nat.zero_le _, Nat.zero_le _⟩ hl.1 rfl (Nat.le_of_ble_eq_true rfl) dX4_power_53 (fun r w9 H locs hp hW => ?_)
          obtain ⟨e1, hp⟩ := hp
          rw [e1] at hW
          rcases hp with ⟨hh, hk40, rfl⟩ | ⟨hnr, rfl⟩
          · obtain ⟨xa, ya, za, fa, g1, g2⟩ := hX.free hh
            refine n_if_ne (tgt := 66) hx hb (by omega) dX4_power_56 (by decide) (fun hz => ?_) (fun hz => ?_)
            · refine lv_aload_n hx hb dX4_power_66 rfl (lv_at hl 1 rfl) ?_
              refine z_get B hW (0) (by omega) x0 rfl inX4 0 (by decide) hw_112 rfl (v := .ref (ad (1))) rfl dX4_power_67 ?_
              refine lv_iload_n hx hb dX4_power_70 rfl (lv_at hl 2 rfl) ?_
              refine z_aald B hW (1) (by omega) x1 (i) (by omega) (by decide) (q := ad (60 + 2 * (i))) (v1 _ (by omega)) dX4_power_71 ?_
              refine z_get B hW (60 + 2 * (i)) (by omega) o_i rfl inX1 0 (by decide) hw_98 rfl (v := .ref (ad (61 + 2 * (i)))) rfl dX4_power_72 ?_
              refine lv_iload_n hx hb dX4_power_75 rfl (lv_at hl 3 rfl) ?_
              refine lv_aload_n hx hb dX4_power_76 rfl (lv_at hl 1 rfl) ?_
              refine z_get B hW (0) (by omega) x0 rfl inX4 0 (by decide) hw_112 rfl (v := .ref (ad (1))) rfl dX4_power_77 ?_
              refine lv_aload_n hx hb dX4_power_80 rfl (lv_at hl 1 rfl) ?_
              refine z_get B hW (0) (by omega) x0 rfl inX4 1 (by decide) hw_113 rfl (v := .int (nI (sH σ))) rfl dX4_power_81 ?_
              refine z_aald B hW (1) (by omega) x1 (sH σ) (by omega) (by decide) (q := ad (60 + 2 * (sH σ))) (v1 _ (by omega)) dX4_power_84 ?_
              refine z_get B hW (60 + 2 * (sH σ)) (by omega) g1 rfl inX1 0 (by decide) hw_98 rfl (v := .ref (ad (61 + 2 * (sH σ)))) rfl dX4_power_85 ?_
              refine call_sv B hA hW (k_raise l G n ad w (61 + 2 * i) (61 + 2 * sH σ) e9 (sE σ i) (by omega) (by omega) (by omega) (by omega) n_i r_i ⟨_, g2⟩) mf_X3_raise hw_179 rfl ⟨⟨rfl, rfl⟩, by decide, by decide⟩ ⟨Nat.zero_le _, Nat.zero_le _⟩ hl.1 rfl (Nat.le_of_ble_eq_true rfl) dX4_power_88 (fun w2 H locs hp hW => ?_)
              have hX2 : XOK G ad w2 σ := hX.num ⟨_, hp.2.choose_spec.1⟩ hp.1
              refine lv_aload_n hx hb dX4_power_91 rfl (lv_at hl 1 rfl) ?_
              refine lv_iload_n hx hb dX4_power_92 rfl (lv_at hl 0 rfl) ?_
              refine call_vi B hA hW (0) (by omega) hX2.2.1 (r := _) rfl rfl (k_comeOfOthers l G n ad w2 hn σ hX2 hs hh (sW σ i * e9) hk40 (powS (sE σ i) e9) hp.2 (red_pow _ _ _)) mf_X4_comeOfOthers hw_189 rfl ⟨⟨rfl, rfl⟩, by decide, by decide⟩ ⟨Nat.zero_le _, Nat.zero_le _⟩ hl.1 rfl (Nat.le_of_ble_eq_true rfl) dX4_power_93 (fun r w9 H locs hp9 hW => ?_)
              exact ret_i B hr hlk hW ⟨hp9.1, hp9.2.1, fun j hj => (hp9.2.2 j hj).trans (hp.1 j (by omega))⟩ dX4_power_96
            · exact absurd hz (by decide)
          · refine n_if_ne (tgt := 66) hx hb (by omega) dX4_power_56 (by decide) (fun hz => ?_) (fun hz => ?_)
            · exact absurd rfl hz
            · refine lv_aload_n hx hb dX4_power_59 rfl (lv_at hl 1 rfl) ?_
              refine lv_bipush (v := -8) hx hb dX4_power_60 (by decide) ?_
              refine call_vi B hA hW (0) (by omega) x0 (r := _) rfl rfl (k_refuse l G n ad w hn σ hX (-8) 8 (by decide) (by decide) (by decide) (by decide) (by decide)) mf_X4_refuse hw_149 rfl ⟨⟨rfl, rfl⟩, by decide, by decide⟩ ⟨Nat.zero_le _, Nat.zero_le _⟩ hl.1 rfl (Nat.le_of_ble_eq_true rfl) dX4_power_62 (fun r w9 H locs hp hW => ?_)
              exact ret_i B hr hlk hW (by rw [comeO_full hnr]; exact hp) dX4_power_65
        · refine lv_aload_n hx hb dX4_power_32 rfl (lv_at hl 0 rfl) ?_
          refine lv_bipush (v := -7) hx hb dX4_power_33 (by decide) ?_
          refine call_vi B hA hW (0) (by omega) x0 (r := _) rfl rfl (k_refuse l G n ad w hn σ hX (-7) 7 (by decide) (by decide) (by decide) (by decide) (by decide)) mf_X4_refuse hw_149 rfl ⟨⟨rfl, rfl⟩, by decide, by decide⟩ ⟨Nat.zero_le _, Nat.zero_le _⟩ hl.1 rfl (Nat.le_of_ble_eq_true rfl) dX4_power_35 (fun r w9 H locs hp hW => ?_)
          exact ret_i B hr hlk hW (by rw [show st_power σ (nI i) (nI e9) = ref σ 7 by unfold st_power; rw [cif_t ⟨i, hi, rfl⟩, cif_f hnl, cN_nI he9, cif_t (by omega)]]; exact hp) dX4_power_38
      · refine lv_aload_n hx hb dX4_power_19 rfl (lv_at hl 0 rfl) ?_
        refine lv_bipush (v := -4) hx hb dX4_power_20 (by decide) ?_
        refine call_vi B hA hW (0) (by omega) x0 (r := _) rfl rfl (k_refuse l G n ad w hn σ hX (-4) 4 (by decide) (by decide) (by decide) (by decide) (by decide)) mf_X4_refuse hw_149 rfl ⟨⟨rfl, rfl⟩, by decide, by decide⟩ ⟨Nat.zero_le _, Nat.zero_le _⟩ hl.1 rfl (Nat.le_of_ble_eq_true rfl) dX4_power_22 (fun r w9 H locs hp hW => ?_)
        exact ret_i B hr hlk hW (by rw [show st_power σ (nI i) x = ref σ 4 by unfold st_power; rw [cif_t ⟨i, hi, rfl⟩, cif_t (Int32.not_le.mp hc)]]; exact hp) dX4_power_25
    · exact absurd hz (by decide)
  · refine n_if_ne (tgt := 15) hx hb (by omega) dX4_power_5 (by decide) (fun hz => ?_) (fun hz => ?_)
    · exact absurd rfl hz
    · refine lv_aload_n hx hb dX4_power_8 rfl (lv_at hl 0 rfl) ?_
      refine lv_bipush (v := -3) hx hb dX4_power_9 (by decide) ?_
      refine call_vi B hA hW (0) (by omega) x0 (r := _) rfl rfl (k_refuse l G n ad w hn σ hX (-3) 3 (by decide) (by decide) (by decide) (by decide) (by decide)) mf_X4_refuse hw_149 rfl ⟨⟨rfl, rfl⟩, by decide, by decide⟩ ⟨Nat.zero_le _, Nat.zero_le _⟩ hl.1 rfl (Nat.le_of_ble_eq_true rfl) dX4_power_11 (fun r w9 H locs hp hW => ?_)
      exact ret_i B hr hlk hW (by rw [show st_power σ f x = ref σ 3 by unfold st_power; rw [cif_f hnf]]; exact hp) dX4_power_14
set_option maxHeartbeats 4000000 in
set_option maxRecDepth 100000 in
theorem k_X4_product (l : Launch) (G : zG) (n : Nat) (ad : Nat → Nat) (w : Nat → va_E) (hn : 92 ≤ n) (σ : zS) (hX : XOK G ad w σ) (hs : SOK σ) (x : Int32) :
    Ci l G yX4_product cdX4_product (zr 5) n ad w [.ref (ad (0)), .int (x)] (postX G ad w (st_product σ x)) := by
  obtain ⟨⟨nf, hB⟩, x0, ⟨f1, x1, v1⟩, ⟨f55, x55⟩, ⟨f56, x56⟩, ⟨f57, x57⟩, ⟨f58, x58, v58⟩, ⟨f59, x59, v59⟩, xf⟩ := id hX
  have hsh := hs.1
  refine ent_i (cc := cX4_product) (maxL := 3) (ret := (some .int)) (by decide +kernel) rfl (Nat.le_of_ble_eq_true rfl) ?_
  intro p e s m args below meth c A B hr hlk hA H locs ls hW hl
  have hx := B.1
  have hb := B.2.1
  have hl : lv_has ls 3 [(0, .ref (ad (0))), (1, .int (x))] := hl
  obtain ⟨b2, -⟩ := id hB
  refine lv_iload_n hx hb dX4_product_0 rfl (lv_at hl 1 rfl) ?_
  refine lv_iconst (v := nI 1) hx hb dX4_product_1 (by decide) ?_
  refine lv_icmp_lt (tgt := 10) hx hb dX4_product_2 (by decide) (fun hc => ?_) (fun hc => ?_)
  · refine lv_aload_n hx hb dX4_product_10 rfl (lv_at hl 0 rfl) ?_
    refine lv_bipush (v := -7) hx hb dX4_product_11 (by decide) ?_
    refine call_vi B hA hW (0) (by omega) x0 (r := _) rfl rfl (k_refuse l G n ad w hn σ hX (-7) 7 (by decide) (by decide) (by decide) (by decide) (by decide)) mf_X4_refuse hw_149 rfl ⟨⟨rfl, rfl⟩, by decide, by decide⟩ ⟨Nat.zero_le _, Nat.zero_le _⟩ hl.1 rfl (Nat.le_of_ble_eq_true rfl) dX4_product_13 (fun r w9 H locs hp hW => ?_)
    exact ret_i B hr hlk hW (by rw [show st_product σ x = ref σ 7 by unfold st_product; rw [cif_f (fun ⟨e9, q1, q2, q3⟩ => by rw [q3, nI_ltI (by omega) (by omega)] at hc; omega)]]; exact hp) dX4_product_16
  · have hnl : ¬ x < 0 := fun q => hc (by rw [Int32.lt_iff_toInt_lt] at q ⊢; have e1 : (nI 1).toInt = 1 := rfl; have e0 : (0 : Int32).toInt = 0 := rfl; omega)
    obtain ⟨e9, he9, rfl⟩ := nI_of hnl
    have h1e : 1 ≤ e9 := by rw [nI_ltI he9 (by omega)] at hc; omega
    refine lv_iload_n hx hb dX4_product_5 rfl (lv_at hl 1 rfl) ?_
    refine lv_iconst (v := nI 3) hx hb dX4_product_6 (by decide) ?_
    refine n_icmp_le (tgt := 17) hx hb (by omega) (by omega) dX4_product_7 (by decide) (fun hd => ?_) (fun hd => ?_)
    · have hS : st_product σ (nI e9) = come σ (12 * e9) 2 e9 (powS dS e9) := by
        unfold st_product
        rw [cif_t ⟨e9, h1e, hd, rfl⟩, cN_nI he9]
      rw [hS]
      refine lv_bipush (v := nI 12) hx hb dX4_product_17 (by decide) ?_
      refine lv_iload_n hx hb dX4_product_19 rfl (lv_at hl 1 rfl) ?_
      refine n_imul hx hb dX4_product_20 ?_
      refine lv_istore_n (lv' := [(2, .int (nI (12 * e9))), (0, .ref (ad (0))), (1, .int (nI (e9)))]) hx hb dX4_product_21 rfl hl (by decide) rfl (fun ls hl => ?_)
      refine lv_aload_n hx hb dX4_product_22 rfl (lv_at hl 1 rfl) ?_
      refine lv_iload_n hx hb dX4_product_23 rfl (lv_at hl 0 rfl) ?_
      refine call_vi B hA hW (0) (by omega) x0 (r := _) rfl rfl (k_hasRoom l G n ad w hn σ hX hs (12 * e9) (by omega)) mf_X4_hasRoom hw_156 rfl ⟨⟨rfl, rfl⟩, by decide, by decide⟩ ⟨Nat.zero_le _, Nat.zero_le _⟩ hl.1 rfl (Nat.le_of_ble_eq_true rfl) dX4_product_24 (fun r w9 H locs hp hW => ?_)
      obtain ⟨e1, hp⟩ := hp
      rw [e1] at hW
      rcases hp with ⟨hh, hk40, rfl⟩ | ⟨hnr, rfl⟩
      · obtain ⟨xa, ya, za, fa, g1, g2⟩ := hX.free hh
        refine n_if_ne (tgt := 37) hx hb (by omega) dX4_product_27 (by decide) (fun hz => ?_) (fun hz => ?_)
        · rw [come_ok hh hk40]
          obtain ⟨-, -, hD, -⟩ := id hB
          refine lv_aload_n hx hb dX4_product_37 rfl (lv_at hl 1 rfl) ?_
          refine z_get B hW (0) (by omega) x0 rfl inX4 2 (by decide) hw_114 rfl (v := .ref (ad (2))) rfl dX4_product_38 ?_
          refine z_get B hW (2) (by omega) b2 rfl inX0 1 (by decide) hw_66 rfl (v := .ref (ad (4))) rfl dX4_product_41 ?_
          refine lv_iload_n hx hb dX4_product_44 rfl (lv_at hl 2 rfl) ?_
          refine lv_aload_n hx hb dX4_product_45 rfl (lv_at hl 1 rfl) ?_
          refine z_get B hW (0) (by omega) x0 rfl inX4 0 (by decide) hw_112 rfl (v := .ref (ad (1))) rfl dX4_product_46 ?_
          refine lv_aload_n hx hb dX4_product_49 rfl (lv_at hl 1 rfl) ?_
          refine z_get B hW (0) (by omega) x0 rfl inX4 1 (by decide) hw_113 rfl (v := .int (nI (sH σ))) rfl dX4_product_50 ?_
          refine z_aald B hW (1) (by omega) x1 (sH σ) (by omega) (by decide) (q := ad (60 + 2 * (sH σ))) (v1 _ (by omega)) dX4_product_53 ?_
          refine z_get B hW (60 + 2 * (sH σ)) (by omega) g1 rfl inX1 0 (by decide) hw_98 rfl (v := .ref (ad (61 + 2 * (sH σ)))) rfl dX4_product_54 ?_
          refine call_sv B hA hW (k_raise l G n ad w 4 (61 + 2 * sH σ) e9 dS (by omega) (by omega) (by omega) (by omega) hD (red_mul _ _) ⟨_, g2⟩) mf_X3_raise hw_179 rfl ⟨⟨rfl, rfl⟩, by decide, by decide⟩ ⟨Nat.zero_le _, Nat.zero_le _⟩ hl.1 rfl (Nat.le_of_ble_eq_true rfl) dX4_product_57 (fun w2 H locs hp hW => ?_)
          have hX2 : XOK G ad w2 σ := hX.num ⟨_, hp.2.choose_spec.1⟩ hp.1
          refine lv_aload_n hx hb dX4_product_60 rfl (lv_at hl 1 rfl) ?_
          refine lv_iconst (v := nI 2) hx hb dX4_product_61 (by decide) ?_
          refine lv_iload_n hx hb dX4_product_62 rfl (lv_at hl 0 rfl) ?_
          refine lv_iload_n hx hb dX4_product_63 rfl (lv_at hl 2 rfl) ?_
          refine call_vi B hA hW (0) (by omega) hX2.2.1 (r := _) rfl rfl (k_comeAsTold l G n ad w2 hn σ hX2 hs hh 2 (12 * e9) e9 (powS dS e9) hp.2) mf_X4_comeAsTold hw_171 rfl ⟨⟨rfl, rfl⟩, by decide, by decide⟩ ⟨Nat.zero_le _, Nat.zero_le _⟩ hl.1 rfl (Nat.le_of_ble_eq_true rfl) dX4_product_64 (fun r w9 H locs hp9 hW => ?_)
          exact ret_i B hr hlk hW ⟨hp9.1, hp9.2.1, fun j hj => (hp9.2.2 j hj).trans (hp.1 j (by omega))⟩ dX4_product_67
        · exact absurd hz (by decide)
      · refine n_if_ne (tgt := 37) hx hb (by omega) dX4_product_27 (by decide) (fun hz => ?_) (fun hz => ?_)
        · exact absurd rfl hz
        · refine lv_aload_n hx hb dX4_product_30 rfl (lv_at hl 1 rfl) ?_
          refine lv_bipush (v := -8) hx hb dX4_product_31 (by decide) ?_
          refine call_vi B hA hW (0) (by omega) x0 (r := _) rfl rfl (k_refuse l G n ad w hn σ hX (-8) 8 (by decide) (by decide) (by decide) (by decide) (by decide)) mf_X4_refuse hw_149 rfl ⟨⟨rfl, rfl⟩, by decide, by decide⟩ ⟨Nat.zero_le _, Nat.zero_le _⟩ hl.1 rfl (Nat.le_of_ble_eq_true rfl) dX4_product_33 (fun r w9 H locs hp hW => ?_)
          exact ret_i B hr hlk hW (by rw [come_full hnr]; exact hp) dX4_product_36
    · refine lv_aload_n hx hb dX4_product_10 rfl (lv_at hl 0 rfl) ?_
      refine lv_bipush (v := -7) hx hb dX4_product_11 (by decide) ?_
      refine call_vi B hA hW (0) (by omega) x0 (r := _) rfl rfl (k_refuse l G n ad w hn σ hX (-7) 7 (by decide) (by decide) (by decide) (by decide) (by decide)) mf_X4_refuse hw_149 rfl ⟨⟨rfl, rfl⟩, by decide, by decide⟩ ⟨Nat.zero_le _, Nat.zero_le _⟩ hl.1 rfl (Nat.le_of_ble_eq_true rfl) dX4_product_13 (fun r w9 H locs hp hW => ?_)
      exact ret_i B hr hlk hW (by rw [show st_product σ (nI e9) = ref σ 7 by unfold st_product; rw [cif_f (fun ⟨q, q1, q2, q3⟩ => by have := (nI_eq he9 (by omega)).mp q3; omega)]]; exact hp) dX4_product_16
set_option maxHeartbeats 4000000 in
set_option maxRecDepth 100000 in
theorem k_X4_at (l : Launch) (G : zG) (n : Nat) (ad : Nat → Nat) (w : Nat → va_E) (hn : 92 ≤ n) (σ : zS) (hX : XOK G ad w σ) (hs : SOK σ) (f x : Int32) :
    Ci l G yX4_at cdX4_at (zr 5) n ad w [.ref (ad (0)), .int (f), .int (x)] (postX G ad w (st_at σ f x)) := by
  obtain ⟨⟨nf, hB⟩, x0, ⟨f1, x1, v1⟩, ⟨f55, x55⟩, ⟨f56, x56⟩, ⟨f57, x57⟩, ⟨f58, x58, v58⟩, ⟨f59, x59, v59⟩, xf⟩ := id hX
  have hsh := hs.1
  refine ent_i (cc := cX4_at) (maxL := 3) (ret := (some .int)) (by decide +kernel) rfl (Nat.le_of_ble_eq_true rfl) ?_
  intro p e s m args below meth c A B hr hlk hA H locs ls hW hl
  have hx := B.1
  have hb := B.2.1
  have hl : lv_has ls 3 [(0, .ref (ad (0))), (1, .int (f)), (2, .int (x))] := hl
  obtain ⟨b2, -⟩ := id hB
  refine lv_aload_n hx hb dX4_at_0 rfl (lv_at hl 0 rfl) ?_
  refine lv_iload_n hx hb dX4_at_1 rfl (lv_at hl 1 rfl) ?_
  refine call_vi B hA hW (0) (by omega) x0 (r := _) rfl rfl (k_isForm l G n ad w hn σ hX hs f) mf_X4_isForm hw_184 rfl ⟨⟨rfl, rfl⟩, by decide, by decide⟩ ⟨Nat.zero_le _, Nat.zero_le _⟩ hl.1 rfl (Nat.le_of_ble_eq_true rfl) dX4_at_2 (fun r w9 H locs hp hW => ?_)
  obtain ⟨e1, hp⟩ := hp
  rw [e1] at hW
  rcases hp with ⟨i, hi, rfl, rfl⟩ | ⟨hnf, rfl⟩
  · obtain ⟨w40_i, w2_i, k4_i, t40_i, r_i, s_i⟩ := hs.2.1 i hi
    obtain ⟨o_i, n_i⟩ := hX.form hs hi
    obtain ⟨f_i, e_i, v_i⟩ := id n_i
    refine n_if_eq (tgt := 18) hx hb (by omega) dX4_at_5 (by decide) (fun hz => ?_) (fun hz => ?_)
    · exact absurd hz (by decide)
    · refine lv_iload_n hx hb dX4_at_8 rfl (lv_at hl 2 rfl) ?_
      refine lv_if_lt (tgt := 18) hx hb dX4_at_9 (by decide) (fun hc => ?_) (fun hc => ?_)
      · refine lv_aload_n hx hb dX4_at_18 rfl (lv_at hl 0 rfl) ?_
        refine lv_bipush (v := -3) hx hb dX4_at_19 (by decide) ?_
        refine call_vi B hA hW (0) (by omega) x0 (r := _) rfl rfl (k_refuse l G n ad w hn σ hX (-3) 3 (by decide) (by decide) (by decide) (by decide) (by decide)) mf_X4_refuse hw_149 rfl ⟨⟨rfl, rfl⟩, by decide, by decide⟩ ⟨Nat.zero_le _, Nat.zero_le _⟩ hl.1 rfl (Nat.le_of_ble_eq_true rfl) dX4_at_21 (fun r w9 H locs hp hW => ?_)
        exact ret_i B hr hlk hW (by rw [show st_at σ (nI i) x = ref σ 3 by unfold st_at; rw [cif_f (fun ⟨_, ⟨q, q1, q2⟩⟩ => nI_pos (by omega) (q2 ▸ hc))]]; exact hp) dX4_at_24
      · obtain ⟨q9, hq9, rfl⟩ := nI_of hc
        refine lv_iload_n hx hb dX4_at_12 rfl (lv_at hl 2 rfl) ?_
        refine lv_bipush (v := nI 48) hx hb dX4_at_13 (by decide) ?_
        refine n_icmp_lt (tgt := 25) hx hb (by omega) (by omega) dX4_at_15 (by decide) (fun hd => ?_) (fun hd => ?_)
        · refine lv_aload_n hx hb dX4_at_25 rfl (lv_at hl 0 rfl) ?_
          refine z_get B hW (0) (by omega) x0 rfl inX4 0 (by decide) hw_112 rfl (v := .ref (ad (1))) rfl dX4_at_26 ?_
          refine lv_iload_n hx hb dX4_at_29 rfl (lv_at hl 1 rfl) ?_
          refine z_aald B hW (1) (by omega) x1 (i) (by omega) (by decide) (q := ad (60 + 2 * (i))) (v1 _ (by omega)) dX4_at_30 ?_
          refine z_get B hW (60 + 2 * (i)) (by omega) o_i rfl inX1 0 (by decide) hw_98 rfl (v := .ref (ad (61 + 2 * (i)))) rfl dX4_at_31 ?_
          refine lv_iload_n hx hb dX4_at_34 rfl (lv_at hl 2 rfl) ?_
          refine z_lald B hW (61 + 2 * (i)) (by omega) e_i (q9) (by omega) (by decide) (v := (lN (sE σ i (q9)))) (v_i _ (by omega)) dX4_at_35 ?_
          refine n_l2i hx hb dX4_at_36 ?_
          exact ret_i B hr hlk hW (by rw [show st_at σ (nI i) (nI q9) = (nI (sE σ i q9), σ) by unfold st_at; rw [cif_t ⟨⟨i, hi, rfl⟩, ⟨q9, hd, rfl⟩⟩, cN_nI (by omega), cN_nI (by omega)]]; exact ⟨rfl, hX, fun _ _ => rfl⟩) dX4_at_37
        · refine lv_aload_n hx hb dX4_at_18 rfl (lv_at hl 0 rfl) ?_
          refine lv_bipush (v := -3) hx hb dX4_at_19 (by decide) ?_
          refine call_vi B hA hW (0) (by omega) x0 (r := _) rfl rfl (k_refuse l G n ad w hn σ hX (-3) 3 (by decide) (by decide) (by decide) (by decide) (by decide)) mf_X4_refuse hw_149 rfl ⟨⟨rfl, rfl⟩, by decide, by decide⟩ ⟨Nat.zero_le _, Nat.zero_le _⟩ hl.1 rfl (Nat.le_of_ble_eq_true rfl) dX4_at_21 (fun r w9 H locs hp hW => ?_)
          exact ret_i B hr hlk hW (by rw [show st_at σ (nI i) (nI q9) = ref σ 3 by unfold st_at; rw [cif_f (fun ⟨_, ⟨q, q1, q2⟩⟩ => by have := (nI_eq hq9 (by omega)).mp q2; omega)]]; exact hp) dX4_at_24
  · refine n_if_eq (tgt := 18) hx hb (by omega) dX4_at_5 (by decide) (fun hz => ?_) (fun hz => ?_)
    · refine lv_aload_n hx hb dX4_at_18 rfl (lv_at hl 0 rfl) ?_
      refine lv_bipush (v := -3) hx hb dX4_at_19 (by decide) ?_
      refine call_vi B hA hW (0) (by omega) x0 (r := _) rfl rfl (k_refuse l G n ad w hn σ hX (-3) 3 (by decide) (by decide) (by decide) (by decide) (by decide)) mf_X4_refuse hw_149 rfl ⟨⟨rfl, rfl⟩, by decide, by decide⟩ ⟨Nat.zero_le _, Nat.zero_le _⟩ hl.1 rfl (Nat.le_of_ble_eq_true rfl) dX4_at_21 (fun r w9 H locs hp hW => ?_)
      exact ret_i B hr hlk hW (by rw [show st_at σ f x = ref σ 3 by unfold st_at; rw [cif_f (fun q => hnf q.1)]]; exact hp) dX4_at_24
    · exact absurd rfl hz
set_option maxHeartbeats 4000000 in
set_option maxRecDepth 100000 in
theorem k_X4_apart (l : Launch) (G : zG) (n : Nat) (ad : Nat → Nat) (w : Nat → va_E) (hn : 92 ≤ n) (σ : zS) (hX : XOK G ad w σ) (hs : SOK σ) (f g : Int32) :
    Ci l G yX4_apart cdX4_apart (zr 5) n ad w [.ref (ad (0)), .int (f), .int (g)] (postX G ad w (st_apart σ f g)) := by
  obtain ⟨⟨nf, hB⟩, x0, ⟨f1, x1, v1⟩, ⟨f55, x55⟩, ⟨f56, x56⟩, ⟨f57, x57⟩, ⟨f58, x58, v58⟩, ⟨f59, x59, v59⟩, xf⟩ := id hX
  have hsh := hs.1
  refine ent_i (cc := cX4_apart) (maxL := 3) (ret := (some .int)) (by decide +kernel) rfl (Nat.le_of_ble_eq_true rfl) ?_
  intro p e s m args below meth c A B hr hlk hA H locs ls hW hl
  have hx := B.1
  have hb := B.2.1
  have hl : lv_has ls 3 [(0, .ref (ad (0))), (1, .int (f)), (2, .int (g))] := hl
  obtain ⟨b2, -⟩ := id hB
  refine lv_aload_n hx hb dX4_apart_0 rfl (lv_at hl 0 rfl) ?_
  refine lv_iload_n hx hb dX4_apart_1 rfl (lv_at hl 1 rfl) ?_
  refine call_vi B hA hW (0) (by omega) x0 (r := _) rfl rfl (k_isForm l G n ad w hn σ hX hs f) mf_X4_isForm hw_184 rfl ⟨⟨rfl, rfl⟩, by decide, by decide⟩ ⟨Nat.zero_le _, Nat.zero_le _⟩ hl.1 rfl (Nat.le_of_ble_eq_true rfl) dX4_apart_2 (fun r w9 H locs hp hW => ?_)
  obtain ⟨e1, hp⟩ := hp
  rw [e1] at hW
  rcases hp with ⟨i, hi, rfl, rfl⟩ | ⟨hnf, rfl⟩
  · obtain ⟨w40_i, w2_i, k4_i, t40_i, r_i, s_i⟩ := hs.2.1 i hi
    obtain ⟨o_i, n_i⟩ := hX.form hs hi
    obtain ⟨f_i, e_i, v_i⟩ := id n_i
    refine n_if_eq (tgt := 16) hx hb (by omega) dX4_apart_5 (by decide) (fun hz => ?_) (fun hz => ?_)
    · exact absurd hz (by decide)
    · refine lv_aload_n hx hb dX4_apart_8 rfl (lv_at hl 0 rfl) ?_
      refine lv_iload_n hx hb dX4_apart_9 rfl (lv_at hl 2 rfl) ?_
      refine call_vi B hA hW (0) (by omega) x0 (r := _) rfl rfl (k_isForm l G n ad w hn σ hX hs g) mf_X4_isForm hw_184 rfl ⟨⟨rfl, rfl⟩, by decide, by decide⟩ ⟨Nat.zero_le _, Nat.zero_le _⟩ hl.1 rfl (Nat.le_of_ble_eq_true rfl) dX4_apart_10 (fun r w9 H locs hp hW => ?_)
      obtain ⟨e1, hp⟩ := hp
      rw [e1] at hW
      rcases hp with ⟨j, hj, rfl, rfl⟩ | ⟨hnf, rfl⟩
      · obtain ⟨w40_j, w2_j, k4_j, t40_j, r_j, s_j⟩ := hs.2.1 j hj
        obtain ⟨o_j, n_j⟩ := hX.form hs hj
        obtain ⟨f_j, e_j, v_j⟩ := id n_j
        refine n_if_ne (tgt := 23) hx hb (by omega) dX4_apart_13 (by decide) (fun hz => ?_) (fun hz => ?_)
        · have hS : st_apart σ (nI i) (nI j) = cif (sW σ i = sW σ j) (theI (unlR (sE σ i) (sE σ j)), σ) (ref σ 7) := by
            unfold st_apart
            rw [cif_t ⟨⟨i, hi, rfl⟩, ⟨j, hj, rfl⟩⟩, cN_nI (by omega), cN_nI (by omega)]
          rw [hS]
          refine lv_aload_n hx hb dX4_apart_23 rfl (lv_at hl 0 rfl) ?_
          refine z_get B hW (0) (by omega) x0 rfl inX4 0 (by decide) hw_112 rfl (v := .ref (ad (1))) rfl dX4_apart_24 ?_
          refine lv_iload_n hx hb dX4_apart_27 rfl (lv_at hl 1 rfl) ?_
          refine z_aald B hW (1) (by omega) x1 (i) (by omega) (by decide) (q := ad (60 + 2 * (i))) (v1 _ (by omega)) dX4_apart_28 ?_
          refine z_get B hW (60 + 2 * (i)) (by omega) o_i rfl inX1 1 (by decide) hw_100 rfl (v := .int (nI (sW σ i))) rfl dX4_apart_29 ?_
          refine lv_aload_n hx hb dX4_apart_32 rfl (lv_at hl 0 rfl) ?_
          refine z_get B hW (0) (by omega) x0 rfl inX4 0 (by decide) hw_112 rfl (v := .ref (ad (1))) rfl dX4_apart_33 ?_
          refine lv_iload_n hx hb dX4_apart_36 rfl (lv_at hl 2 rfl) ?_
          refine z_aald B hW (1) (by omega) x1 (j) (by omega) (by decide) (q := ad (60 + 2 * (j))) (v1 _ (by omega)) dX4_apart_37 ?_
          refine z_get B hW (60 + 2 * (j)) (by omega) o_j rfl inX1 1 (by decide) hw_100 rfl (v := .int (nI (sW σ j))) rfl dX4_apart_38 ?_
          refine n_icmp_eq (tgt := 51) hx hb (by omega) (by omega) dX4_apart_41 (by decide) (fun hd => ?_) (fun hd => ?_)
          · refine lv_aload_n hx hb dX4_apart_51 rfl (lv_at hl 0 rfl) ?_
            refine z_get B hW (0) (by omega) x0 rfl inX4 0 (by decide) hw_112 rfl (v := .ref (ad (1))) rfl dX4_apart_52 ?_
            refine lv_iload_n hx hb dX4_apart_55 rfl (lv_at hl 1 rfl) ?_
            refine z_aald B hW (1) (by omega) x1 (i) (by omega) (by decide) (q := ad (60 + 2 * (i))) (v1 _ (by omega)) dX4_apart_56 ?_
            refine z_get B hW (60 + 2 * (i)) (by omega) o_i rfl inX1 0 (by decide) hw_98 rfl (v := .ref (ad (61 + 2 * (i)))) rfl dX4_apart_57 ?_
            refine lv_aload_n hx hb dX4_apart_60 rfl (lv_at hl 0 rfl) ?_
            refine z_get B hW (0) (by omega) x0 rfl inX4 0 (by decide) hw_112 rfl (v := .ref (ad (1))) rfl dX4_apart_61 ?_
            refine lv_iload_n hx hb dX4_apart_64 rfl (lv_at hl 2 rfl) ?_
            refine z_aald B hW (1) (by omega) x1 (j) (by omega) (by decide) (q := ad (60 + 2 * (j))) (v1 _ (by omega)) dX4_apart_65 ?_
            refine z_get B hW (60 + 2 * (j)) (by omega) o_j rfl inX1 0 (by decide) hw_98 rfl (v := .ref (ad (61 + 2 * (j)))) rfl dX4_apart_66 ?_
            refine call_si B hA hW (k_firstUnlike l G n ad w (61 + 2 * i) (61 + 2 * j) (sE σ i) (sE σ j) (by omega) (by omega) n_i n_j r_i.s r_j.s) mf_X3_firstUnlike hw_292 rfl ⟨⟨rfl, rfl⟩, by decide, by decide⟩ ⟨Nat.zero_le _, Nat.zero_le _⟩ hl.1 rfl (Nat.le_of_ble_eq_true rfl) dX4_apart_69 (fun r w9 H locs hp hW => ?_)
            obtain ⟨e1, e2⟩ := hp
            rw [e1] at hW
            exact ret_i B hr hlk hW (by rw [cif_t hd]; exact ⟨theI_eq e2 (fun _ _ => unlR_one), hX, fun _ _ => rfl⟩) dX4_apart_72
          · refine lv_aload_n hx hb dX4_apart_44 rfl (lv_at hl 0 rfl) ?_
            refine lv_bipush (v := -7) hx hb dX4_apart_45 (by decide) ?_
            refine call_vi B hA hW (0) (by omega) x0 (r := _) rfl rfl (k_refuse l G n ad w hn σ hX (-7) 7 (by decide) (by decide) (by decide) (by decide) (by decide)) mf_X4_refuse hw_149 rfl ⟨⟨rfl, rfl⟩, by decide, by decide⟩ ⟨Nat.zero_le _, Nat.zero_le _⟩ hl.1 rfl (Nat.le_of_ble_eq_true rfl) dX4_apart_47 (fun r w9 H locs hp hW => ?_)
            exact ret_i B hr hlk hW (by rw [cif_f hd]; exact hp) dX4_apart_50
        · exact absurd hz (by decide)
      · refine n_if_ne (tgt := 23) hx hb (by omega) dX4_apart_13 (by decide) (fun hz => ?_) (fun hz => ?_)
        · exact absurd rfl hz
        · refine lv_aload_n hx hb dX4_apart_16 rfl (lv_at hl 0 rfl) ?_
          refine lv_bipush (v := -3) hx hb dX4_apart_17 (by decide) ?_
          refine call_vi B hA hW (0) (by omega) x0 (r := _) rfl rfl (k_refuse l G n ad w hn σ hX (-3) 3 (by decide) (by decide) (by decide) (by decide) (by decide)) mf_X4_refuse hw_149 rfl ⟨⟨rfl, rfl⟩, by decide, by decide⟩ ⟨Nat.zero_le _, Nat.zero_le _⟩ hl.1 rfl (Nat.le_of_ble_eq_true rfl) dX4_apart_19 (fun r w9 H locs hp hW => ?_)
          exact ret_i B hr hlk hW (by rw [show st_apart σ (nI i) g = ref σ 3 by unfold st_apart; rw [cif_f (fun q => hnf q.2)]]; exact hp) dX4_apart_22
  · refine n_if_eq (tgt := 16) hx hb (by omega) dX4_apart_5 (by decide) (fun hz => ?_) (fun hz => ?_)
    · refine lv_aload_n hx hb dX4_apart_16 rfl (lv_at hl 0 rfl) ?_
      refine lv_bipush (v := -3) hx hb dX4_apart_17 (by decide) ?_
      refine call_vi B hA hW (0) (by omega) x0 (r := _) rfl rfl (k_refuse l G n ad w hn σ hX (-3) 3 (by decide) (by decide) (by decide) (by decide) (by decide)) mf_X4_refuse hw_149 rfl ⟨⟨rfl, rfl⟩, by decide, by decide⟩ ⟨Nat.zero_le _, Nat.zero_le _⟩ hl.1 rfl (Nat.le_of_ble_eq_true rfl) dX4_apart_19 (fun r w9 H locs hp hW => ?_)
      exact ret_i B hr hlk hW (by rw [show st_apart σ f g = ref σ 3 by unfold st_apart; rw [cif_f (fun q => hnf q.1)]]; exact hp) dX4_apart_22
    · exact absurd rfl hz
set_option maxHeartbeats 4000000 in
set_option maxRecDepth 100000 in
theorem k_X4_same (l : Launch) (G : zG) (n : Nat) (ad : Nat → Nat) (w : Nat → va_E) (hn : 92 ≤ n) (σ : zS) (hX : XOK G ad w σ) (hs : SOK σ) (f g : Int32) :
    Ci l G yX4_same cdX4_same (zr 5) n ad w [.ref (ad (0)), .int (f), .int (g)] (postX G ad w (st_same σ f g)) := by
  obtain ⟨⟨nf, hB⟩, x0, ⟨f1, x1, v1⟩, ⟨f55, x55⟩, ⟨f56, x56⟩, ⟨f57, x57⟩, ⟨f58, x58, v58⟩, ⟨f59, x59, v59⟩, xf⟩ := id hX
  have hsh := hs.1
  refine ent_i (cc := cX4_same) (maxL := 5) (ret := (some .int)) (by decide +kernel) rfl (Nat.le_of_ble_eq_true rfl) ?_
  intro p e s m args below meth c A B hr hlk hA H locs ls hW hl
  have hx := B.1
  have hb := B.2.1
  have hl : lv_has ls 5 [(0, .ref (ad (0))), (1, .int (f)), (2, .int (g))] := hl
  obtain ⟨b2, -⟩ := id hB
  refine lv_aload_n hx hb dX4_same_0 rfl (lv_at hl 0 rfl) ?_
  refine lv_iload_n hx hb dX4_same_1 rfl (lv_at hl 1 rfl) ?_
  refine call_vi B hA hW (0) (by omega) x0 (r := _) rfl rfl (k_isForm l G n ad w hn σ hX hs f) mf_X4_isForm hw_184 rfl ⟨⟨rfl, rfl⟩, by decide, by decide⟩ ⟨Nat.zero_le _, Nat.zero_le _⟩ hl.1 rfl (Nat.le_of_ble_eq_true rfl) dX4_same_2 (fun r w9 H locs hp hW => ?_)
  obtain ⟨e1, hp⟩ := hp
  rw [e1] at hW
  rcases hp with ⟨i, hi, rfl, rfl⟩ | ⟨hnf, rfl⟩
  · obtain ⟨w40_i, w2_i, k4_i, t40_i, r_i, s_i⟩ := hs.2.1 i hi
    obtain ⟨o_i, n_i⟩ := hX.form hs hi
    obtain ⟨f_i, e_i, v_i⟩ := id n_i
    refine n_if_eq (tgt := 16) hx hb (by omega) dX4_same_5 (by decide) (fun hz => ?_) (fun hz => ?_)
    · exact absurd hz (by decide)
    · refine lv_aload_n hx hb dX4_same_8 rfl (lv_at hl 0 rfl) ?_
      refine lv_iload_n hx hb dX4_same_9 rfl (lv_at hl 2 rfl) ?_
      refine call_vi B hA hW (0) (by omega) x0 (r := _) rfl rfl (k_isForm l G n ad w hn σ hX hs g) mf_X4_isForm hw_184 rfl ⟨⟨rfl, rfl⟩, by decide, by decide⟩ ⟨Nat.zero_le _, Nat.zero_le _⟩ hl.1 rfl (Nat.le_of_ble_eq_true rfl) dX4_same_10 (fun r w9 H locs hp hW => ?_)
      obtain ⟨e1, hp⟩ := hp
      rw [e1] at hW
      rcases hp with ⟨j, hj, rfl, rfl⟩ | ⟨hnf, rfl⟩
      · obtain ⟨w40_j, w2_j, k4_j, t40_j, r_j, s_j⟩ := hs.2.1 j hj
        obtain ⟨o_j, n_j⟩ := hX.form hs hj
        obtain ⟨f_j, e_j, v_j⟩ := id n_j
        refine n_if_ne (tgt := 23) hx hb (by omega) dX4_same_13 (by decide) (fun hz => ?_) (fun hz => ?_)
        · have hS : st_same σ (nI i) (nI j) = cif ((sW σ i = sW σ j ∨ ∀ q, q < 48 → sE σ i q = 0) ∧ ∀ q, q < 48 → sE σ i q = sE σ j q) (nI 1, σ) (nI 0, σ) := by
            unfold st_same
            rw [cif_t ⟨⟨i, hi, rfl⟩, ⟨j, hj, rfl⟩⟩, cN_nI (by omega), cN_nI (by omega)]
          rw [hS]
          refine lv_aload_n hx hb dX4_same_23 rfl (lv_at hl 0 rfl) ?_
          refine z_get B hW (0) (by omega) x0 rfl inX4 0 (by decide) hw_112 rfl (v := .ref (ad (1))) rfl dX4_same_24 ?_
          refine lv_iload_n hx hb dX4_same_27 rfl (lv_at hl 1 rfl) ?_
          refine z_aald B hW (1) (by omega) x1 (i) (by omega) (by decide) (q := ad (60 + 2 * (i))) (v1 _ (by omega)) dX4_same_28 ?_
          refine z_get B hW (60 + 2 * (i)) (by omega) o_i rfl inX1 0 (by decide) hw_98 rfl (v := .ref (ad (61 + 2 * (i)))) rfl dX4_same_29 ?_
          refine lv_astore_n (lv' := [(3, .ref (ad (61 + 2 * (i)))), (0, .ref (ad (0))), (1, .int (nI (i))), (2, .int (nI (j)))]) hx hb dX4_same_32 rfl hl (by decide) rfl (fun ls hl => ?_)
          refine lv_aload_n hx hb dX4_same_33 rfl (lv_at hl 1 rfl) ?_
          refine z_get B hW (0) (by omega) x0 rfl inX4 0 (by decide) hw_112 rfl (v := .ref (ad (1))) rfl dX4_same_34 ?_
          refine lv_iload_n hx hb dX4_same_37 rfl (lv_at hl 3 rfl) ?_
          refine z_aald B hW (1) (by omega) x1 (j) (by omega) (by decide) (q := ad (60 + 2 * (j))) (v1 _ (by omega)) dX4_same_38 ?_
          refine z_get B hW (60 + 2 * (j)) (by omega) o_j rfl inX1 0 (by decide) hw_98 rfl (v := .ref (ad (61 + 2 * (j)))) rfl dX4_same_39 ?_
          refine lv_astore (lv' := [(4, .ref (ad (61 + 2 * (j)))), (3, .ref (ad (61 + 2 * (i)))), (0, .ref (ad (0))), (1, .int (nI (i))), (2, .int (nI (j)))]) hx hb dX4_same_42 hl (by decide) rfl (fun ls hl => ?_)
          refine lv_aload_n hx hb dX4_same_44 rfl (lv_at hl 2 rfl) ?_
          refine z_get B hW (0) (by omega) x0 rfl inX4 0 (by decide) hw_112 rfl (v := .ref (ad (1))) rfl dX4_same_45 ?_
          refine lv_iload_n hx hb dX4_same_48 rfl (lv_at hl 3 rfl) ?_
          refine z_aald B hW (1) (by omega) x1 (i) (by omega) (by decide) (q := ad (60 + 2 * (i))) (v1 _ (by omega)) dX4_same_49 ?_
          refine z_get B hW (60 + 2 * (i)) (by omega) o_i rfl inX1 1 (by decide) hw_100 rfl (v := .int (nI (sW σ i))) rfl dX4_same_50 ?_
          refine lv_aload_n hx hb dX4_same_53 rfl (lv_at hl 2 rfl) ?_
          refine z_get B hW (0) (by omega) x0 rfl inX4 0 (by decide) hw_112 rfl (v := .ref (ad (1))) rfl dX4_same_54 ?_
          refine lv_iload_n hx hb dX4_same_57 rfl (lv_at hl 4 rfl) ?_
          refine z_aald B hW (1) (by omega) x1 (j) (by omega) (by decide) (q := ad (60 + 2 * (j))) (v1 _ (by omega)) dX4_same_58 ?_
          refine z_get B hW (60 + 2 * (j)) (by omega) o_j rfl inX1 1 (by decide) hw_100 rfl (v := .int (nI (sW σ j))) rfl dX4_same_59 ?_
          refine n_icmp_ne (tgt := 81) hx hb (by omega) (by omega) dX4_same_62 (by decide) (fun hd => ?_) (fun hd => ?_)
          · refine lv_aload_n hx hb dX4_same_81 rfl (lv_at hl 1 rfl) ?_
            refine call_si B hA hW (k_leastPlace l G n ad w (61 + 2 * i) (sE σ i) (by omega) n_i r_i.s) mf_X3_leastPlace hw_277 rfl ⟨⟨rfl, rfl⟩, by decide, by decide⟩ ⟨Nat.zero_le _, Nat.zero_le _⟩ hl.1 rfl (Nat.le_of_ble_eq_true rfl) dX4_same_82 (fun r w9 H locs hp hW => ?_)
            obtain ⟨e1, hp⟩ := hp
            rw [e1] at hW
            rcases hp with ⟨rfl, hall⟩ | ⟨p9, rfl, hp9⟩
            · refine lv_iconst (v := -1) hx hb dX4_same_85 (by decide) ?_
              refine lv_icmp_ne (tgt := 102) hx hb dX4_same_86 (by decide) (fun hz => ?_) (fun hz => ?_)
              · exact absurd rfl hz
              · refine lv_aload hx hb dX4_same_89 (lv_at hl 0 rfl) ?_
                refine call_si B hA hW (k_leastPlace l G n ad w (61 + 2 * j) (sE σ j) (by omega) n_j r_j.s) mf_X3_leastPlace hw_277 rfl ⟨⟨rfl, rfl⟩, by decide, by decide⟩ ⟨Nat.zero_le _, Nat.zero_le _⟩ hl.1 rfl (Nat.le_of_ble_eq_true rfl) dX4_same_91 (fun r w9 H locs hp hW => ?_)
                obtain ⟨e1, hp⟩ := hp
                rw [e1] at hW
                rcases hp with ⟨rfl, hall2⟩ | ⟨p9, rfl, hp9⟩
                · refine lv_iconst (v := -1) hx hb dX4_same_94 (by decide) ?_
                  refine lv_icmp_ne (tgt := 102) hx hb dX4_same_95 (by decide) (fun hz => ?_) (fun hz => ?_)
                  · exact absurd rfl hz
                  · refine lv_iconst (v := nI 1) hx hb dX4_same_98 (by decide) ?_
                    refine lv_goto (tgt := 103) hx hb dX4_same_99 (by decide) ?_
                    exact ret_i B hr hlk hW (by rw [cif_t ⟨Or.inr hall, fun q hq => by rw [hall q hq, hall2 q hq]⟩]; exact ⟨rfl, hX, fun _ _ => rfl⟩) dX4_same_103
                · have hp948 := hp9.1
                  refine lv_iconst (v := -1) hx hb dX4_same_94 (by decide) ?_
                  refine lv_icmp_ne (tgt := 102) hx hb dX4_same_95 (by decide) (fun hz => ?_) (fun hz => ?_)
                  · refine lv_iconst (v := nI 0) hx hb dX4_same_102 (by decide) ?_
                    exact ret_i B hr hlk hW (by rw [cif_f (fun q => hp9.2.1 (by rw [← q.2 p9 hp9.1]; exact hall p9 hp9.1))]; exact ⟨rfl, hX, fun _ _ => rfl⟩) dX4_same_103
                  · exact absurd hz (nI_m1 (by omega))
            · have hp948 := hp9.1
              refine lv_iconst (v := -1) hx hb dX4_same_85 (by decide) ?_
              refine lv_icmp_ne (tgt := 102) hx hb dX4_same_86 (by decide) (fun hz => ?_) (fun hz => ?_)
              · refine lv_iconst (v := nI 0) hx hb dX4_same_102 (by decide) ?_
                exact ret_i B hr hlk hW (by rw [cif_f (fun q => by rcases q.1 with q1 | q1; exact hd q1; exact hp9.2.1 (q1 p9 hp9.1))]; exact ⟨rfl, hX, fun _ _ => rfl⟩) dX4_same_103
              · exact absurd hz (nI_m1 (by omega))
          · refine lv_aload_n hx hb dX4_same_65 rfl (lv_at hl 1 rfl) ?_
            refine lv_aload hx hb dX4_same_66 (lv_at hl 0 rfl) ?_
            refine call_si B hA hW (k_firstUnlike l G n ad w (61 + 2 * i) (61 + 2 * j) (sE σ i) (sE σ j) (by omega) (by omega) n_i n_j r_i.s r_j.s) mf_X3_firstUnlike hw_292 rfl ⟨⟨rfl, rfl⟩, by decide, by decide⟩ ⟨Nat.zero_le _, Nat.zero_le _⟩ hl.1 rfl (Nat.le_of_ble_eq_true rfl) dX4_same_68 (fun r w9 H locs hp hW => ?_)
            obtain ⟨e1, hp⟩ := hp
            rw [e1] at hW
            rcases hp with ⟨rfl, hall⟩ | ⟨p9, rfl, h48, hne, -⟩
            · refine lv_iconst (v := -1) hx hb dX4_same_71 (by decide) ?_
              refine lv_icmp_ne (tgt := 79) hx hb dX4_same_72 (by decide) (fun hz => ?_) (fun hz => ?_)
              · exact absurd rfl hz
              · refine lv_iconst (v := nI 1) hx hb dX4_same_75 (by decide) ?_
                refine lv_goto (tgt := 80) hx hb dX4_same_76 (by decide) ?_
                exact ret_i B hr hlk hW (by rw [cif_t ⟨Or.inl hd, hall⟩]; exact ⟨rfl, hX, fun _ _ => rfl⟩) dX4_same_80
            · refine lv_iconst (v := -1) hx hb dX4_same_71 (by decide) ?_
              refine lv_icmp_ne (tgt := 79) hx hb dX4_same_72 (by decide) (fun hz => ?_) (fun hz => ?_)
              · refine lv_iconst (v := nI 0) hx hb dX4_same_79 (by decide) ?_
                exact ret_i B hr hlk hW (by rw [cif_f (fun q => hne (q.2 p9 h48))]; exact ⟨rfl, hX, fun _ _ => rfl⟩) dX4_same_80
              · exact absurd hz (nI_m1 (by omega))
        · exact absurd hz (by decide)
      · refine n_if_ne (tgt := 23) hx hb (by omega) dX4_same_13 (by decide) (fun hz => ?_) (fun hz => ?_)
        · exact absurd rfl hz
        · refine lv_aload_n hx hb dX4_same_16 rfl (lv_at hl 0 rfl) ?_
          refine lv_bipush (v := -3) hx hb dX4_same_17 (by decide) ?_
          refine call_vi B hA hW (0) (by omega) x0 (r := _) rfl rfl (k_refuse l G n ad w hn σ hX (-3) 3 (by decide) (by decide) (by decide) (by decide) (by decide)) mf_X4_refuse hw_149 rfl ⟨⟨rfl, rfl⟩, by decide, by decide⟩ ⟨Nat.zero_le _, Nat.zero_le _⟩ hl.1 rfl (Nat.le_of_ble_eq_true rfl) dX4_same_19 (fun r w9 H locs hp hW => ?_)
          exact ret_i B hr hlk hW (by rw [show st_same σ (nI i) g = ref σ 3 by unfold st_same; rw [cif_f (fun q => hnf q.2)]]; exact hp) dX4_same_22
  · refine n_if_eq (tgt := 16) hx hb (by omega) dX4_same_5 (by decide) (fun hz => ?_) (fun hz => ?_)
    · refine lv_aload_n hx hb dX4_same_16 rfl (lv_at hl 0 rfl) ?_
      refine lv_bipush (v := -3) hx hb dX4_same_17 (by decide) ?_
      refine call_vi B hA hW (0) (by omega) x0 (r := _) rfl rfl (k_refuse l G n ad w hn σ hX (-3) 3 (by decide) (by decide) (by decide) (by decide) (by decide)) mf_X4_refuse hw_149 rfl ⟨⟨rfl, rfl⟩, by decide, by decide⟩ ⟨Nat.zero_le _, Nat.zero_le _⟩ hl.1 rfl (Nat.le_of_ble_eq_true rfl) dX4_same_19 (fun r w9 H locs hp hW => ?_)
      exact ret_i B hr hlk hW (by rw [show st_same σ f g = ref σ 3 by unfold st_same; rw [cif_f (fun q => hnf q.1)]]; exact hp) dX4_same_22
    · exact absurd rfl hz
end
section
/-! ===== pure: ranges, squares ===== -/
theorem mul_rng {x : Int} {a : Nat} (h1 : -2147483648 ≤ x) (h2 : x < 2147483648) (ha : a < 1000003) : -2147490090450944 ≤ x * (a : Int) ∧ x * (a : Int) ≤ 2147490090450944 := by
  have h3 : (x * (a : Int)).natAbs = x.natAbs * a := by rw [Int.natAbs_mul]; rfl
  have h4 : x.natAbs * a ≤ 2147483648 * 1000003 := Nat.mul_le_mul (by omega) (by omega)
  omega
theorem neg_rng {x : Int32} (h1 : x ≤ -2) (h2 : -8 ≤ x) : ∃ c, 2 ≤ c ∧ c < 9 ∧ -x = nI c := by
  rw [Int32.le_iff_toInt_le] at h1 h2
  have e1 : (-2 : Int32).toInt = -2 := rfl
  have e2 : (-8 : Int32).toInt = -8 := rfl
  have hx := iZ_of x
  have hz : x.toInt = -2 ∨ x.toInt = -3 ∨ x.toInt = -4 ∨ x.toInt = -5 ∨ x.toInt = -6 ∨ x.toInt = -7 ∨ x.toInt = -8 := by omega
  rcases hz with h | h | h | h | h | h | h <;> rw [h] at hx <;> rw [← hx]
  · exact ⟨2, by decide, by decide, by decide⟩
  · exact ⟨3, by decide, by decide, by decide⟩
  · exact ⟨4, by decide, by decide, by decide⟩
  · exact ⟨5, by decide, by decide, by decide⟩
  · exact ⟨6, by decide, by decide, by decide⟩
  · exact ⟨7, by decide, by decide, by decide⟩
  · exact ⟨8, by decide, by decide, by decide⟩
/-- the sum over the roots below r -/
def pS (s m : Nat) : Nat → Nat := sm (fun r => if 1 ≤ r ∧ r * r ≤ m then sqN s (m - r * r) else 0)
theorem pS_end {s m r : Nat} (hr : m < r * r) : ∀ t, r ≤ t → pS s m t = pS s m r
  | 0, h => by rw [show r = 0 by omega]
  | t + 1, h => by
    by_cases q : r ≤ t
    · have ih := pS_end (s := s) hr t q
      show pS s m t + (if 1 ≤ t ∧ t * t ≤ m then sqN s (m - t * t) else 0) = _
      have h2 : r * r ≤ t * t := Nat.mul_le_mul q q
      rw [ih, if_neg (fun z => by omega), Nat.add_zero]
    · rw [show r = t + 1 by omega]
theorem pS_step {s m r : Nat} (h1 : 1 ≤ r) (h2 : r * r ≤ m) : pS s m (r + 1) = pS s m r + sqN s (m - r * r) := by
  show pS s m r + (if 1 ≤ r ∧ r * r ≤ m then sqN s (m - r * r) else 0) = _
  rw [if_pos ⟨h1, h2⟩]
theorem pS_1 (s m : Nat) : pS s m 1 = 0 := by
  show 0 + (if 1 ≤ 0 ∧ 0 * 0 ≤ m then sqN s (m - 0 * 0) else 0) = 0
  rw [if_neg (by omega)]
theorem sqN_succ {s m r : Nat} (hr : m < r * r) (h11 : r ≤ 11) : sqN (s + 1) m = sqN s m + 2 * pS s m r := by
  show sqN s m + 2 * pS s m 11 = _
  rw [pS_end hr 11 h11]
theorem sqN_0 (s : Nat) : sqN (s + 1) 0 = sqN s 0 := by
  rw [sqN_succ (r := 1) (by decide) (by decide), pS_1, Nat.mul_zero, Nat.add_zero]
theorem zm_12 : zm 12 = 12 := by decide
theorem ovr_eq {k : Nat} {a : Nat → Nat} {pv : Nat → Nat} (h : ∀ i, i < zs (k - 12) → pv i = prt (bas k) a (i + 1)) (n : Nat) : bld (bas (k - 12)) (zs (k - 12)) pv n = ovrS k a n := by
  unfold bld ovrS bld
  rw [sm_congr (fun i hi => by rw [h i hi])]
end
section
set_option maxHeartbeats 4000000 in
set_option maxRecDepth 100000 in
theorem k_X4_slope (l : Launch) (G : zG) (n : Nat) (ad : Nat → Nat) (w : Nat → va_E) (hn : 92 ≤ n) (σ : zS) (hX : XOK G ad w σ) (hs : SOK σ) (f : Int32) :
    Ci l G yX4_slope cdX4_slope (zr 5) n ad w [.ref (ad (0)), .int (f)] (postX G ad w (st_slope σ f)) := by
  obtain ⟨⟨nf, hB⟩, x0, ⟨f1, x1, v1⟩, ⟨f55, x55⟩, ⟨f56, x56⟩, ⟨f57, x57⟩, ⟨f58, x58, v58⟩, ⟨f59, x59, v59⟩, xf⟩ := id hX
  have hsh := hs.1
  refine ent_i (cc := cX4_slope) (maxL := 8) (ret := (some .int)) (by decide +kernel) rfl (Nat.le_of_ble_eq_true rfl) ?_
  intro p e s m args below meth c A B hr hlk hA H locs ls hW hl
  have hx := B.1
  have hb := B.2.1
  have hl : lv_has ls 8 [(0, .ref (ad (0))), (1, .int (f))] := hl
  obtain ⟨b2, -⟩ := id hB
  refine lv_aload_n hx hb dX4_slope_0 rfl (lv_at hl 0 rfl) ?_
  refine lv_iload_n hx hb dX4_slope_1 rfl (lv_at hl 1 rfl) ?_
  refine call_vi B hA hW (0) (by omega) x0 (r := _) rfl rfl (k_isForm l G n ad w hn σ hX hs f) mf_X4_isForm hw_184 rfl ⟨⟨rfl, rfl⟩, by decide, by decide⟩ ⟨Nat.zero_le _, Nat.zero_le _⟩ hl.1 rfl (Nat.le_of_ble_eq_true rfl) dX4_slope_2 (fun r w9 H locs hp hW => ?_)
  obtain ⟨e1, hp⟩ := hp
  rw [e1] at hW
  rcases hp with ⟨i, hi, rfl, rfl⟩ | ⟨hnf, rfl⟩
  · obtain ⟨w40_i, w2_i, k4_i, t40_i, r_i, s_i⟩ := hs.2.1 i hi
    obtain ⟨o_i, n_i⟩ := hX.form hs hi
    obtain ⟨f_i, e_i, v_i⟩ := id n_i
    refine n_if_ne (tgt := 15) hx hb (by omega) dX4_slope_5 (by decide) (fun hz => ?_) (fun hz => ?_)
    · have hS : st_slope σ (nI i) = comeO σ (sW σ i + 2) (slpS (sW σ i) (sE σ i)) := by
        unfold st_slope
        rw [cif_t ⟨i, hi, rfl⟩, cN_nI (by omega)]
      rw [hS]
      refine lv_aload_n hx hb dX4_slope_15 rfl (lv_at hl 0 rfl) ?_
      refine z_get B hW (0) (by omega) x0 rfl inX4 0 (by decide) hw_112 rfl (v := .ref (ad (1))) rfl dX4_slope_16 ?_
      refine lv_iload_n hx hb dX4_slope_19 rfl (lv_at hl 1 rfl) ?_
      refine z_aald B hW (1) (by omega) x1 (i) (by omega) (by decide) (q := ad (60 + 2 * (i))) (v1 _ (by omega)) dX4_slope_20 ?_
      refine z_get B hW (60 + 2 * (i)) (by omega) o_i rfl inX1 1 (by decide) hw_100 rfl (v := .int (nI (sW σ i))) rfl dX4_slope_21 ?_
      refine lv_iconst (v := nI 2) hx hb dX4_slope_24 (by decide) ?_
      refine n_iadd hx hb dX4_slope_25 ?_
      refine lv_istore_n (lv' := [(2, .int (nI ((sW σ i) + 2))), (0, .ref (ad (0))), (1, .int (nI (i)))]) hx hb dX4_slope_26 rfl hl (by decide) rfl (fun ls hl => ?_)
      refine lv_aload_n hx hb dX4_slope_27 rfl (lv_at hl 1 rfl) ?_
      refine lv_iload_n hx hb dX4_slope_28 rfl (lv_at hl 0 rfl) ?_
      refine call_vi B hA hW (0) (by omega) x0 (r := _) rfl rfl (k_hasRoom l G n ad w hn σ hX hs (sW σ i + 2) (by omega)) mf_X4_hasRoom hw_156 rfl ⟨⟨rfl, rfl⟩, by decide, by decide⟩ ⟨Nat.zero_le _, Nat.zero_le _⟩ hl.1 rfl (Nat.le_of_ble_eq_true rfl) dX4_slope_29 (fun r w9 H locs hp hW => ?_)
      obtain ⟨e1, hp⟩ := hp
      rw [e1] at hW
      rcases hp with ⟨hh, hk40, rfl⟩ | ⟨hnr, rfl⟩
      · obtain ⟨xa, ya, za, fa, g1, g2⟩ := hX.free hh
        refine n_if_ne (tgt := 42) hx hb (by omega) dX4_slope_32 (by decide) (fun hz => ?_) (fun hz => ?_)
        · obtain ⟨-, hE2, -⟩ := id hB
          refine lv_aload_n hx hb dX4_slope_42 rfl (lv_at hl 1 rfl) ?_
          refine z_get B hW (0) (by omega) x0 rfl inX4 0 (by decide) hw_112 rfl (v := .ref (ad (1))) rfl dX4_slope_43 ?_
          refine lv_iload_n hx hb dX4_slope_46 rfl (lv_at hl 2 rfl) ?_
          refine z_aald B hW (1) (by omega) x1 (i) (by omega) (by decide) (q := ad (60 + 2 * (i))) (v1 _ (by omega)) dX4_slope_47 ?_
          refine z_get B hW (60 + 2 * (i)) (by omega) o_i rfl inX1 0 (by decide) hw_98 rfl (v := .ref (ad (61 + 2 * (i)))) rfl dX4_slope_48 ?_
          refine lv_astore_n (lv' := [(3, .ref (ad (61 + 2 * (i)))), (2, .int (nI ((sW σ i) + 2))), (0, .ref (ad (0))), (1, .int (nI (i)))]) hx hb dX4_slope_51 rfl hl (by decide) rfl (fun ls hl => ?_)
          refine lv_aload_n hx hb dX4_slope_52 rfl (lv_at hl 2 rfl) ?_
          refine z_get B hW (0) (by omega) x0 rfl inX4 0 (by decide) hw_112 rfl (v := .ref (ad (1))) rfl dX4_slope_53 ?_
          refine lv_aload_n hx hb dX4_slope_56 rfl (lv_at hl 2 rfl) ?_
          refine z_get B hW (0) (by omega) x0 rfl inX4 1 (by decide) hw_113 rfl (v := .int (nI (sH σ))) rfl dX4_slope_57 ?_
          refine z_aald B hW (1) (by omega) x1 (sH σ) (by omega) (by decide) (q := ad (60 + 2 * (sH σ))) (v1 _ (by omega)) dX4_slope_60 ?_
          refine z_get B hW (60 + 2 * (sH σ)) (by omega) g1 rfl inX1 0 (by decide) hw_98 rfl (v := .ref (ad (61 + 2 * (sH σ)))) rfl dX4_slope_61 ?_
          refine lv_astore (lv' := [(4, .ref (ad (61 + 2 * (sH σ)))), (3, .ref (ad (61 + 2 * (i)))), (2, .int (nI ((sW σ i) + 2))), (0, .ref (ad (0))), (1, .int (nI (i)))]) hx hb dX4_slope_64 hl (by decide) rfl (fun ls hl => ?_)
          refine lv_aload_n hx hb dX4_slope_66 rfl (lv_at hl 3 rfl) ?_
          refine z_get B hW (0) (by omega) x0 rfl inX4 0 (by decide) hw_112 rfl (v := .ref (ad (1))) rfl dX4_slope_67 ?_
          refine lv_iload_n hx hb dX4_slope_70 rfl (lv_at hl 4 rfl) ?_
          refine z_aald B hW (1) (by omega) x1 (i) (by omega) (by decide) (q := ad (60 + 2 * (i))) (v1 _ (by omega)) dX4_slope_71 ?_
          refine z_get B hW (60 + 2 * (i)) (by omega) o_i rfl inX1 1 (by decide) hw_100 rfl (v := .int (nI (sW σ i))) rfl dX4_slope_72 ?_
          refine n_i2l hx hb (by omega) dX4_slope_75 ?_
          refine topl (y := (lZ (((sW σ i : Nat) : Int)))) (lN_Z _) ?_
          refine n_ldc2 B hw_206 (x := lZ (12)) (by decide) dX4_slope_76 ?_
          refine call_sl B hA hW (k_quotient l G n ad w ((sW σ i : Nat) : Int) 12 (by omega) (by omega) (by omega) (by omega)) mf_X2_quotient hw_164 rfl ⟨⟨rfl, rfl⟩, by decide, by decide⟩ ⟨Nat.zero_le _, Nat.zero_le _⟩ hl.1 rfl (Nat.le_of_ble_eq_true rfl) dX4_slope_79 (fun r w9 H locs hp hW => ?_)
          obtain ⟨e1, e2⟩ := hp
          rw [e1] at hW
          subst e2
          obtain ⟨sh, hsh⟩ : ∃ sh, sh = sW σ i * invM 12 % 1000003 := ⟨_, rfl⟩
          have hshl : sh < 1000003 := by rw [hsh]; exact Nat.mod_lt _ (by decide)
          refine topl (y := (lN (sh))) (by rw [hsh, zm_nat, zm_12, Nat.mod_eq_of_lt (show sW σ i < 1000003 by omega), invM]) ?_
          refine lv_lstore (lv' := [(5, .long (lN (sh))), (4, .ref (ad (61 + 2 * (sH σ)))), (3, .ref (ad (61 + 2 * (i)))), (2, .int (nI ((sW σ i) + 2))), (0, .ref (ad (0))), (1, .int (nI (i)))]) hx hb dX4_slope_82 hl (by decide) rfl (fun ls hl => ?_)
          refine lv_aload_n hx hb dX4_slope_84 rfl (lv_at hl 4 rfl) ?_
          refine z_get B hW (0) (by omega) x0 rfl inX4 2 (by decide) hw_114 rfl (v := .ref (ad (2))) rfl dX4_slope_85 ?_
          refine z_get B hW (2) (by omega) b2 rfl inX0 0 (by decide) hw_64 rfl (v := .ref (ad (3))) rfl dX4_slope_88 ?_
          refine lv_aload_n hx hb dX4_slope_91 rfl (lv_at hl 2 rfl) ?_
          refine lv_aload hx hb dX4_slope_92 (lv_at hl 1 rfl) ?_
          refine call_sv B hA hW (k_X3_multiply l G n ad w 3 (61 + 2 * i) (61 + 2 * sH σ) e2S (sE σ i) (by omega) (by omega) (by omega) hE2 n_i ⟨_, g2⟩ (red_sums _ _).s r_i.s) mf_X3_multiply hw_197 rfl ⟨⟨rfl, rfl⟩, by decide, by decide⟩ ⟨Nat.zero_le _, Nat.zero_le _⟩ hl.1 rfl (Nat.le_of_ble_eq_true rfl) dX4_slope_94 (fun w2 H locs hp hW => ?_)
          obtain ⟨h1, f2, h2, h3⟩ := hp
          refine lv_iconst (v := nI 0) hx hb dX4_slope_97 (by decide) ?_
          refine lv_istore (lv' := [(7, .int (nI (0))), (5, .long (lN (sh))), (4, .ref (ad (61 + 2 * (sH σ)))), (3, .ref (ad (61 + 2 * (i)))), (2, .int (nI ((sW σ i) + 2))), (0, .ref (ad (0))), (1, .int (nI (i)))]) hx hb dX4_slope_98 hl (by decide) rfl (fun ls hl => ?_)
          refine z_up (Wg := fun H locs ls => W p l e (zr 5) s m args below meth c H locs 0 0 _ (F0 m 100 ls [])) (I := fun q H locs ls => ∃ (w3 : Nat → va_E) (g : Nat → Int64), Wo G A s.heap n ad w3 H locs ∧ lv_has ls 8 [(7, .int (nI q)), (5, .long (lN sh)), (4, .ref (ad (61 + 2 * (sH σ)))), (3, .ref (ad (61 + 2 * (i)))), (2, .int (nI (sW σ i + 2))), (0, .ref (ad 0)), (1, .int (nI i))] ∧ (∀ j, j ≠ 61 + 2 * sH σ → w3 j = w j) ∧ w3 (61 + 2 * sH σ) = eL G 48 g ∧ (∀ j, j < q → g j = lN (slpS (sW σ i) (sE σ i) j)) ∧ ∀ j, q ≤ j → j < 48 → g j = lN (mulS e2S (sE σ i) j)) (a := 0) (b := 48) (Nat.zero_le _) ?_ ?_ H locs ls ⟨w2, f2, hW, lv_sub hl [0, 1, 2, 3, 4, 5, 6] rfl, h1, h2, fun j h => by omega, fun j _ hj => h3 j hj⟩
          · rintro q - hq ih H locs ls ⟨w3, g, hW, hl, c1, c2, c3, c4⟩
            have ei3 : w3 (61 + 2 * i) = eL G 48 f_i := (c1 _ (by omega)).trans e_i
            have hm1 := mul_lt hshl (mulS_lt e2S (sE σ i) q)
            have ri := r_i q
            have hm2 : q * sE σ i q ≤ 47 * 1000003 := Nat.mul_le_mul (by omega) (by omega)
            refine lv_iload hx hb dX4_slope_100 (lv_at hl 0 rfl) ?_
            refine lv_bipush (v := nI 48) hx hb dX4_slope_102 (by decide) ?_
            refine n_icmp_ge (tgt := 138) hx hb (by omega) (by omega) dX4_slope_104 (by decide) (fun hc => ?_) (fun hc => ?_)
            · omega
            · refine lv_aload hx hb dX4_slope_107 (lv_at hl 2 rfl) ?_
              refine lv_iload hx hb dX4_slope_109 (lv_at hl 0 rfl) ?_
              refine lv_iload hx hb dX4_slope_111 (lv_at hl 0 rfl) ?_
              refine n_i2l hx hb (by omega) dX4_slope_113 ?_
              refine lv_aload_n hx hb dX4_slope_114 rfl (lv_at hl 3 rfl) ?_
              refine lv_iload hx hb dX4_slope_115 (lv_at hl 0 rfl) ?_
              refine z_lald B hW (61 + 2 * (i)) (by omega) ei3 (q) (by omega) (by decide) (v := (lN (sE σ i (q)))) (v_i _ (by omega)) dX4_slope_117 ?_
              refine n_lmul hx hb dX4_slope_118 ?_
              refine topl (y := (lZ (((q * sE σ i q : Nat) : Int)))) (lN_Z _) ?_
              refine lv_lload hx hb dX4_slope_119 (lv_at hl 1 rfl) ?_
              refine lv_aload hx hb dX4_slope_121 (lv_at hl 2 rfl) ?_
              refine lv_iload hx hb dX4_slope_123 (lv_at hl 0 rfl) ?_
              refine z_lald B hW (61 + 2 * (sH σ)) (by omega) c2 (q) (by omega) (by decide) (v := (lN (mulS e2S (sE σ i) (q)))) (c4 _ (by omega) (by omega)) dX4_slope_125 ?_
              refine n_lmul hx hb dX4_slope_126 ?_
              refine topl (y := (lZ (((sh * mulS e2S (sE σ i) q : Nat) : Int)))) (lN_Z _) ?_
              refine z_lsub hx hb dX4_slope_127 ?_
              refine call_sl B hA hW (k_rest l G n ad w3 (((q * sE σ i q : Nat) : Int) - ((sh * mulS e2S (sE σ i) q : Nat) : Int)) (by omega) (by omega)) mf_X2_rest hw_188 rfl ⟨⟨rfl, rfl⟩, by decide, by decide⟩ ⟨Nat.zero_le _, Nat.zero_le _⟩ hl.1 rfl (Nat.le_of_ble_eq_true rfl) dX4_slope_128 (fun r w9 H locs hp hW => ?_)
              obtain ⟨e1, e2⟩ := hp
              rw [e1] at hW
              subst e2
              refine z_last B hW (61 + 2 * (sH σ)) (by omega) c2 (q) (by omega) (by decide) dX4_slope_131 (fun H locs hW => ?_)
              refine lv_iinc (v := (nI (q + 1))) (lv' := [(7, .int (nI (q + 1))), (5, .long (lN (sh))), (4, .ref (ad (61 + 2 * (sH σ)))), (3, .ref (ad (61 + 2 * (i)))), (2, .int (nI (sW σ i + 2))), (0, .ref (ad (0))), (1, .int (nI (i)))]) hx hb dX4_slope_132 hl (k := 0) rfl (iinc1 _) (by decide) rfl (fun ls hl => ?_)
              refine lv_goto (tgt := 100) hx hb dX4_slope_135 (by decide) ?_
              refine ih H locs ls ⟨_, _, hW, lv_sub hl [0, 1, 2, 3, 4, 5, 6] rfl, fun j hj => by rw [up_n hj]; exact c1 j hj, up_s, fun j hj => ?_, fun j hj1 hj2 => ?_⟩
              · by_cases z : j = q
                · rw [z, pk_uLs, hsh]; rfl
                · rw [pk_uLn z]; exact c3 j (by omega)
              · rw [pk_uLn (by omega)]; exact c4 j (by omega) hj2
          · rintro H locs ls ⟨w3, g, hW, hl, c1, c2, c3, c4⟩
            refine lv_iload hx hb dX4_slope_100 (lv_at hl 0 rfl) ?_
            refine lv_bipush (v := nI 48) hx hb dX4_slope_102 (by decide) ?_
            refine n_icmp_ge (tgt := 138) hx hb (by omega) (by omega) dX4_slope_104 (by decide) (fun hc => ?_) (fun hc => ?_)
            · have hX2 : XOK G ad w3 σ := hX.num ⟨_, c2⟩ c1
              refine lv_aload_n hx hb dX4_slope_138 rfl (lv_at hl 5 rfl) ?_
              refine lv_iload_n hx hb dX4_slope_139 rfl (lv_at hl 4 rfl) ?_
              refine call_vi B hA hW (0) (by omega) hX2.2.1 (r := _) rfl rfl (k_comeOfOthers l G n ad w3 hn σ hX2 hs hh (sW σ i + 2) hk40 (slpS (sW σ i) (sE σ i)) ⟨g, c2, c3⟩ (zm_lt _)) mf_X4_comeOfOthers hw_189 rfl ⟨⟨rfl, rfl⟩, by decide, by decide⟩ ⟨Nat.zero_le _, Nat.zero_le _⟩ hl.1 rfl (Nat.le_of_ble_eq_true rfl) dX4_slope_140 (fun r w9 H locs hp9 hW => ?_)
              exact ret_i B hr hlk hW ⟨hp9.1, hp9.2.1, fun j hj => (hp9.2.2 j hj).trans (c1 j (by omega))⟩ dX4_slope_143
            · omega
        · exact absurd hz (by decide)
      · refine n_if_ne (tgt := 42) hx hb (by omega) dX4_slope_32 (by decide) (fun hz => ?_) (fun hz => ?_)
        · exact absurd rfl hz
        · refine lv_aload_n hx hb dX4_slope_35 rfl (lv_at hl 1 rfl) ?_
          refine lv_bipush (v := -8) hx hb dX4_slope_36 (by decide) ?_
          refine call_vi B hA hW (0) (by omega) x0 (r := _) rfl rfl (k_refuse l G n ad w hn σ hX (-8) 8 (by decide) (by decide) (by decide) (by decide) (by decide)) mf_X4_refuse hw_149 rfl ⟨⟨rfl, rfl⟩, by decide, by decide⟩ ⟨Nat.zero_le _, Nat.zero_le _⟩ hl.1 rfl (Nat.le_of_ble_eq_true rfl) dX4_slope_38 (fun r w9 H locs hp hW => ?_)
          exact ret_i B hr hlk hW (by rw [comeO_full hnr]; exact hp) dX4_slope_41
    · exact absurd hz (by decide)
  · refine n_if_ne (tgt := 15) hx hb (by omega) dX4_slope_5 (by decide) (fun hz => ?_) (fun hz => ?_)
    · exact absurd rfl hz
    · refine lv_aload_n hx hb dX4_slope_8 rfl (lv_at hl 0 rfl) ?_
      refine lv_bipush (v := -3) hx hb dX4_slope_9 (by decide) ?_
      refine call_vi B hA hW (0) (by omega) x0 (r := _) rfl rfl (k_refuse l G n ad w hn σ hX (-3) 3 (by decide) (by decide) (by decide) (by decide) (by decide)) mf_X4_refuse hw_149 rfl ⟨⟨rfl, rfl⟩, by decide, by decide⟩ ⟨Nat.zero_le _, Nat.zero_le _⟩ hl.1 rfl (Nat.le_of_ble_eq_true rfl) dX4_slope_11 (fun r w9 H locs hp hW => ?_)
      exact ret_i B hr hlk hW (by rw [show st_slope σ f = ref σ 3 by unfold st_slope; rw [cif_f hnf]]; exact hp) dX4_slope_14
set_option maxHeartbeats 4000000 in
set_option maxRecDepth 100000 in
theorem k_X4_add (l : Launch) (G : zG) (n : Nat) (ad : Nat → Nat) (w : Nat → va_E) (hn : 92 ≤ n) (σ : zS) (hX : XOK G ad w σ) (hs : SOK σ) (f x g y : Int32) :
    Ci l G yX4_add cdX4_add (zr 5) n ad w [.ref (ad (0)), .int (f), .int (x), .int (g), .int (y)] (postX G ad w (st_add σ f x g y)) := by
  obtain ⟨⟨nf, hB⟩, x0, ⟨f1, x1, v1⟩, ⟨f55, x55⟩, ⟨f56, x56⟩, ⟨f57, x57⟩, ⟨f58, x58, v58⟩, ⟨f59, x59, v59⟩, xf⟩ := id hX
  have hsh := hs.1
  refine ent_i (cc := cX4_add) (maxL := 10) (ret := (some .int)) (by decide +kernel) rfl (Nat.le_of_ble_eq_true rfl) ?_
  intro p e s m args below meth c A B hr hlk hA H locs ls hW hl
  have hx := B.1
  have hb := B.2.1
  have hl : lv_has ls 10 [(0, .ref (ad (0))), (1, .int (f)), (2, .int (x)), (3, .int (g)), (4, .int (y))] := hl
  obtain ⟨b2, -⟩ := id hB
  refine lv_aload_n hx hb dX4_add_0 rfl (lv_at hl 0 rfl) ?_
  refine lv_iload_n hx hb dX4_add_1 rfl (lv_at hl 1 rfl) ?_
  refine call_vi B hA hW (0) (by omega) x0 (r := _) rfl rfl (k_isForm l G n ad w hn σ hX hs f) mf_X4_isForm hw_184 rfl ⟨⟨rfl, rfl⟩, by decide, by decide⟩ ⟨Nat.zero_le _, Nat.zero_le _⟩ hl.1 rfl (Nat.le_of_ble_eq_true rfl) dX4_add_2 (fun r w9 H locs hp hW => ?_)
  obtain ⟨e1, hp⟩ := hp
  rw [e1] at hW
  rcases hp with ⟨i, hi, rfl, rfl⟩ | ⟨hnf, rfl⟩
  · obtain ⟨w40_i, w2_i, k4_i, t40_i, r_i, s_i⟩ := hs.2.1 i hi
    obtain ⟨o_i, n_i⟩ := hX.form hs hi
    obtain ⟨f_i, e_i, v_i⟩ := id n_i
    refine n_if_eq (tgt := 16) hx hb (by omega) dX4_add_5 (by decide) (fun hz => ?_) (fun hz => ?_)
    · exact absurd hz (by decide)
    · refine lv_aload_n hx hb dX4_add_8 rfl (lv_at hl 0 rfl) ?_
      refine lv_iload_n hx hb dX4_add_9 rfl (lv_at hl 3 rfl) ?_
      refine call_vi B hA hW (0) (by omega) x0 (r := _) rfl rfl (k_isForm l G n ad w hn σ hX hs g) mf_X4_isForm hw_184 rfl ⟨⟨rfl, rfl⟩, by decide, by decide⟩ ⟨Nat.zero_le _, Nat.zero_le _⟩ hl.1 rfl (Nat.le_of_ble_eq_true rfl) dX4_add_10 (fun r w9 H locs hp hW => ?_)
      obtain ⟨e1, hp⟩ := hp
      rw [e1] at hW
      rcases hp with ⟨j, hj, rfl, rfl⟩ | ⟨hnf, rfl⟩
      · obtain ⟨w40_j, w2_j, k4_j, t40_j, r_j, s_j⟩ := hs.2.1 j hj
        obtain ⟨o_j, n_j⟩ := hX.form hs hj
        obtain ⟨f_j, e_j, v_j⟩ := id n_j
        refine n_if_ne (tgt := 23) hx hb (by omega) dX4_add_13 (by decide) (fun hz => ?_) (fun hz => ?_)
        · have hS : st_add σ (nI i) x (nI j) y = cif (sW σ i = sW σ j) (comeO σ (sW σ i) (addS x y (sE σ i) (sE σ j))) (ref σ 7) := by
            unfold st_add
            rw [cif_t ⟨⟨i, hi, rfl⟩, ⟨j, hj, rfl⟩⟩, cN_nI (by omega), cN_nI (by omega)]
          rw [hS]
          refine lv_aload_n hx hb dX4_add_23 rfl (lv_at hl 0 rfl) ?_
          refine z_get B hW (0) (by omega) x0 rfl inX4 0 (by decide) hw_112 rfl (v := .ref (ad (1))) rfl dX4_add_24 ?_
          refine lv_iload_n hx hb dX4_add_27 rfl (lv_at hl 1 rfl) ?_
          refine z_aald B hW (1) (by omega) x1 (i) (by omega) (by decide) (q := ad (60 + 2 * (i))) (v1 _ (by omega)) dX4_add_28 ?_
          refine z_get B hW (60 + 2 * (i)) (by omega) o_i rfl inX1 1 (by decide) hw_100 rfl (v := .int (nI (sW σ i))) rfl dX4_add_29 ?_
          refine lv_istore (lv' := [(5, .int (nI (sW σ i))), (0, .ref (ad (0))), (1, .int (nI (i))), (2, .int (x)), (3, .int (nI (j))), (4, .int (y))]) hx hb dX4_add_32 hl (by decide) rfl (fun ls hl => ?_)
          refine lv_iload hx hb dX4_add_34 (lv_at hl 0 rfl) ?_
          refine lv_aload_n hx hb dX4_add_36 rfl (lv_at hl 1 rfl) ?_
          refine z_get B hW (0) (by omega) x0 rfl inX4 0 (by decide) hw_112 rfl (v := .ref (ad (1))) rfl dX4_add_37 ?_
          refine lv_iload_n hx hb dX4_add_40 rfl (lv_at hl 4 rfl) ?_
          refine z_aald B hW (1) (by omega) x1 (j) (by omega) (by decide) (q := ad (60 + 2 * (j))) (v1 _ (by omega)) dX4_add_41 ?_
          refine z_get B hW (60 + 2 * (j)) (by omega) o_j rfl inX1 1 (by decide) hw_100 rfl (v := .int (nI (sW σ j))) rfl dX4_add_42 ?_
          refine n_icmp_eq (tgt := 55) hx hb (by omega) (by omega) dX4_add_45 (by decide) (fun hd => ?_) (fun hd => ?_)
          · rw [cif_t hd]
            refine lv_aload_n hx hb dX4_add_55 rfl (lv_at hl 1 rfl) ?_
            refine lv_iload hx hb dX4_add_56 (lv_at hl 0 rfl) ?_
            refine call_vi B hA hW (0) (by omega) x0 (r := _) rfl rfl (k_hasRoom l G n ad w hn σ hX hs (sW σ i) (by omega)) mf_X4_hasRoom hw_156 rfl ⟨⟨rfl, rfl⟩, by decide, by decide⟩ ⟨Nat.zero_le _, Nat.zero_le _⟩ hl.1 rfl (Nat.le_of_ble_eq_true rfl) dX4_add_58 (fun r w9 H locs hp hW => ?_)
            obtain ⟨e1, hp⟩ := hp
            rw [e1] at hW
            rcases hp with ⟨hh, hk40, rfl⟩ | ⟨hnr, rfl⟩
            · obtain ⟨xa, ya, za, fa, g1, g2⟩ := hX.free hh
              refine n_if_ne (tgt := 71) hx hb (by omega) dX4_add_61 (by decide) (fun hz => ?_) (fun hz => ?_)
              · refine lv_aload_n hx hb dX4_add_71 rfl (lv_at hl 1 rfl) ?_
                refine z_get B hW (0) (by omega) x0 rfl inX4 0 (by decide) hw_112 rfl (v := .ref (ad (1))) rfl dX4_add_72 ?_
                refine lv_iload_n hx hb dX4_add_75 rfl (lv_at hl 2 rfl) ?_
                refine z_aald B hW (1) (by omega) x1 (i) (by omega) (by decide) (q := ad (60 + 2 * (i))) (v1 _ (by omega)) dX4_add_76 ?_
                refine z_get B hW (60 + 2 * (i)) (by omega) o_i rfl inX1 0 (by decide) hw_98 rfl (v := .ref (ad (61 + 2 * (i)))) rfl dX4_add_77 ?_
                refine lv_astore (lv' := [(6, .ref (ad (61 + 2 * (i)))), (5, .int (nI (sW σ i))), (0, .ref (ad (0))), (1, .int (nI (i))), (2, .int (x)), (3, .int (nI (j))), (4, .int (y))]) hx hb dX4_add_80 hl (by decide) rfl (fun ls hl => ?_)
                refine lv_aload_n hx hb dX4_add_82 rfl (lv_at hl 2 rfl) ?_
                refine z_get B hW (0) (by omega) x0 rfl inX4 0 (by decide) hw_112 rfl (v := .ref (ad (1))) rfl dX4_add_83 ?_
                refine lv_iload_n hx hb dX4_add_86 rfl (lv_at hl 5 rfl) ?_
                refine z_aald B hW (1) (by omega) x1 (j) (by omega) (by decide) (q := ad (60 + 2 * (j))) (v1 _ (by omega)) dX4_add_87 ?_
                refine z_get B hW (60 + 2 * (j)) (by omega) o_j rfl inX1 0 (by decide) hw_98 rfl (v := .ref (ad (61 + 2 * (j)))) rfl dX4_add_88 ?_
                refine lv_astore (lv' := [(7, .ref (ad (61 + 2 * (j)))), (6, .ref (ad (61 + 2 * (i)))), (5, .int (nI (sW σ i))), (0, .ref (ad (0))), (1, .int (nI (i))), (2, .int (x)), (3, .int (nI (j))), (4, .int (y))]) hx hb dX4_add_91 hl (by decide) rfl (fun ls hl => ?_)
                refine lv_aload_n hx hb dX4_add_93 rfl (lv_at hl 3 rfl) ?_
                refine z_get B hW (0) (by omega) x0 rfl inX4 0 (by decide) hw_112 rfl (v := .ref (ad (1))) rfl dX4_add_94 ?_
                refine lv_aload_n hx hb dX4_add_97 rfl (lv_at hl 3 rfl) ?_
                refine z_get B hW (0) (by omega) x0 rfl inX4 1 (by decide) hw_113 rfl (v := .int (nI (sH σ))) rfl dX4_add_98 ?_
                refine z_aald B hW (1) (by omega) x1 (sH σ) (by omega) (by decide) (q := ad (60 + 2 * (sH σ))) (v1 _ (by omega)) dX4_add_101 ?_
                refine z_get B hW (60 + 2 * (sH σ)) (by omega) g1 rfl inX1 0 (by decide) hw_98 rfl (v := .ref (ad (61 + 2 * (sH σ)))) rfl dX4_add_102 ?_
                refine lv_astore (lv' := [(8, .ref (ad (61 + 2 * (sH σ)))), (7, .ref (ad (61 + 2 * (j)))), (6, .ref (ad (61 + 2 * (i)))), (5, .int (nI (sW σ i))), (0, .ref (ad (0))), (1, .int (nI (i))), (2, .int (x)), (3, .int (nI (j))), (4, .int (y))]) hx hb dX4_add_105 hl (by decide) rfl (fun ls hl => ?_)
                refine lv_iconst (v := nI 0) hx hb dX4_add_107 (by decide) ?_
                refine lv_istore (lv' := [(9, .int (nI (0))), (8, .ref (ad (61 + 2 * (sH σ)))), (7, .ref (ad (61 + 2 * (j)))), (6, .ref (ad (61 + 2 * (i)))), (5, .int (nI (sW σ i))), (0, .ref (ad (0))), (1, .int (nI (i))), (2, .int (x)), (3, .int (nI (j))), (4, .int (y))]) hx hb dX4_add_108 hl (by decide) rfl (fun ls hl => ?_)
                refine z_up (Wg := fun H locs ls => W p l e (zr 5) s m args below meth c H locs 0 0 _ (F0 m 110 ls [])) (I := fun q H locs ls => ∃ (w3 : Nat → va_E) (g : Nat → Int64), Wo G A s.heap n ad w3 H locs ∧ lv_has ls 10 [(9, .int (nI q)), (8, .ref (ad (61 + 2 * (sH σ)))), (7, .ref (ad (61 + 2 * (j)))), (6, .ref (ad (61 + 2 * (i)))), (5, .int (nI (sW σ i))), (0, .ref (ad 0)), (1, .int (nI i)), (2, .int x), (3, .int (nI j)), (4, .int y)] ∧ (∀ j, j ≠ 61 + 2 * sH σ → w3 j = w j) ∧ w3 (61 + 2 * sH σ) = eL G 48 g ∧ (∀ q', q' < q → g q' = lN (addS x y (sE σ i) (sE σ j) q'))) (a := 0) (b := 48) (Nat.zero_le _) ?_ ?_ H locs ls ⟨w, fa, hW, hl, fun _ _ => rfl, g2, fun j h => by omega⟩
                · rintro q - hq ih H locs ls ⟨w3, g, hW, hl, c1, c2, c3⟩
                  have ei3 : w3 (61 + 2 * i) = eL G 48 f_i := (c1 _ (by omega)).trans e_i
                  have ej3 : w3 (61 + 2 * j) = eL G 48 f_j := (c1 _ (by omega)).trans e_j
                  have hm1 := mul_rng (rngI x).1 (rngI x).2 (r_i q)
                  have hm2 := mul_rng (rngI y).1 (rngI y).2 (r_j q)
                  refine lv_iload hx hb dX4_add_110 (lv_at hl 0 rfl) ?_
                  refine lv_bipush (v := nI 48) hx hb dX4_add_112 (by decide) ?_
                  refine n_icmp_ge (tgt := 149) hx hb (by omega) (by omega) dX4_add_114 (by decide) (fun hc => ?_) (fun hc => ?_)
                  · omega
                  · refine lv_aload hx hb dX4_add_117 (lv_at hl 1 rfl) ?_
                    refine lv_iload hx hb dX4_add_119 (lv_at hl 0 rfl) ?_
                    refine lv_iload_n hx hb dX4_add_121 rfl (lv_at hl 7 rfl) ?_
                    refine r_i2l hx hb dX4_add_122 ?_
                    refine lv_aload hx hb dX4_add_123 (lv_at hl 3 rfl) ?_
                    refine lv_iload hx hb dX4_add_125 (lv_at hl 0 rfl) ?_
                    refine z_lald B hW (61 + 2 * (i)) (by omega) ei3 (q) (by omega) (by decide) (v := (lZ (((sE σ i (q) : Nat) : Int)))) (by rw [v_i _ (by omega), lN_Z]) dX4_add_127 ?_
                    refine z_lmul hx hb dX4_add_128 ?_
                    refine lv_iload hx hb dX4_add_129 (lv_at hl 9 rfl) ?_
                    refine r_i2l hx hb dX4_add_131 ?_
                    refine lv_aload hx hb dX4_add_132 (lv_at hl 2 rfl) ?_
                    refine lv_iload hx hb dX4_add_134 (lv_at hl 0 rfl) ?_
                    refine z_lald B hW (61 + 2 * (j)) (by omega) ej3 (q) (by omega) (by decide) (v := (lZ (((sE σ j (q) : Nat) : Int)))) (by rw [v_j _ (by omega), lN_Z]) dX4_add_136 ?_
                    refine z_lmul hx hb dX4_add_137 ?_
                    refine z_ladd hx hb dX4_add_138 ?_
                    refine call_sl B hA hW (k_rest l G n ad w3 (x.toInt * ((sE σ i q : Nat) : Int) + y.toInt * ((sE σ j q : Nat) : Int)) (by omega) (by omega)) mf_X2_rest hw_188 rfl ⟨⟨rfl, rfl⟩, by decide, by decide⟩ ⟨Nat.zero_le _, Nat.zero_le _⟩ hl.1 rfl (Nat.le_of_ble_eq_true rfl) dX4_add_139 (fun r w9 H locs hp hW => ?_)
                    obtain ⟨e1, e2⟩ := hp
                    rw [e1] at hW
                    subst e2
                    refine z_last B hW (61 + 2 * (sH σ)) (by omega) c2 (q) (by omega) (by decide) dX4_add_142 (fun H locs hW => ?_)
                    refine lv_iinc (v := (nI (q + 1))) (lv' := [(9, .int (nI (q + 1))), (8, .ref (ad (61 + 2 * (sH σ)))), (7, .ref (ad (61 + 2 * (j)))), (6, .ref (ad (61 + 2 * (i)))), (5, .int (nI (sW σ i))), (0, .ref (ad (0))), (1, .int (nI (i))), (2, .int (x)), (3, .int (nI (j))), (4, .int (y))]) hx hb dX4_add_143 hl (k := 0) rfl (iinc1 _) (by decide) rfl (fun ls hl => ?_)
                    refine lv_goto (tgt := 110) hx hb dX4_add_146 (by decide) ?_
                    refine ih H locs ls ⟨_, _, hW, lv_sub hl [0, 1, 2, 3, 4, 5, 6, 7, 8, 9] rfl, fun j hj => by rw [up_n hj]; exact c1 j hj, up_s, fun q' hq' => ?_⟩
                    by_cases z : q' = q
                    · rw [z, pk_uLs]; rfl
                    · rw [pk_uLn z]; exact c3 q' (by omega)
                · rintro H locs ls ⟨w3, g, hW, hl, c1, c2, c3⟩
                  refine lv_iload hx hb dX4_add_110 (lv_at hl 0 rfl) ?_
                  refine lv_bipush (v := nI 48) hx hb dX4_add_112 (by decide) ?_
                  refine n_icmp_ge (tgt := 149) hx hb (by omega) (by omega) dX4_add_114 (by decide) (fun hc => ?_) (fun hc => ?_)
                  · have hX2 : XOK G ad w3 σ := hX.num ⟨_, c2⟩ c1
                    refine lv_aload_n hx hb dX4_add_149 rfl (lv_at hl 5 rfl) ?_
                    refine lv_iload hx hb dX4_add_150 (lv_at hl 4 rfl) ?_
                    refine call_vi B hA hW (0) (by omega) hX2.2.1 (r := _) rfl rfl (k_comeOfOthers l G n ad w3 hn σ hX2 hs hh (sW σ i) hk40 (addS x y (sE σ i) (sE σ j)) ⟨g, c2, c3⟩ (zm_lt _)) mf_X4_comeOfOthers hw_189 rfl ⟨⟨rfl, rfl⟩, by decide, by decide⟩ ⟨Nat.zero_le _, Nat.zero_le _⟩ hl.1 rfl (Nat.le_of_ble_eq_true rfl) dX4_add_152 (fun r w9 H locs hp9 hW => ?_)
                    exact ret_i B hr hlk hW ⟨hp9.1, hp9.2.1, fun j hj => (hp9.2.2 j hj).trans (c1 j (by omega))⟩ dX4_add_155
                  · omega
              · exact absurd hz (by decide)
            · refine n_if_ne (tgt := 71) hx hb (by omega) dX4_add_61 (by decide) (fun hz => ?_) (fun hz => ?_)
              · exact absurd rfl hz
              · refine lv_aload_n hx hb dX4_add_64 rfl (lv_at hl 1 rfl) ?_
                refine lv_bipush (v := -8) hx hb dX4_add_65 (by decide) ?_
                refine call_vi B hA hW (0) (by omega) x0 (r := _) rfl rfl (k_refuse l G n ad w hn σ hX (-8) 8 (by decide) (by decide) (by decide) (by decide) (by decide)) mf_X4_refuse hw_149 rfl ⟨⟨rfl, rfl⟩, by decide, by decide⟩ ⟨Nat.zero_le _, Nat.zero_le _⟩ hl.1 rfl (Nat.le_of_ble_eq_true rfl) dX4_add_67 (fun r w9 H locs hp hW => ?_)
                exact ret_i B hr hlk hW (by rw [comeO_full hnr]; exact hp) dX4_add_70
          · refine lv_aload_n hx hb dX4_add_48 rfl (lv_at hl 1 rfl) ?_
            refine lv_bipush (v := -7) hx hb dX4_add_49 (by decide) ?_
            refine call_vi B hA hW (0) (by omega) x0 (r := _) rfl rfl (k_refuse l G n ad w hn σ hX (-7) 7 (by decide) (by decide) (by decide) (by decide) (by decide)) mf_X4_refuse hw_149 rfl ⟨⟨rfl, rfl⟩, by decide, by decide⟩ ⟨Nat.zero_le _, Nat.zero_le _⟩ hl.1 rfl (Nat.le_of_ble_eq_true rfl) dX4_add_51 (fun r w9 H locs hp hW => ?_)
            exact ret_i B hr hlk hW (by rw [cif_f hd]; exact hp) dX4_add_54
        · exact absurd hz (by decide)
      · refine n_if_ne (tgt := 23) hx hb (by omega) dX4_add_13 (by decide) (fun hz => ?_) (fun hz => ?_)
        · exact absurd rfl hz
        · refine lv_aload_n hx hb dX4_add_16 rfl (lv_at hl 0 rfl) ?_
          refine lv_bipush (v := -3) hx hb dX4_add_17 (by decide) ?_
          refine call_vi B hA hW (0) (by omega) x0 (r := _) rfl rfl (k_refuse l G n ad w hn σ hX (-3) 3 (by decide) (by decide) (by decide) (by decide) (by decide)) mf_X4_refuse hw_149 rfl ⟨⟨rfl, rfl⟩, by decide, by decide⟩ ⟨Nat.zero_le _, Nat.zero_le _⟩ hl.1 rfl (Nat.le_of_ble_eq_true rfl) dX4_add_19 (fun r w9 H locs hp hW => ?_)
          exact ret_i B hr hlk hW (by rw [show st_add σ (nI i) x g y = ref σ 3 by unfold st_add; rw [cif_f (fun q => hnf q.2)]]; exact hp) dX4_add_22
  · refine n_if_eq (tgt := 16) hx hb (by omega) dX4_add_5 (by decide) (fun hz => ?_) (fun hz => ?_)
    · refine lv_aload_n hx hb dX4_add_16 rfl (lv_at hl 0 rfl) ?_
      refine lv_bipush (v := -3) hx hb dX4_add_17 (by decide) ?_
      refine call_vi B hA hW (0) (by omega) x0 (r := _) rfl rfl (k_refuse l G n ad w hn σ hX (-3) 3 (by decide) (by decide) (by decide) (by decide) (by decide)) mf_X4_refuse hw_149 rfl ⟨⟨rfl, rfl⟩, by decide, by decide⟩ ⟨Nat.zero_le _, Nat.zero_le _⟩ hl.1 rfl (Nat.le_of_ble_eq_true rfl) dX4_add_19 (fun r w9 H locs hp hW => ?_)
      exact ret_i B hr hlk hW (by rw [show st_add σ f x g y = ref σ 3 by unfold st_add; rw [cif_f (fun q => hnf q.1)]]; exact hp) dX4_add_22
    · exact absurd rfl hz
set_option maxHeartbeats 4000000 in
set_option maxRecDepth 100000 in
theorem k_X4_part (l : Launch) (G : zG) (n : Nat) (ad : Nat → Nat) (w : Nat → va_E) (hn : 92 ≤ n) (σ : zS) (hX : XOK G ad w σ) (hs : SOK σ) (f x : Int32) :
    Ci l G yX4_part cdX4_part (zr 5) n ad w [.ref (ad (0)), .int (f), .int (x)] (postX G ad w (st_part σ f x)) := by
  obtain ⟨⟨nf, hB⟩, x0, ⟨f1, x1, v1⟩, ⟨f55, x55⟩, ⟨f56, x56⟩, ⟨f57, x57⟩, ⟨f58, x58, v58⟩, ⟨f59, x59, v59⟩, xf⟩ := id hX
  have hsh := hs.1
  refine ent_i (cc := cX4_part) (maxL := 3) (ret := (some .int)) (by decide +kernel) rfl (Nat.le_of_ble_eq_true rfl) ?_
  intro p e s m args below meth c A B hr hlk hA H locs ls hW hl
  have hx := B.1
  have hb := B.2.1
  have hl : lv_has ls 3 [(0, .ref (ad (0))), (1, .int (f)), (2, .int (x))] := hl
  obtain ⟨b2, -⟩ := id hB
  refine lv_aload_n hx hb dX4_part_0 rfl (lv_at hl 0 rfl) ?_
  refine lv_iload_n hx hb dX4_part_1 rfl (lv_at hl 1 rfl) ?_
  refine call_vi B hA hW (0) (by omega) x0 (r := _) rfl rfl (k_isForm l G n ad w hn σ hX hs f) mf_X4_isForm hw_184 rfl ⟨⟨rfl, rfl⟩, by decide, by decide⟩ ⟨Nat.zero_le _, Nat.zero_le _⟩ hl.1 rfl (Nat.le_of_ble_eq_true rfl) dX4_part_2 (fun r w9 H locs hp hW => ?_)
  obtain ⟨e1, hp⟩ := hp
  rw [e1] at hW
  rcases hp with ⟨i, hi, rfl, rfl⟩ | ⟨hnf, rfl⟩
  · obtain ⟨w40_i, w2_i, k4_i, t40_i, r_i, s_i⟩ := hs.2.1 i hi
    obtain ⟨o_i, n_i⟩ := hX.form hs hi
    obtain ⟨f_i, e_i, v_i⟩ := id n_i
    refine n_if_eq (tgt := 32) hx hb (by omega) dX4_part_5 (by decide) (fun hz => ?_) (fun hz => ?_)
    · exact absurd hz (by decide)
    · refine lv_iload_n hx hb dX4_part_8 rfl (lv_at hl 2 rfl) ?_
      refine lv_if_lt (tgt := 32) hx hb dX4_part_9 (by decide) (fun hc => ?_) (fun hc => ?_)
      · refine lv_aload_n hx hb dX4_part_32 rfl (lv_at hl 0 rfl) ?_
        refine lv_bipush (v := -3) hx hb dX4_part_33 (by decide) ?_
        refine call_vi B hA hW (0) (by omega) x0 (r := _) rfl rfl (k_refuse l G n ad w hn σ hX (-3) 3 (by decide) (by decide) (by decide) (by decide) (by decide)) mf_X4_refuse hw_149 rfl ⟨⟨rfl, rfl⟩, by decide, by decide⟩ ⟨Nat.zero_le _, Nat.zero_le _⟩ hl.1 rfl (Nat.le_of_ble_eq_true rfl) dX4_part_35 (fun r w9 H locs hp hW => ?_)
        exact ret_i B hr hlk hW (by rw [show st_part σ (nI i) x = ref σ 3 by unfold st_part; rw [cN_nI (by omega), cif_f (fun ⟨_, ⟨q, q1, q2⟩⟩ => nI_pos (by have := zs_le (sW σ i) w40_i; omega) (q2 ▸ hc))]]; exact hp) dX4_part_38
      · obtain ⟨q9, hq9, rfl⟩ := nI_of hc
        have hzl := zs_le (sW σ i) w40_i
        refine lv_iload_n hx hb dX4_part_12 rfl (lv_at hl 2 rfl) ?_
        refine lv_aload_n hx hb dX4_part_13 rfl (lv_at hl 0 rfl) ?_
        refine z_get B hW (0) (by omega) x0 rfl inX4 2 (by decide) hw_114 rfl (v := .ref (ad (2))) rfl dX4_part_14 ?_
        refine lv_aload_n hx hb dX4_part_17 rfl (lv_at hl 0 rfl) ?_
        refine z_get B hW (0) (by omega) x0 rfl inX4 0 (by decide) hw_112 rfl (v := .ref (ad (1))) rfl dX4_part_18 ?_
        refine lv_iload_n hx hb dX4_part_21 rfl (lv_at hl 1 rfl) ?_
        refine z_aald B hW (1) (by omega) x1 (i) (by omega) (by decide) (q := ad (60 + 2 * (i))) (v1 _ (by omega)) dX4_part_22 ?_
        refine z_get B hW (60 + 2 * (i)) (by omega) o_i rfl inX1 1 (by decide) hw_100 rfl (v := .int (nI (sW σ i))) rfl dX4_part_23 ?_
        refine call_vi B hA hW (2) (by omega) b2 (r := _) rfl rfl (k_sizeOf l G n ad w (sW σ i) nf nf (by omega) w40_i hB) mf_X0_sizeOf hw_242 rfl ⟨⟨rfl, rfl⟩, by decide, by decide⟩ ⟨Nat.zero_le _, Nat.zero_le _⟩ hl.1 rfl (Nat.le_of_ble_eq_true rfl) dX4_part_26 (fun r w9 H locs hp hW => ?_)
        obtain ⟨e1, e2⟩ := hp
        rw [e1] at hW
        subst e2
        refine n_icmp_lt (tgt := 39) hx hb (by omega) (by omega) dX4_part_29 (by decide) (fun hd => ?_) (fun hd => ?_)
        · refine lv_aload_n hx hb dX4_part_39 rfl (lv_at hl 0 rfl) ?_
          refine z_get B hW (0) (by omega) x0 rfl inX4 2 (by decide) hw_114 rfl (v := .ref (ad (2))) rfl dX4_part_40 ?_
          refine lv_aload_n hx hb dX4_part_43 rfl (lv_at hl 0 rfl) ?_
          refine z_get B hW (0) (by omega) x0 rfl inX4 0 (by decide) hw_112 rfl (v := .ref (ad (1))) rfl dX4_part_44 ?_
          refine lv_iload_n hx hb dX4_part_47 rfl (lv_at hl 1 rfl) ?_
          refine z_aald B hW (1) (by omega) x1 (i) (by omega) (by decide) (q := ad (60 + 2 * (i))) (v1 _ (by omega)) dX4_part_48 ?_
          refine z_get B hW (60 + 2 * (i)) (by omega) o_i rfl inX1 1 (by decide) hw_100 rfl (v := .int (nI (sW σ i))) rfl dX4_part_49 ?_
          refine lv_aload_n hx hb dX4_part_52 rfl (lv_at hl 0 rfl) ?_
          refine z_get B hW (0) (by omega) x0 rfl inX4 0 (by decide) hw_112 rfl (v := .ref (ad (1))) rfl dX4_part_53 ?_
          refine lv_iload_n hx hb dX4_part_56 rfl (lv_at hl 1 rfl) ?_
          refine z_aald B hW (1) (by omega) x1 (i) (by omega) (by decide) (q := ad (60 + 2 * (i))) (v1 _ (by omega)) dX4_part_57 ?_
          refine z_get B hW (60 + 2 * (i)) (by omega) o_i rfl inX1 0 (by decide) hw_98 rfl (v := .ref (ad (61 + 2 * (i)))) rfl dX4_part_58 ?_
          refine lv_aload_n hx hb dX4_part_61 rfl (lv_at hl 0 rfl) ?_
          refine z_get B hW (0) (by omega) x0 rfl inX4 3 (by decide) hw_115 rfl (v := .ref (ad (55))) rfl dX4_part_62 ?_
          refine call_vv B hA hW (2) (by omega) b2 (r := _) rfl rfl (k_findParts l G n ad w (sW σ i) nf (61 + 2 * i) 55 48 (sE σ i) (by omega) w40_i w2_i hB (by omega) (by omega) (by omega) (by omega) (by omega) (by omega) (by decide) n_i (fun q _ => r_i q) f55 x55) mf_X0_findParts hw_220 rfl ⟨⟨rfl, rfl⟩, by decide, by decide⟩ ⟨Nat.zero_le _, Nat.zero_le _⟩ hl.1 rfl (Nat.le_of_ble_eq_true rfl) dX4_part_65 (fun w2 H locs hp hW => ?_)
          obtain ⟨nf2, hB2, fr2, p2, q2, v2, -⟩ := hp
          have hX2 : XOK G ad w2 σ := hX.parts hB2 fr2 ⟨_, q2⟩
          obtain ⟨b22, -⟩ := id hB2
          obtain ⟨f12, x12, v12⟩ := hX2.2.2.1
          refine lv_aload_n hx hb dX4_part_68 rfl (lv_at hl 0 rfl) ?_
          refine z_get B hW (0) (by omega) hX2.2.1 rfl inX4 3 (by decide) hw_115 rfl (v := .ref (ad (55))) rfl dX4_part_69 ?_
          refine lv_iload_n hx hb dX4_part_72 rfl (lv_at hl 2 rfl) ?_
          refine z_lald B hW (55) (by omega) q2 (q9) (by omega) (by decide) (v := (lN (prt (bas (sW σ i)) (sE σ i) q9))) (v2 _ hd) dX4_part_73 ?_
          refine n_l2i hx hb dX4_part_74 ?_
          exact ret_i B hr hlk hW (by rw [show st_part σ (nI i) (nI q9) = (nI (prt (bas (sW σ i)) (sE σ i) q9), σ) by unfold st_part; rw [cN_nI (by omega), cif_t ⟨⟨i, hi, rfl⟩, ⟨q9, hd, rfl⟩⟩, cN_nI (by omega)]]; exact ⟨rfl, hX2, fun j hj => fr2 j (by omega) (by omega) (by omega)⟩) dX4_part_75
        · refine lv_aload_n hx hb dX4_part_32 rfl (lv_at hl 0 rfl) ?_
          refine lv_bipush (v := -3) hx hb dX4_part_33 (by decide) ?_
          refine call_vi B hA hW (0) (by omega) x0 (r := _) rfl rfl (k_refuse l G n ad w hn σ hX (-3) 3 (by decide) (by decide) (by decide) (by decide) (by decide)) mf_X4_refuse hw_149 rfl ⟨⟨rfl, rfl⟩, by decide, by decide⟩ ⟨Nat.zero_le _, Nat.zero_le _⟩ hl.1 rfl (Nat.le_of_ble_eq_true rfl) dX4_part_35 (fun r w9 H locs hp hW => ?_)
          exact ret_i B hr hlk hW (by rw [show st_part σ (nI i) (nI q9) = ref σ 3 by unfold st_part; rw [cN_nI (by omega), cif_f (fun ⟨_, ⟨q, q1, q2⟩⟩ => by have := (nI_eq hq9 (by omega)).mp q2; omega)]]; exact hp) dX4_part_38
  · refine n_if_eq (tgt := 32) hx hb (by omega) dX4_part_5 (by decide) (fun hz => ?_) (fun hz => ?_)
    · refine lv_aload_n hx hb dX4_part_32 rfl (lv_at hl 0 rfl) ?_
      refine lv_bipush (v := -3) hx hb dX4_part_33 (by decide) ?_
      refine call_vi B hA hW (0) (by omega) x0 (r := _) rfl rfl (k_refuse l G n ad w hn σ hX (-3) 3 (by decide) (by decide) (by decide) (by decide) (by decide)) mf_X4_refuse hw_149 rfl ⟨⟨rfl, rfl⟩, by decide, by decide⟩ ⟨Nat.zero_le _, Nat.zero_le _⟩ hl.1 rfl (Nat.le_of_ble_eq_true rfl) dX4_part_35 (fun r w9 H locs hp hW => ?_)
      exact ret_i B hr hlk hW (by rw [show st_part σ f x = ref σ 3 by unfold st_part; rw [cif_f (fun q => hnf q.1)]]; exact hp) dX4_part_38
    · exact absurd rfl hz
set_option maxHeartbeats 4000000 in
set_option maxRecDepth 100000 in
theorem k_X4_over (l : Launch) (G : zG) (n : Nat) (ad : Nat → Nat) (w : Nat → va_E) (hn : 92 ≤ n) (σ : zS) (hX : XOK G ad w σ) (hs : SOK σ) (f : Int32) :
    Ci l G yX4_over cdX4_over (zr 5) n ad w [.ref (ad (0)), .int (f)] (postX G ad w (st_over σ f)) := by
  obtain ⟨⟨nf, hB⟩, x0, ⟨f1, x1, v1⟩, ⟨f55, x55⟩, ⟨f56, x56⟩, ⟨f57, x57⟩, ⟨f58, x58, v58⟩, ⟨f59, x59, v59⟩, xf⟩ := id hX
  have hsh := hs.1
  refine ent_i (cc := cX4_over) (maxL := 4) (ret := (some .int)) (by decide +kernel) rfl (Nat.le_of_ble_eq_true rfl) ?_
  intro p e s m args below meth c A B hr hlk hA H locs ls hW hl
  have hx := B.1
  have hb := B.2.1
  have hl : lv_has ls 4 [(0, .ref (ad (0))), (1, .int (f))] := hl
  obtain ⟨b2, -⟩ := id hB
  refine lv_aload_n hx hb dX4_over_0 rfl (lv_at hl 0 rfl) ?_
  refine lv_iload_n hx hb dX4_over_1 rfl (lv_at hl 1 rfl) ?_
  refine call_vi B hA hW (0) (by omega) x0 (r := _) rfl rfl (k_isForm l G n ad w hn σ hX hs f) mf_X4_isForm hw_184 rfl ⟨⟨rfl, rfl⟩, by decide, by decide⟩ ⟨Nat.zero_le _, Nat.zero_le _⟩ hl.1 rfl (Nat.le_of_ble_eq_true rfl) dX4_over_2 (fun r w9 H locs hp hW => ?_)
  obtain ⟨e1, hp⟩ := hp
  rw [e1] at hW
  rcases hp with ⟨i, hi, rfl, rfl⟩ | ⟨hnf, rfl⟩
  · obtain ⟨w40_i, w2_i, k4_i, t40_i, r_i, s_i⟩ := hs.2.1 i hi
    obtain ⟨o_i, n_i⟩ := hX.form hs hi
    obtain ⟨f_i, e_i, v_i⟩ := id n_i
    refine n_if_ne (tgt := 15) hx hb (by omega) dX4_over_5 (by decide) (fun hz => ?_) (fun hz => ?_)
    · have hS : st_over σ (nI i) = cif (12 ≤ sW σ i ∧ sE σ i 0 = 0) (comeO σ (sW σ i - 12) (ovrS (sW σ i) (sE σ i))) (ref σ 7) := by
        unfold st_over
        rw [cif_t ⟨i, hi, rfl⟩, cN_nI (by omega)]
      rw [hS]
      refine lv_aload_n hx hb dX4_over_15 rfl (lv_at hl 0 rfl) ?_
      refine z_get B hW (0) (by omega) x0 rfl inX4 0 (by decide) hw_112 rfl (v := .ref (ad (1))) rfl dX4_over_16 ?_
      refine lv_iload_n hx hb dX4_over_19 rfl (lv_at hl 1 rfl) ?_
      refine z_aald B hW (1) (by omega) x1 (i) (by omega) (by decide) (q := ad (60 + 2 * (i))) (v1 _ (by omega)) dX4_over_20 ?_
      refine z_get B hW (60 + 2 * (i)) (by omega) o_i rfl inX1 1 (by decide) hw_100 rfl (v := .int (nI (sW σ i))) rfl dX4_over_21 ?_
      refine lv_bipush (v := nI 12) hx hb dX4_over_24 (by decide) ?_
      by_cases h12 : 12 ≤ sW σ i
      · refine n_isub hx hb (by omega) dX4_over_26 ?_
        refine lv_istore_n (lv' := [(2, .int (nI ((sW σ i) - 12))), (0, .ref (ad (0))), (1, .int (nI (i)))]) hx hb dX4_over_27 rfl hl (by decide) rfl (fun ls hl => ?_)
        refine lv_iload_n hx hb dX4_over_28 rfl (lv_at hl 0 rfl) ?_
        refine n_if_lt (tgt := 48) hx hb (by omega) dX4_over_29 (by decide) ?_
        refine lv_aload_n hx hb dX4_over_32 rfl (lv_at hl 1 rfl) ?_
        refine z_get B hW (0) (by omega) x0 rfl inX4 0 (by decide) hw_112 rfl (v := .ref (ad (1))) rfl dX4_over_33 ?_
        refine lv_iload_n hx hb dX4_over_36 rfl (lv_at hl 2 rfl) ?_
        refine z_aald B hW (1) (by omega) x1 (i) (by omega) (by decide) (q := ad (60 + 2 * (i))) (v1 _ (by omega)) dX4_over_37 ?_
        refine z_get B hW (60 + 2 * (i)) (by omega) o_i rfl inX1 0 (by decide) hw_98 rfl (v := .ref (ad (61 + 2 * (i)))) rfl dX4_over_38 ?_
        refine lv_iconst (v := nI 0) hx hb dX4_over_41 (by decide) ?_
        refine z_lald B hW (61 + 2 * (i)) (by omega) e_i (0) (by omega) (by decide) (v := (lN (sE σ i (0)))) (v_i _ (by omega)) dX4_over_42 ?_
        refine lv_lconst (v := lN 0) hx hb dX4_over_43 (by decide) ?_
        refine lc_eq (tgt := 55) hx hb dX4_over_44 dX4_over_45 (by decide) (fun hd => ?_) (fun hd => ?_)
        · have h0 : sE σ i 0 = 0 := (lN_inj (r_i 0) (by decide)).mp hd
          rw [cif_t ⟨h12, h0⟩]
          have hzd := zs_down (sW σ i) w40_i w2_i h12
          have hzl := zs_le (sW σ i) w40_i
          refine lv_aload_n hx hb dX4_over_55 rfl (lv_at hl 1 rfl) ?_
          refine lv_iload_n hx hb dX4_over_56 rfl (lv_at hl 0 rfl) ?_
          refine call_vi B hA hW (0) (by omega) x0 (r := _) rfl rfl (k_hasRoom l G n ad w hn σ hX hs (sW σ i - 12) (by omega)) mf_X4_hasRoom hw_156 rfl ⟨⟨rfl, rfl⟩, by decide, by decide⟩ ⟨Nat.zero_le _, Nat.zero_le _⟩ hl.1 rfl (Nat.le_of_ble_eq_true rfl) dX4_over_57 (fun r w9 H locs hp hW => ?_)
          obtain ⟨e1, hp⟩ := hp
          rw [e1] at hW
          rcases hp with ⟨hh, hk40, rfl⟩ | ⟨hnr, rfl⟩
          · obtain ⟨xa, ya, za, fa, g1, g2⟩ := hX.free hh
            refine n_if_ne (tgt := 70) hx hb (by omega) dX4_over_60 (by decide) (fun hz => ?_) (fun hz => ?_)
            · refine lv_aload_n hx hb dX4_over_70 rfl (lv_at hl 1 rfl) ?_
              refine z_get B hW (0) (by omega) x0 rfl inX4 2 (by decide) hw_114 rfl (v := .ref (ad (2))) rfl dX4_over_71 ?_
              refine lv_aload_n hx hb dX4_over_74 rfl (lv_at hl 1 rfl) ?_
              refine z_get B hW (0) (by omega) x0 rfl inX4 0 (by decide) hw_112 rfl (v := .ref (ad (1))) rfl dX4_over_75 ?_
              refine lv_iload_n hx hb dX4_over_78 rfl (lv_at hl 2 rfl) ?_
              refine z_aald B hW (1) (by omega) x1 (i) (by omega) (by decide) (q := ad (60 + 2 * (i))) (v1 _ (by omega)) dX4_over_79 ?_
              refine z_get B hW (60 + 2 * (i)) (by omega) o_i rfl inX1 1 (by decide) hw_100 rfl (v := .int (nI (sW σ i))) rfl dX4_over_80 ?_
              refine lv_aload_n hx hb dX4_over_83 rfl (lv_at hl 1 rfl) ?_
              refine z_get B hW (0) (by omega) x0 rfl inX4 0 (by decide) hw_112 rfl (v := .ref (ad (1))) rfl dX4_over_84 ?_
              refine lv_iload_n hx hb dX4_over_87 rfl (lv_at hl 2 rfl) ?_
              refine z_aald B hW (1) (by omega) x1 (i) (by omega) (by decide) (q := ad (60 + 2 * (i))) (v1 _ (by omega)) dX4_over_88 ?_
              refine z_get B hW (60 + 2 * (i)) (by omega) o_i rfl inX1 0 (by decide) hw_98 rfl (v := .ref (ad (61 + 2 * (i)))) rfl dX4_over_89 ?_
              refine lv_aload_n hx hb dX4_over_92 rfl (lv_at hl 1 rfl) ?_
              refine z_get B hW (0) (by omega) x0 rfl inX4 3 (by decide) hw_115 rfl (v := .ref (ad (55))) rfl dX4_over_93 ?_
              refine call_vv B hA hW (2) (by omega) b2 (r := _) rfl rfl (k_findParts l G n ad w (sW σ i) nf (61 + 2 * i) 55 48 (sE σ i) (by omega) w40_i w2_i hB (by omega) (by omega) (by omega) (by omega) (by omega) (by omega) (by decide) n_i (fun q _ => r_i q) f55 x55) mf_X0_findParts hw_220 rfl ⟨⟨rfl, rfl⟩, by decide, by decide⟩ ⟨Nat.zero_le _, Nat.zero_le _⟩ hl.1 rfl (Nat.le_of_ble_eq_true rfl) dX4_over_96 (fun w2 H locs hp hW => ?_)
              obtain ⟨nf2, hB2, fr2, p2, q2, v2, -⟩ := hp
              have hX2 : XOK G ad w2 σ := hX.parts hB2 fr2 ⟨_, q2⟩
              obtain ⟨b22, -⟩ := id hB2
              obtain ⟨f12, x12, v12⟩ := hX2.2.2.1
              refine lv_iconst (v := nI 1) hx hb dX4_over_99 (by decide) ?_
              refine lv_istore_n (lv' := [(3, .int (nI (1))), (2, .int (nI ((sW σ i) - 12))), (0, .ref (ad (0))), (1, .int (nI (i)))]) hx hb dX4_over_100 rfl hl (by decide) rfl (fun ls hl => ?_)
              refine z_up (Wg := fun H locs ls => W p l e (zr 5) s m args below meth c H locs 0 0 _ (F0 m 101 ls [])) (I := fun q H locs ls => ∃ (w3 : Nat → va_E) (g : Nat → Int64), Wo G A s.heap n ad w3 H locs ∧ lv_has ls 4 [(3, .int (nI q)), (2, .int (nI (sW σ i - 12))), (0, .ref (ad 0)), (1, .int (nI i))] ∧ (∀ j, j ≠ 55 → w3 j = w2 j) ∧ w3 55 = eL G 4 g ∧ (∀ j, j + 1 < q → g j = lN (prt (bas (sW σ i)) (sE σ i) (j + 1))) ∧ (∀ j, q ≤ j + 1 → g j = p2 j)) (a := 1) (b := zs (sW σ i)) (by omega) ?_ ?_ H locs ls ⟨w2, p2, hW, hl, fun _ _ => rfl, q2, fun j h => by omega, fun _ _ => rfl⟩
              · rintro q hq1 hq ih H locs ls ⟨w3, g, hW, hl, c1, c2, c3, c4⟩
                have hX3 : XOK G ad w3 σ := hX2.parts (hB2.keep (fun j q1 q2 => c1 j (by omega))) (fun j _ _ h => c1 j h) ⟨_, c2⟩
                have hB3 : BOK G ad w3 nf2 nf2 := hB2.keep (fun j q1 q2 => c1 j (by omega))
                obtain ⟨b23, -⟩ := id hB3
                obtain ⟨f13, x13, v13⟩ := hX3.2.2.1
                obtain ⟨o_i3, n_i3⟩ := hX3.form hs hi
                obtain ⟨xa3, ya3, za3, fa3, g13, g23⟩ := hX3.free hh
                refine lv_iload_n hx hb dX4_over_101 rfl (lv_at hl 0 rfl) ?_
                refine lv_aload_n hx hb dX4_over_102 rfl (lv_at hl 2 rfl) ?_
                refine z_get B hW (0) (by omega) hX3.2.1 rfl inX4 2 (by decide) hw_114 rfl (v := .ref (ad (2))) rfl dX4_over_103 ?_
                refine lv_aload_n hx hb dX4_over_106 rfl (lv_at hl 2 rfl) ?_
                refine z_get B hW (0) (by omega) hX3.2.1 rfl inX4 0 (by decide) hw_112 rfl (v := .ref (ad (1))) rfl dX4_over_107 ?_
                refine lv_iload_n hx hb dX4_over_110 rfl (lv_at hl 3 rfl) ?_
                refine z_aald B hW (1) (by omega) x13 (i) (by omega) (by decide) (q := ad (60 + 2 * (i))) (v13 _ (by omega)) dX4_over_111 ?_
                refine z_get B hW (60 + 2 * (i)) (by omega) o_i3 rfl inX1 1 (by decide) hw_100 rfl (v := .int (nI (sW σ i))) rfl dX4_over_112 ?_
                refine call_vi B hA hW (2) (by omega) b23 (r := _) rfl rfl (k_sizeOf l G n ad w3 (sW σ i) nf2 nf2 (by omega) w40_i hB3) mf_X0_sizeOf hw_242 rfl ⟨⟨rfl, rfl⟩, by decide, by decide⟩ ⟨Nat.zero_le _, Nat.zero_le _⟩ hl.1 rfl (Nat.le_of_ble_eq_true rfl) dX4_over_115 (fun r w9 H locs hp hW => ?_)
                obtain ⟨e1, e2⟩ := hp
                rw [e1] at hW
                subst e2
                refine n_icmp_ge (tgt := 141) hx hb (by omega) (by omega) dX4_over_118 (by decide) (fun hc => ?_) (fun hc => ?_)
                · omega
                · refine lv_aload_n hx hb dX4_over_121 rfl (lv_at hl 2 rfl) ?_
                  refine z_get B hW (0) (by omega) hX3.2.1 rfl inX4 3 (by decide) hw_115 rfl (v := .ref (ad (55))) rfl dX4_over_122 ?_
                  refine lv_iload_n hx hb dX4_over_125 rfl (lv_at hl 0 rfl) ?_
                  refine lv_iconst (v := nI 1) hx hb dX4_over_126 (by decide) ?_
                  refine n_isub hx hb (by omega) dX4_over_127 ?_
                  refine lv_aload_n hx hb dX4_over_128 rfl (lv_at hl 2 rfl) ?_
                  refine z_get B hW (0) (by omega) hX3.2.1 rfl inX4 3 (by decide) hw_115 rfl (v := .ref (ad (55))) rfl dX4_over_129 ?_
                  refine lv_iload_n hx hb dX4_over_132 rfl (lv_at hl 0 rfl) ?_
                  refine z_lald B hW (55) (by omega) c2 (q) (by omega) (by decide) (v := (lN (prt (bas (sW σ i)) (sE σ i) q))) (by rw [c4 _ (by omega)]; exact v2 _ hq) dX4_over_133 ?_
                  refine z_last B hW (55) (by omega) c2 (q - 1) (by omega) (by decide) dX4_over_134 (fun H locs hW => ?_)
                  refine lv_iinc (v := (nI (q + 1))) (lv' := [(3, .int (nI (q + 1))), (2, .int (nI (sW σ i - 12))), (0, .ref (ad (0))), (1, .int (nI (i)))]) hx hb dX4_over_135 hl (k := 0) rfl (iinc1 _) (by decide) rfl (fun ls hl => ?_)
                  refine lv_goto (tgt := 101) hx hb dX4_over_138 (by decide) ?_
                  refine ih H locs ls ⟨_, _, hW, lv_sub hl [0, 1, 2, 3] rfl, fun j hj => by rw [up_n hj]; exact c1 j hj, up_s, fun j hj => ?_, fun j hj => ?_⟩
                  · by_cases z : j = q - 1
                    · rw [z, pk_uLs, show q - 1 + 1 = q by omega]
                    · rw [pk_uLn z]; exact c3 j (by omega)
                  · rw [pk_uLn (by omega)]; exact c4 j (by omega)
              · rintro H locs ls ⟨w3, g, hW, hl, c1, c2, c3, c4⟩
                have hX3 : XOK G ad w3 σ := hX2.parts (hB2.keep (fun j q1 q2 => c1 j (by omega))) (fun j _ _ h => c1 j h) ⟨_, c2⟩
                have hB3 : BOK G ad w3 nf2 nf2 := hB2.keep (fun j q1 q2 => c1 j (by omega))
                obtain ⟨b23, -⟩ := id hB3
                obtain ⟨f13, x13, v13⟩ := hX3.2.2.1
                obtain ⟨o_i3, n_i3⟩ := hX3.form hs hi
                obtain ⟨xa3, ya3, za3, fa3, g13, g23⟩ := hX3.free hh
                refine lv_iload_n hx hb dX4_over_101 rfl (lv_at hl 0 rfl) ?_
                refine lv_aload_n hx hb dX4_over_102 rfl (lv_at hl 2 rfl) ?_
                refine z_get B hW (0) (by omega) hX3.2.1 rfl inX4 2 (by decide) hw_114 rfl (v := .ref (ad (2))) rfl dX4_over_103 ?_
                refine lv_aload_n hx hb dX4_over_106 rfl (lv_at hl 2 rfl) ?_
                refine z_get B hW (0) (by omega) hX3.2.1 rfl inX4 0 (by decide) hw_112 rfl (v := .ref (ad (1))) rfl dX4_over_107 ?_
                refine lv_iload_n hx hb dX4_over_110 rfl (lv_at hl 3 rfl) ?_
                refine z_aald B hW (1) (by omega) x13 (i) (by omega) (by decide) (q := ad (60 + 2 * (i))) (v13 _ (by omega)) dX4_over_111 ?_
                refine z_get B hW (60 + 2 * (i)) (by omega) o_i3 rfl inX1 1 (by decide) hw_100 rfl (v := .int (nI (sW σ i))) rfl dX4_over_112 ?_
                refine call_vi B hA hW (2) (by omega) b23 (r := _) rfl rfl (k_sizeOf l G n ad w3 (sW σ i) nf2 nf2 (by omega) w40_i hB3) mf_X0_sizeOf hw_242 rfl ⟨⟨rfl, rfl⟩, by decide, by decide⟩ ⟨Nat.zero_le _, Nat.zero_le _⟩ hl.1 rfl (Nat.le_of_ble_eq_true rfl) dX4_over_115 (fun r w9 H locs hp hW => ?_)
                obtain ⟨e1, e2⟩ := hp
                rw [e1] at hW
                subst e2
                refine n_icmp_ge (tgt := 141) hx hb (by omega) (by omega) dX4_over_118 (by decide) (fun hc => ?_) (fun hc => ?_)
                · refine lv_aload_n hx hb dX4_over_141 rfl (lv_at hl 2 rfl) ?_
                  refine z_get B hW (0) (by omega) hX3.2.1 rfl inX4 2 (by decide) hw_114 rfl (v := .ref (ad (2))) rfl dX4_over_142 ?_
                  refine lv_iload_n hx hb dX4_over_145 rfl (lv_at hl 1 rfl) ?_
                  refine lv_aload_n hx hb dX4_over_146 rfl (lv_at hl 2 rfl) ?_
                  refine z_get B hW (0) (by omega) hX3.2.1 rfl inX4 3 (by decide) hw_115 rfl (v := .ref (ad (55))) rfl dX4_over_147 ?_
                  refine lv_aload_n hx hb dX4_over_150 rfl (lv_at hl 2 rfl) ?_
                  refine z_get B hW (0) (by omega) hX3.2.1 rfl inX4 0 (by decide) hw_112 rfl (v := .ref (ad (1))) rfl dX4_over_151 ?_
                  refine lv_aload_n hx hb dX4_over_154 rfl (lv_at hl 2 rfl) ?_
                  refine z_get B hW (0) (by omega) hX3.2.1 rfl inX4 1 (by decide) hw_113 rfl (v := .int (nI (sH σ))) rfl dX4_over_155 ?_
                  refine z_aald B hW (1) (by omega) x13 (sH σ) (by omega) (by decide) (q := ad (60 + 2 * (sH σ))) (v13 _ (by omega)) dX4_over_158 ?_
                  refine z_get B hW (60 + 2 * (sH σ)) (by omega) g13 rfl inX1 0 (by decide) hw_98 rfl (v := .ref (ad (61 + 2 * (sH σ)))) rfl dX4_over_159 ?_
                  refine call_vv B hA hW (2) (by omega) b23 (r := _) rfl rfl (k_join l G n ad w3 (sW σ i - 12) nf2 55 (61 + 2 * sH σ) (fun j => prt (bas (sW σ i)) (sE σ i) (j + 1)) (by omega) (by omega) (by omega) hB3 (by omega) (by omega) (by omega) (by omega) (by omega) (fun j _ => prt_lt (r_i _)) g c2 (fun j hj => c3 j (by omega)) ⟨_, g23⟩) mf_X0_join hw_243 rfl ⟨⟨rfl, rfl⟩, by decide, by decide⟩ ⟨Nat.zero_le _, Nat.zero_le _⟩ hl.1 rfl (Nat.le_of_ble_eq_true rfl) dX4_over_162 (fun w4 H locs hp hW => ?_)
                  obtain ⟨nf4, hB4, fr4, hL4⟩ := hp
                  have hX2 : XOK G ad w4 σ := hX3.join1 hB4 fr4 ⟨_, hL4.choose_spec.1⟩
                  refine lv_aload_n hx hb dX4_over_165 rfl (lv_at hl 2 rfl) ?_
                  refine lv_iload_n hx hb dX4_over_166 rfl (lv_at hl 1 rfl) ?_
                  refine call_vi B hA hW (0) (by omega) hX2.2.1 (r := _) rfl rfl (k_comeOfOthers l G n ad w4 hn σ hX2 hs hh (sW σ i - 12) hk40 (ovrS (sW σ i) (sE σ i)) hL4 (bld_lt _ _ _ _)) mf_X4_comeOfOthers hw_189 rfl ⟨⟨rfl, rfl⟩, by decide, by decide⟩ ⟨Nat.zero_le _, Nat.zero_le _⟩ hl.1 rfl (Nat.le_of_ble_eq_true rfl) dX4_over_167 (fun r w9 H locs hp9 hW => ?_)
                  exact ret_i B hr hlk hW ⟨hp9.1, hp9.2.1, fun j hj => (hp9.2.2 j hj).trans (((fr4 j (by omega) (by omega) (by omega)).trans (c1 j (by omega))).trans (fr2 j (by omega) (by omega) (by omega)))⟩ dX4_over_170
                · omega
            · exact absurd hz (by decide)
          · refine n_if_ne (tgt := 70) hx hb (by omega) dX4_over_60 (by decide) (fun hz => ?_) (fun hz => ?_)
            · exact absurd rfl hz
            · refine lv_aload_n hx hb dX4_over_63 rfl (lv_at hl 1 rfl) ?_
              refine lv_bipush (v := -8) hx hb dX4_over_64 (by decide) ?_
              refine call_vi B hA hW (0) (by omega) x0 (r := _) rfl rfl (k_refuse l G n ad w hn σ hX (-8) 8 (by decide) (by decide) (by decide) (by decide) (by decide)) mf_X4_refuse hw_149 rfl ⟨⟨rfl, rfl⟩, by decide, by decide⟩ ⟨Nat.zero_le _, Nat.zero_le _⟩ hl.1 rfl (Nat.le_of_ble_eq_true rfl) dX4_over_66 (fun r w9 H locs hp hW => ?_)
              exact ret_i B hr hlk hW (by rw [comeO_full hnr]; exact hp) dX4_over_69
        · refine lv_aload_n hx hb dX4_over_48 rfl (lv_at hl 1 rfl) ?_
          refine lv_bipush (v := -7) hx hb dX4_over_49 (by decide) ?_
          refine call_vi B hA hW (0) (by omega) x0 (r := _) rfl rfl (k_refuse l G n ad w hn σ hX (-7) 7 (by decide) (by decide) (by decide) (by decide) (by decide)) mf_X4_refuse hw_149 rfl ⟨⟨rfl, rfl⟩, by decide, by decide⟩ ⟨Nat.zero_le _, Nat.zero_le _⟩ hl.1 rfl (Nat.le_of_ble_eq_true rfl) dX4_over_51 (fun r w9 H locs hp hW => ?_)
          exact ret_i B hr hlk hW (by rw [cif_f (fun q => hd (by rw [q.2]))]; exact hp) dX4_over_54
      · refine lv_isub hx hb dX4_over_26 ?_
        refine lv_istore_n (lv' := [(2, .int ((nI (sW σ i)) - (nI (12)))), (0, .ref (ad (0))), (1, .int (nI (i)))]) hx hb dX4_over_27 rfl hl (by decide) rfl (fun ls hl => ?_)
        refine lv_iload_n hx hb dX4_over_28 rfl (lv_at hl 0 rfl) ?_
        refine lv_if_lt (tgt := 48) hx hb dX4_over_29 (by decide) (fun hc => ?_) (fun hc => ?_)
        · refine lv_aload_n hx hb dX4_over_48 rfl (lv_at hl 1 rfl) ?_
          refine lv_bipush (v := -7) hx hb dX4_over_49 (by decide) ?_
          refine call_vi B hA hW (0) (by omega) x0 (r := _) rfl rfl (k_refuse l G n ad w hn σ hX (-7) 7 (by decide) (by decide) (by decide) (by decide) (by decide)) mf_X4_refuse hw_149 rfl ⟨⟨rfl, rfl⟩, by decide, by decide⟩ ⟨Nat.zero_le _, Nat.zero_le _⟩ hl.1 rfl (Nat.le_of_ble_eq_true rfl) dX4_over_51 (fun r w9 H locs hp hW => ?_)
          exact ret_i B hr hlk hW (by rw [cif_f (fun q => h12 q.1)]; exact hp) dX4_over_54
        · exact absurd (pk_sneg (by decide) (by omega)) hc
    · exact absurd hz (by decide)
  · refine n_if_ne (tgt := 15) hx hb (by omega) dX4_over_5 (by decide) (fun hz => ?_) (fun hz => ?_)
    · exact absurd rfl hz
    · refine lv_aload_n hx hb dX4_over_8 rfl (lv_at hl 0 rfl) ?_
      refine lv_bipush (v := -3) hx hb dX4_over_9 (by decide) ?_
      refine call_vi B hA hW (0) (by omega) x0 (r := _) rfl rfl (k_refuse l G n ad w hn σ hX (-3) 3 (by decide) (by decide) (by decide) (by decide) (by decide)) mf_X4_refuse hw_149 rfl ⟨⟨rfl, rfl⟩, by decide, by decide⟩ ⟨Nat.zero_le _, Nat.zero_le _⟩ hl.1 rfl (Nat.le_of_ble_eq_true rfl) dX4_over_11 (fun r w9 H locs hp hW => ?_)
      exact ret_i B hr hlk hW (by rw [show st_over σ f = ref σ 3 by unfold st_over; rw [cif_f hnf]]; exact hp) dX4_over_14
end
section
theorem k_findParts4 (l : Launch) (G : zG) (n : Nat) (ad : Nat → Nat) (w : Nat → va_E) (k nf kn kp : Nat) (v : Nat → Nat) (hn : 55 ≤ n) (hk : k ≤ 40) (hk2 : k % 2 = 0) (hB : BOK G ad w nf nf) (hkn : 55 ≤ kn) (hkn2 : kn < n) (hkp : 55 ≤ kp) (hkp2 : kp < n) (hne : kn ≠ kp) (fv : Nat → Int64) (ev : w kn = eL G 4 fv) (vv : ∀ i, i < zs k → fv i = lN (v i)) (rv : ∀ i, i < zs k → v i < 1000003) (fp : Nat → Int64) (hp0 : w kp = eL G 4 fp) :
    Cv l G yX0_findParts cdX0_findParts (zr 3) n ad w [.ref (ad 2), .int (nI k), .ref (ad kn), .ref (ad kp)] (fun w' => ∃ nf', BOK G ad w' nf' nf' ∧ (∀ j, j ≠ 2 → ¬ (11 ≤ j ∧ j < 55) → j ≠ kp → w' j = w j) ∧ ∃ f, w' kp = eL G 4 f ∧ (∀ i, i < zs k → f i = lN (prt (bas k) v i)) ∧ ∀ i, zs k ≤ i → f i = fp i) :=
  k_findPartsN l G n ad w k nf kn kp 4 v hn hk hk2 hB hkn hkn2 hkp hkp2 hne (zs_le k hk).1 (by decide) fv ev vv rv fp hp0
set_option maxHeartbeats 4000000 in
set_option maxRecDepth 100000 in
theorem k_X4_prime (l : Launch) (G : zG) (n : Nat) (ad : Nat → Nat) (w : Nat → va_E) (hn : 92 ≤ n) (σ : zS) (hX : XOK G ad w σ) (hs : SOK σ) (f x : Int32) :
    Ci l G yX4_prime cdX4_prime (zr 5) n ad w [.ref (ad (0)), .int (f), .int (x)] (postX G ad w (st_prime σ f x)) := by
  obtain ⟨⟨nf, hB⟩, x0, ⟨f1, x1, v1⟩, ⟨f55, x55⟩, ⟨f56, x56⟩, ⟨f57, x57⟩, ⟨f58, x58, v58⟩, ⟨f59, x59, v59⟩, xf⟩ := id hX
  have hsh := hs.1
  refine ent_i (cc := cX4_prime) (maxL := 4) (ret := (some .int)) (by decide +kernel) rfl (Nat.le_of_ble_eq_true rfl) ?_
  intro p e s m args below meth c A B hr hlk hA H locs ls hW hl
  have hx := B.1
  have hb := B.2.1
  have hl : lv_has ls 4 [(0, .ref (ad (0))), (1, .int (f)), (2, .int (x))] := hl
  obtain ⟨b2, -⟩ := id hB
  refine lv_aload_n hx hb dX4_prime_0 rfl (lv_at hl 0 rfl) ?_
  refine lv_iload_n hx hb dX4_prime_1 rfl (lv_at hl 1 rfl) ?_
  refine call_vi B hA hW (0) (by omega) x0 (r := _) rfl rfl (k_isForm l G n ad w hn σ hX hs f) mf_X4_isForm hw_184 rfl ⟨⟨rfl, rfl⟩, by decide, by decide⟩ ⟨Nat.zero_le _, Nat.zero_le _⟩ hl.1 rfl (Nat.le_of_ble_eq_true rfl) dX4_prime_2 (fun r w9 H locs hp hW => ?_)
  obtain ⟨e1, hp⟩ := hp
  rw [e1] at hW
  rcases hp with ⟨i, hi, rfl, rfl⟩ | ⟨hnf, rfl⟩
  · obtain ⟨w40_i, w2_i, k4_i, t40_i, r_i, s_i⟩ := hs.2.1 i hi
    obtain ⟨o_i, n_i⟩ := hX.form hs hi
    obtain ⟨f_i, e_i, v_i⟩ := id n_i
    refine n_if_ne (tgt := 15) hx hb (by omega) dX4_prime_5 (by decide) (fun hz => ?_) (fun hz => ?_)
    · refine lv_aload_n hx hb dX4_prime_15 rfl (lv_at hl 0 rfl) ?_
      refine z_get B hW (0) (by omega) x0 rfl inX4 0 (by decide) hw_112 rfl (v := .ref (ad (1))) rfl dX4_prime_16 ?_
      refine lv_iload_n hx hb dX4_prime_19 rfl (lv_at hl 1 rfl) ?_
      refine z_aald B hW (1) (by omega) x1 (i) (by omega) (by decide) (q := ad (60 + 2 * (i))) (v1 _ (by omega)) dX4_prime_20 ?_
      refine z_get B hW (60 + 2 * (i)) (by omega) o_i rfl inX1 1 (by decide) hw_100 rfl (v := .int (nI (sW σ i))) rfl dX4_prime_21 ?_
      refine lv_istore_n (lv' := [(3, .int (nI (sW σ i))), (0, .ref (ad (0))), (1, .int (nI (i))), (2, .int (x))]) hx hb dX4_prime_24 rfl hl (by decide) rfl (fun ls hl => ?_)
      refine lv_iload_n hx hb dX4_prime_25 rfl (lv_at hl 3 rfl) ?_
      refine call_si B hA hW (k_X4_isPrime l G n ad w x) mf_X4_isPrime hw_252 rfl ⟨⟨rfl, rfl⟩, by decide, by decide⟩ ⟨Nat.zero_le _, Nat.zero_le _⟩ hl.1 rfl (Nat.le_of_ble_eq_true rfl) dX4_prime_26 (fun r w9 H locs hp hW => ?_)
      obtain ⟨e1, hp⟩ := hp
      rw [e1] at hW
      rcases hp with ⟨p9, hp9, rfl, rfl⟩ | ⟨hnp, rfl⟩
      · refine n_if_eq (tgt := 37) hx hb (by omega) dX4_prime_29 (by decide) (fun hz => ?_) (fun hz => ?_)
        · exact absurd hz (by decide)
        · refine lv_iload_n hx hb dX4_prime_32 rfl (lv_at hl 0 rfl) ?_
          refine lv_iconst (v := nI 4) hx hb dX4_prime_33 (by decide) ?_
          refine n_icmp_ge (tgt := 44) hx hb (by omega) (by omega) dX4_prime_34 (by decide) (fun hd => ?_) (fun hd => ?_)
          · have hS : st_prime σ (nI i) (nI p9) = comeO σ (sW σ i) (prmS (sW σ i) p9 (sE σ i)) := by
              unfold st_prime
              rw [cif_t ⟨i, hi, rfl⟩, cN_nI (by omega), cif_t ⟨⟨p9, hp9, rfl⟩, hd⟩, cN_nI (by have := isP_rng hp9; omega)]
            rw [hS]
            have hzl := zs_le (sW σ i) w40_i
            refine lv_aload_n hx hb dX4_prime_44 rfl (lv_at hl 1 rfl) ?_
            refine lv_iload_n hx hb dX4_prime_45 rfl (lv_at hl 0 rfl) ?_
            refine call_vi B hA hW (0) (by omega) x0 (r := _) rfl rfl (k_hasRoom l G n ad w hn σ hX hs (sW σ i) (by omega)) mf_X4_hasRoom hw_156 rfl ⟨⟨rfl, rfl⟩, by decide, by decide⟩ ⟨Nat.zero_le _, Nat.zero_le _⟩ hl.1 rfl (Nat.le_of_ble_eq_true rfl) dX4_prime_46 (fun r w9 H locs hp hW => ?_)
            obtain ⟨e1, hp⟩ := hp
            rw [e1] at hW
            rcases hp with ⟨hh, hk40, rfl⟩ | ⟨hnr, rfl⟩
            · obtain ⟨xa, ya, za, fa, g1, g2⟩ := hX.free hh
              refine n_if_ne (tgt := 59) hx hb (by omega) dX4_prime_49 (by decide) (fun hz => ?_) (fun hz => ?_)
              · refine lv_aload_n hx hb dX4_prime_59 rfl (lv_at hl 1 rfl) ?_
                refine z_get B hW (0) (by omega) x0 rfl inX4 2 (by decide) hw_114 rfl (v := .ref (ad (2))) rfl dX4_prime_60 ?_
                refine lv_iload_n hx hb dX4_prime_63 rfl (lv_at hl 0 rfl) ?_
                refine lv_aload_n hx hb dX4_prime_64 rfl (lv_at hl 1 rfl) ?_
                refine z_get B hW (0) (by omega) x0 rfl inX4 0 (by decide) hw_112 rfl (v := .ref (ad (1))) rfl dX4_prime_65 ?_
                refine lv_iload_n hx hb dX4_prime_68 rfl (lv_at hl 2 rfl) ?_
                refine z_aald B hW (1) (by omega) x1 (i) (by omega) (by decide) (q := ad (60 + 2 * (i))) (v1 _ (by omega)) dX4_prime_69 ?_
                refine z_get B hW (60 + 2 * (i)) (by omega) o_i rfl inX1 0 (by decide) hw_98 rfl (v := .ref (ad (61 + 2 * (i)))) rfl dX4_prime_70 ?_
                refine lv_iload_n hx hb dX4_prime_73 rfl (lv_at hl 3 rfl) ?_
                refine lv_aload_n hx hb dX4_prime_74 rfl (lv_at hl 1 rfl) ?_
                refine z_get B hW (0) (by omega) x0 rfl inX4 4 (by decide) hw_116 rfl (v := .ref (ad (56))) rfl dX4_prime_75 ?_
                refine call_vv B hA hW (2) (by omega) b2 (r := _) rfl rfl (k_putImage l G n ad w (sW σ i) nf nf (61 + 2 * i) 56 p9 (sE σ i) (by omega) (by omega) (by omega) hB (isP_rng hp9).1 (isP_rng hp9).2 (by omega) (by omega) (by omega) (by omega) n_i r_i.s ⟨f56, x56⟩) mf_X0_putImage hw_255 rfl ⟨⟨rfl, rfl⟩, by decide, by decide⟩ ⟨Nat.zero_le _, Nat.zero_le _⟩ hl.1 rfl (Nat.le_of_ble_eq_true rfl) dX4_prime_78 (fun w2 H locs hp hW => ?_)
                obtain ⟨fr2, i2, j2, v2⟩ := hp
                have hX2 : XOK G ad w2 σ := hX.img fr2 ⟨_, j2⟩
                have hB2 : BOK G ad w2 nf nf := hB.keep (fun j q1 q2 => fr2 j (by omega))
                obtain ⟨b22, -⟩ := id hB2
                obtain ⟨f12, x12, v12⟩ := hX2.2.2.1
                refine lv_aload_n hx hb dX4_prime_81 rfl (lv_at hl 1 rfl) ?_
                refine z_get B hW (0) (by omega) hX2.2.1 rfl inX4 2 (by decide) hw_114 rfl (v := .ref (ad (2))) rfl dX4_prime_82 ?_
                refine lv_iload_n hx hb dX4_prime_85 rfl (lv_at hl 0 rfl) ?_
                refine lv_aload_n hx hb dX4_prime_86 rfl (lv_at hl 1 rfl) ?_
                refine z_get B hW (0) (by omega) hX2.2.1 rfl inX4 4 (by decide) hw_116 rfl (v := .ref (ad (56))) rfl dX4_prime_87 ?_
                refine lv_aload_n hx hb dX4_prime_90 rfl (lv_at hl 1 rfl) ?_
                refine z_get B hW (0) (by omega) hX2.2.1 rfl inX4 3 (by decide) hw_115 rfl (v := .ref (ad (55))) rfl dX4_prime_91 ?_
                obtain ⟨f552, x552⟩ := hX2.2.2.2.1
                refine call_vv B hA hW (2) (by omega) b22 (r := _) rfl rfl (k_findParts4 l G n ad w2 (sW σ i) nf 56 55 (imgS (sW σ i) p9 (sE σ i)) (by omega) w40_i w2_i hB2 (by omega) (by omega) (by omega) (by omega) (by omega) i2 j2 v2 (fun q _ => imgS_lt _ _ _ _) f552 x552) mf_X0_findParts hw_220 rfl ⟨⟨rfl, rfl⟩, by decide, by decide⟩ ⟨Nat.zero_le _, Nat.zero_le _⟩ hl.1 rfl (Nat.le_of_ble_eq_true rfl) dX4_prime_94 (fun w3 H locs hp hW => ?_)
                obtain ⟨nf3, hB3, fr3, p3, q3, v3, -⟩ := hp
                have hX3 : XOK G ad w3 σ := hX2.parts hB3 fr3 ⟨_, q3⟩
                obtain ⟨b23, -⟩ := id hB3
                obtain ⟨f13, x13, v13⟩ := hX3.2.2.1
                obtain ⟨xa3, ya3, za3, fa3, g13, g23⟩ := hX3.free hh
                refine lv_aload_n hx hb dX4_prime_97 rfl (lv_at hl 1 rfl) ?_
                refine z_get B hW (0) (by omega) hX3.2.1 rfl inX4 2 (by decide) hw_114 rfl (v := .ref (ad (2))) rfl dX4_prime_98 ?_
                refine lv_iload_n hx hb dX4_prime_101 rfl (lv_at hl 0 rfl) ?_
                refine lv_aload_n hx hb dX4_prime_102 rfl (lv_at hl 1 rfl) ?_
                refine z_get B hW (0) (by omega) hX3.2.1 rfl inX4 3 (by decide) hw_115 rfl (v := .ref (ad (55))) rfl dX4_prime_103 ?_
                refine lv_aload_n hx hb dX4_prime_106 rfl (lv_at hl 1 rfl) ?_
                refine z_get B hW (0) (by omega) hX3.2.1 rfl inX4 0 (by decide) hw_112 rfl (v := .ref (ad (1))) rfl dX4_prime_107 ?_
                refine lv_aload_n hx hb dX4_prime_110 rfl (lv_at hl 1 rfl) ?_
                refine z_get B hW (0) (by omega) hX3.2.1 rfl inX4 1 (by decide) hw_113 rfl (v := .int (nI (sH σ))) rfl dX4_prime_111 ?_
                refine z_aald B hW (1) (by omega) x13 (sH σ) (by omega) (by decide) (q := ad (60 + 2 * (sH σ))) (v13 _ (by omega)) dX4_prime_114 ?_
                refine z_get B hW (60 + 2 * (sH σ)) (by omega) g13 rfl inX1 0 (by decide) hw_98 rfl (v := .ref (ad (61 + 2 * (sH σ)))) rfl dX4_prime_115 ?_
                refine call_vv B hA hW (2) (by omega) b23 (r := _) rfl rfl (k_join l G n ad w3 (sW σ i) nf3 55 (61 + 2 * sH σ) (prt (bas (sW σ i)) (imgS (sW σ i) p9 (sE σ i))) (by omega) w40_i w2_i hB3 (by omega) (by omega) (by omega) (by omega) (by omega) (fun j _ => prt_lt (imgS_lt _ _ _ _)) p3 q3 v3 ⟨_, g23⟩) mf_X0_join hw_243 rfl ⟨⟨rfl, rfl⟩, by decide, by decide⟩ ⟨Nat.zero_le _, Nat.zero_le _⟩ hl.1 rfl (Nat.le_of_ble_eq_true rfl) dX4_prime_118 (fun w4 H locs hp hW => ?_)
                obtain ⟨nf4, hB4, fr4, hL4⟩ := hp
                have hX2b : XOK G ad w4 σ := hX3.join1 hB4 fr4 ⟨_, hL4.choose_spec.1⟩
                have hX2 := hX2b
                refine lv_aload_n hx hb dX4_prime_121 rfl (lv_at hl 1 rfl) ?_
                refine lv_iload_n hx hb dX4_prime_122 rfl (lv_at hl 0 rfl) ?_
                refine call_vi B hA hW (0) (by omega) hX2.2.1 (r := _) rfl rfl (k_comeOfOthers l G n ad w4 hn σ hX2 hs hh (sW σ i) hk40 (prmS (sW σ i) p9 (sE σ i)) hL4 (bld_lt _ _ _ _)) mf_X4_comeOfOthers hw_189 rfl ⟨⟨rfl, rfl⟩, by decide, by decide⟩ ⟨Nat.zero_le _, Nat.zero_le _⟩ hl.1 rfl (Nat.le_of_ble_eq_true rfl) dX4_prime_123 (fun r w9 H locs hp9 hW => ?_)
                exact ret_i B hr hlk hW ⟨hp9.1, hp9.2.1, fun j hj => (hp9.2.2 j hj).trans (((fr4 j (by omega) (by omega) (by omega)).trans (fr3 j (by omega) (by omega) (by omega))).trans (fr2 j (by omega)))⟩ dX4_prime_126
              · exact absurd hz (by decide)
            · refine n_if_ne (tgt := 59) hx hb (by omega) dX4_prime_49 (by decide) (fun hz => ?_) (fun hz => ?_)
              · exact absurd rfl hz
              · refine lv_aload_n hx hb dX4_prime_52 rfl (lv_at hl 1 rfl) ?_
                refine lv_bipush (v := -8) hx hb dX4_prime_53 (by decide) ?_
                refine call_vi B hA hW (0) (by omega) x0 (r := _) rfl rfl (k_refuse l G n ad w hn σ hX (-8) 8 (by decide) (by decide) (by decide) (by decide) (by decide)) mf_X4_refuse hw_149 rfl ⟨⟨rfl, rfl⟩, by decide, by decide⟩ ⟨Nat.zero_le _, Nat.zero_le _⟩ hl.1 rfl (Nat.le_of_ble_eq_true rfl) dX4_prime_55 (fun r w9 H locs hp hW => ?_)
                exact ret_i B hr hlk hW (by rw [comeO_full hnr]; exact hp) dX4_prime_58
          · refine lv_aload_n hx hb dX4_prime_37 rfl (lv_at hl 1 rfl) ?_
            refine lv_bipush (v := -7) hx hb dX4_prime_38 (by decide) ?_
            refine call_vi B hA hW (0) (by omega) x0 (r := _) rfl rfl (k_refuse l G n ad w hn σ hX (-7) 7 (by decide) (by decide) (by decide) (by decide) (by decide)) mf_X4_refuse hw_149 rfl ⟨⟨rfl, rfl⟩, by decide, by decide⟩ ⟨Nat.zero_le _, Nat.zero_le _⟩ hl.1 rfl (Nat.le_of_ble_eq_true rfl) dX4_prime_40 (fun r w9 H locs hp hW => ?_)
            exact ret_i B hr hlk hW (by rw [show st_prime σ (nI i) (nI p9) = ref σ 7 by unfold st_prime; rw [cif_t ⟨i, hi, rfl⟩, cN_nI (by omega), cif_f (fun q => by omega)]]; exact hp) dX4_prime_43
      · refine n_if_eq (tgt := 37) hx hb (by omega) dX4_prime_29 (by decide) (fun hz => ?_) (fun hz => ?_)
        · refine lv_aload_n hx hb dX4_prime_37 rfl (lv_at hl 1 rfl) ?_
          refine lv_bipush (v := -7) hx hb dX4_prime_38 (by decide) ?_
          refine call_vi B hA hW (0) (by omega) x0 (r := _) rfl rfl (k_refuse l G n ad w hn σ hX (-7) 7 (by decide) (by decide) (by decide) (by decide) (by decide)) mf_X4_refuse hw_149 rfl ⟨⟨rfl, rfl⟩, by decide, by decide⟩ ⟨Nat.zero_le _, Nat.zero_le _⟩ hl.1 rfl (Nat.le_of_ble_eq_true rfl) dX4_prime_40 (fun r w9 H locs hp hW => ?_)
          exact ret_i B hr hlk hW (by rw [show st_prime σ (nI i) x = ref σ 7 by unfold st_prime; rw [cif_t ⟨i, hi, rfl⟩, cif_f (fun q => hnp q.1)]]; exact hp) dX4_prime_43
        · exact absurd rfl hz
    · exact absurd hz (by decide)
  · refine n_if_ne (tgt := 15) hx hb (by omega) dX4_prime_5 (by decide) (fun hz => ?_) (fun hz => ?_)
    · exact absurd rfl hz
    · refine lv_aload_n hx hb dX4_prime_8 rfl (lv_at hl 0 rfl) ?_
      refine lv_bipush (v := -3) hx hb dX4_prime_9 (by decide) ?_
      refine call_vi B hA hW (0) (by omega) x0 (r := _) rfl rfl (k_refuse l G n ad w hn σ hX (-3) 3 (by decide) (by decide) (by decide) (by decide) (by decide)) mf_X4_refuse hw_149 rfl ⟨⟨rfl, rfl⟩, by decide, by decide⟩ ⟨Nat.zero_le _, Nat.zero_le _⟩ hl.1 rfl (Nat.le_of_ble_eq_true rfl) dX4_prime_11 (fun r w9 H locs hp hW => ?_)
      exact ret_i B hr hlk hW (by rw [show st_prime σ f x = ref σ 3 by unfold st_prime; rw [cif_f hnf]]; exact hp) dX4_prime_14
set_option maxHeartbeats 4000000 in
set_option maxRecDepth 100000 in
theorem k_X4_own (l : Launch) (G : zG) (n : Nat) (ad : Nat → Nat) (w : Nat → va_E) (hn : 92 ≤ n) (σ : zS) (hX : XOK G ad w σ) (hs : SOK σ) (f x : Int32) :
    Ci l G yX4_own cdX4_own (zr 5) n ad w [.ref (ad (0)), .int (f), .int (x)] (postX G ad w (st_own σ f x)) := by
  obtain ⟨⟨nf, hB⟩, x0, ⟨f1, x1, v1⟩, ⟨f55, x55⟩, ⟨f56, x56⟩, ⟨f57, x57⟩, ⟨f58, x58, v58⟩, ⟨f59, x59, v59⟩, xf⟩ := id hX
  have hsh := hs.1
  refine ent_i (cc := cX4_own) (maxL := 4) (ret := (some .int)) (by decide +kernel) rfl (Nat.le_of_ble_eq_true rfl) ?_
  intro p e s m args below meth c A B hr hlk hA H locs ls hW hl
  have hx := B.1
  have hb := B.2.1
  have hl : lv_has ls 4 [(0, .ref (ad (0))), (1, .int (f)), (2, .int (x))] := hl
  obtain ⟨b2, -⟩ := id hB
  refine lv_aload_n hx hb dX4_own_0 rfl (lv_at hl 0 rfl) ?_
  refine lv_iload_n hx hb dX4_own_1 rfl (lv_at hl 1 rfl) ?_
  refine call_vi B hA hW (0) (by omega) x0 (r := _) rfl rfl (k_isForm l G n ad w hn σ hX hs f) mf_X4_isForm hw_184 rfl ⟨⟨rfl, rfl⟩, by decide, by decide⟩ ⟨Nat.zero_le _, Nat.zero_le _⟩ hl.1 rfl (Nat.le_of_ble_eq_true rfl) dX4_own_2 (fun r w9 H locs hp hW => ?_)
  obtain ⟨e1, hp⟩ := hp
  rw [e1] at hW
  rcases hp with ⟨i, hi, rfl, rfl⟩ | ⟨hnf, rfl⟩
  · obtain ⟨w40_i, w2_i, k4_i, t40_i, r_i, s_i⟩ := hs.2.1 i hi
    obtain ⟨o_i, n_i⟩ := hX.form hs hi
    obtain ⟨f_i, e_i, v_i⟩ := id n_i
    refine n_if_ne (tgt := 15) hx hb (by omega) dX4_own_5 (by decide) (fun hz => ?_) (fun hz => ?_)
    · refine lv_aload_n hx hb dX4_own_15 rfl (lv_at hl 0 rfl) ?_
      refine z_get B hW (0) (by omega) x0 rfl inX4 0 (by decide) hw_112 rfl (v := .ref (ad (1))) rfl dX4_own_16 ?_
      refine lv_iload_n hx hb dX4_own_19 rfl (lv_at hl 1 rfl) ?_
      refine z_aald B hW (1) (by omega) x1 (i) (by omega) (by decide) (q := ad (60 + 2 * (i))) (v1 _ (by omega)) dX4_own_20 ?_
      refine z_get B hW (60 + 2 * (i)) (by omega) o_i rfl inX1 1 (by decide) hw_100 rfl (v := .int (nI (sW σ i))) rfl dX4_own_21 ?_
      refine lv_istore_n (lv' := [(3, .int (nI (sW σ i))), (0, .ref (ad (0))), (1, .int (nI (i))), (2, .int (x))]) hx hb dX4_own_24 rfl hl (by decide) rfl (fun ls hl => ?_)
      refine lv_iload_n hx hb dX4_own_25 rfl (lv_at hl 3 rfl) ?_
      refine call_si B hA hW (k_X4_isPrime l G n ad w x) mf_X4_isPrime hw_252 rfl ⟨⟨rfl, rfl⟩, by decide, by decide⟩ ⟨Nat.zero_le _, Nat.zero_le _⟩ hl.1 rfl (Nat.le_of_ble_eq_true rfl) dX4_own_26 (fun r w9 H locs hp hW => ?_)
      obtain ⟨e1, hp⟩ := hp
      rw [e1] at hW
      rcases hp with ⟨p9, hp9, rfl, rfl⟩ | ⟨hnp, rfl⟩
      · refine n_if_eq (tgt := 37) hx hb (by omega) dX4_own_29 (by decide) (fun hz => ?_) (fun hz => ?_)
        · exact absurd hz (by decide)
        · refine lv_iload_n hx hb dX4_own_32 rfl (lv_at hl 0 rfl) ?_
          refine lv_iconst (v := nI 4) hx hb dX4_own_33 (by decide) ?_
          refine n_icmp_ge (tgt := 44) hx hb (by omega) (by omega) dX4_own_34 (by decide) (fun hd => ?_) (fun hd => ?_)
          · have hS : st_own σ (nI i) (nI p9) = (theI (ratR (imgS (sW σ i) p9 (sE σ i)) (sE σ i) (zs (sW σ i))), σ) := by
              unfold st_own
              rw [cif_t ⟨i, hi, rfl⟩, cN_nI (by omega), cif_t ⟨⟨p9, hp9, rfl⟩, hd⟩, cN_nI (by have := isP_rng hp9; omega)]
            rw [hS]
            have hzl := zs_le (sW σ i) w40_i
            refine lv_aload_n hx hb dX4_own_44 rfl (lv_at hl 1 rfl) ?_
            refine z_get B hW (0) (by omega) x0 rfl inX4 2 (by decide) hw_114 rfl (v := .ref (ad (2))) rfl dX4_own_45 ?_
            refine lv_iload_n hx hb dX4_own_48 rfl (lv_at hl 0 rfl) ?_
            refine lv_aload_n hx hb dX4_own_49 rfl (lv_at hl 1 rfl) ?_
            refine z_get B hW (0) (by omega) x0 rfl inX4 0 (by decide) hw_112 rfl (v := .ref (ad (1))) rfl dX4_own_50 ?_
            refine lv_iload_n hx hb dX4_own_53 rfl (lv_at hl 2 rfl) ?_
            refine z_aald B hW (1) (by omega) x1 (i) (by omega) (by decide) (q := ad (60 + 2 * (i))) (v1 _ (by omega)) dX4_own_54 ?_
            refine z_get B hW (60 + 2 * (i)) (by omega) o_i rfl inX1 0 (by decide) hw_98 rfl (v := .ref (ad (61 + 2 * (i)))) rfl dX4_own_55 ?_
            refine lv_iload_n hx hb dX4_own_58 rfl (lv_at hl 3 rfl) ?_
            refine lv_aload_n hx hb dX4_own_59 rfl (lv_at hl 1 rfl) ?_
            refine z_get B hW (0) (by omega) x0 rfl inX4 4 (by decide) hw_116 rfl (v := .ref (ad (56))) rfl dX4_own_60 ?_
            refine call_vv B hA hW (2) (by omega) b2 (r := _) rfl rfl (k_putImage l G n ad w (sW σ i) nf nf (61 + 2 * i) 56 p9 (sE σ i) (by omega) (by omega) (by omega) hB (isP_rng hp9).1 (isP_rng hp9).2 (by omega) (by omega) (by omega) (by omega) n_i r_i.s ⟨f56, x56⟩) mf_X0_putImage hw_255 rfl ⟨⟨rfl, rfl⟩, by decide, by decide⟩ ⟨Nat.zero_le _, Nat.zero_le _⟩ hl.1 rfl (Nat.le_of_ble_eq_true rfl) dX4_own_63 (fun w2 H locs hp hW => ?_)
            obtain ⟨fr2, i2, j2, v2⟩ := hp
            have hX2 : XOK G ad w2 σ := hX.img fr2 ⟨_, j2⟩
            have hB2 : BOK G ad w2 nf nf := hB.keep (fun j q1 q2 => fr2 j (by omega))
            obtain ⟨b22, -⟩ := id hB2
            obtain ⟨f12, x12, v12⟩ := hX2.2.2.1
            obtain ⟨o_i2, n_i2⟩ := hX2.form hs hi
            refine lv_aload_n hx hb dX4_own_66 rfl (lv_at hl 1 rfl) ?_
            refine z_get B hW (0) (by omega) hX2.2.1 rfl inX4 4 (by decide) hw_116 rfl (v := .ref (ad (56))) rfl dX4_own_67 ?_
            refine lv_aload_n hx hb dX4_own_70 rfl (lv_at hl 1 rfl) ?_
            refine z_get B hW (0) (by omega) hX2.2.1 rfl inX4 0 (by decide) hw_112 rfl (v := .ref (ad (1))) rfl dX4_own_71 ?_
            refine lv_iload_n hx hb dX4_own_74 rfl (lv_at hl 2 rfl) ?_
            refine z_aald B hW (1) (by omega) x12 (i) (by omega) (by decide) (q := ad (60 + 2 * (i))) (v12 _ (by omega)) dX4_own_75 ?_
            refine z_get B hW (60 + 2 * (i)) (by omega) o_i2 rfl inX1 0 (by decide) hw_98 rfl (v := .ref (ad (61 + 2 * (i)))) rfl dX4_own_76 ?_
            refine lv_aload_n hx hb dX4_own_79 rfl (lv_at hl 1 rfl) ?_
            refine z_get B hW (0) (by omega) hX2.2.1 rfl inX4 2 (by decide) hw_114 rfl (v := .ref (ad (2))) rfl dX4_own_80 ?_
            refine lv_iload_n hx hb dX4_own_83 rfl (lv_at hl 0 rfl) ?_
            refine call_vi B hA hW (2) (by omega) b22 (r := _) rfl rfl (k_sizeOf l G n ad w2 (sW σ i) nf nf (by omega) w40_i hB2) mf_X0_sizeOf hw_242 rfl ⟨⟨rfl, rfl⟩, by decide, by decide⟩ ⟨Nat.zero_le _, Nat.zero_le _⟩ hl.1 rfl (Nat.le_of_ble_eq_true rfl) dX4_own_84 (fun r w9 H locs hp hW => ?_)
            obtain ⟨e1, e2⟩ := hp
            rw [e1] at hW
            subst e2
            refine call_si B hA hW (k_ratio l G n ad w2 56 (61 + 2 * i) (zs (sW σ i)) (sE σ i) (imgS (sW σ i) p9 (sE σ i)) (by omega) (by omega) hzl.1 i2 j2 v2 (fun q _ => imgS_lt _ _ _ _) n_i2 r_i.s) mf_X3_ratio hw_307 rfl ⟨⟨rfl, rfl⟩, by decide, by decide⟩ ⟨Nat.zero_le _, Nat.zero_le _⟩ hl.1 rfl (Nat.le_of_ble_eq_true rfl) dX4_own_87 (fun r w9 H locs hp hW => ?_)
            obtain ⟨e1, e2⟩ := hp
            rw [e1] at hW
            exact ret_i B hr hlk hW ⟨theI_eq e2 ratR_one, hX2, fun j hj => fr2 j (by omega)⟩ dX4_own_90
          · refine lv_aload_n hx hb dX4_own_37 rfl (lv_at hl 1 rfl) ?_
            refine lv_bipush (v := -7) hx hb dX4_own_38 (by decide) ?_
            refine call_vi B hA hW (0) (by omega) x0 (r := _) rfl rfl (k_refuse l G n ad w hn σ hX (-7) 7 (by decide) (by decide) (by decide) (by decide) (by decide)) mf_X4_refuse hw_149 rfl ⟨⟨rfl, rfl⟩, by decide, by decide⟩ ⟨Nat.zero_le _, Nat.zero_le _⟩ hl.1 rfl (Nat.le_of_ble_eq_true rfl) dX4_own_40 (fun r w9 H locs hp hW => ?_)
            exact ret_i B hr hlk hW (by rw [show st_own σ (nI i) (nI p9) = ref σ 7 by unfold st_own; rw [cif_t ⟨i, hi, rfl⟩, cN_nI (by omega), cif_f (fun q => by omega)]]; exact hp) dX4_own_43
      · refine n_if_eq (tgt := 37) hx hb (by omega) dX4_own_29 (by decide) (fun hz => ?_) (fun hz => ?_)
        · refine lv_aload_n hx hb dX4_own_37 rfl (lv_at hl 1 rfl) ?_
          refine lv_bipush (v := -7) hx hb dX4_own_38 (by decide) ?_
          refine call_vi B hA hW (0) (by omega) x0 (r := _) rfl rfl (k_refuse l G n ad w hn σ hX (-7) 7 (by decide) (by decide) (by decide) (by decide) (by decide)) mf_X4_refuse hw_149 rfl ⟨⟨rfl, rfl⟩, by decide, by decide⟩ ⟨Nat.zero_le _, Nat.zero_le _⟩ hl.1 rfl (Nat.le_of_ble_eq_true rfl) dX4_own_40 (fun r w9 H locs hp hW => ?_)
          exact ret_i B hr hlk hW (by rw [show st_own σ (nI i) x = ref σ 7 by unfold st_own; rw [cif_t ⟨i, hi, rfl⟩, cif_f (fun q => hnp q.1)]]; exact hp) dX4_own_43
        · exact absurd rfl hz
    · exact absurd hz (by decide)
  · refine n_if_ne (tgt := 15) hx hb (by omega) dX4_own_5 (by decide) (fun hz => ?_) (fun hz => ?_)
    · exact absurd rfl hz
    · refine lv_aload_n hx hb dX4_own_8 rfl (lv_at hl 0 rfl) ?_
      refine lv_bipush (v := -3) hx hb dX4_own_9 (by decide) ?_
      refine call_vi B hA hW (0) (by omega) x0 (r := _) rfl rfl (k_refuse l G n ad w hn σ hX (-3) 3 (by decide) (by decide) (by decide) (by decide) (by decide)) mf_X4_refuse hw_149 rfl ⟨⟨rfl, rfl⟩, by decide, by decide⟩ ⟨Nat.zero_le _, Nat.zero_le _⟩ hl.1 rfl (Nat.le_of_ble_eq_true rfl) dX4_own_11 (fun r w9 H locs hp hW => ?_)
      exact ret_i B hr hlk hW (by rw [show st_own σ f x = ref σ 3 by unfold st_own; rw [cif_f hnf]]; exact hp) dX4_own_14
set_option maxHeartbeats 4000000 in
set_option maxRecDepth 100000 in
theorem k_X4_trace (l : Launch) (G : zG) (n : Nat) (ad : Nat → Nat) (w : Nat → va_E) (hn : 92 ≤ n) (σ : zS) (hX : XOK G ad w σ) (hs : SOK σ) (x y : Int32) (c9 : Nat) (hc9 : c9 ≤ 1) :
    Ci l G yX4_trace cdX4_trace (zr 5) n ad w [.ref (ad (0)), .int (x), .int (y), .int (nI (c9))] (postX G ad w (st_trace σ x y c9)) := by
  obtain ⟨⟨nf, hB⟩, x0, ⟨f1, x1, v1⟩, ⟨f55, x55⟩, ⟨f56, x56⟩, ⟨f57, x57⟩, ⟨f58, x58, v58⟩, ⟨f59, x59, v59⟩, xf⟩ := id hX
  have hsh := hs.1
  refine ent_i (cc := cX4_trace) (maxL := 7) (ret := (some .int)) (by decide +kernel) rfl (Nat.le_of_ble_eq_true rfl) ?_
  intro p e s m args below meth c A B hr hlk hA H locs ls hW hl
  have hx := B.1
  have hb := B.2.1
  have hl : lv_has ls 7 [(0, .ref (ad (0))), (1, .int (x)), (2, .int (y)), (3, .int (nI (c9)))] := hl
  obtain ⟨b2, -⟩ := id hB
  refine lv_iload_n hx hb dX4_trace_0 rfl (lv_at hl 1 rfl) ?_
  refine call_si B hA hW (k_isWeight l G n ad w x) mf_X4_isWeight hw_264 rfl ⟨⟨rfl, rfl⟩, by decide, by decide⟩ ⟨Nat.zero_le _, Nat.zero_le _⟩ hl.1 rfl (Nat.le_of_ble_eq_true rfl) dX4_trace_1 (fun r w9 H locs hp hW => ?_)
  obtain ⟨e1, hp⟩ := hp
  rw [e1] at hW
  rcases hp with ⟨k, hk, hk2, rfl, rfl⟩ | ⟨hnf, rfl⟩
  · refine n_if_eq (tgt := 19) hx hb (by omega) dX4_trace_4 (by decide) (fun hz => ?_) (fun hz => ?_)
    · exact absurd hz (by decide)
    · refine lv_iload_n hx hb dX4_trace_7 rfl (lv_at hl 1 rfl) ?_
      refine lv_iconst (v := nI 4) hx hb dX4_trace_8 (by decide) ?_
      refine n_icmp_lt (tgt := 19) hx hb (by omega) (by omega) dX4_trace_9 (by decide) (fun hd => ?_) (fun hd => ?_)
      · refine lv_aload_n hx hb dX4_trace_19 rfl (lv_at hl 0 rfl) ?_
        refine lv_bipush (v := -7) hx hb dX4_trace_20 (by decide) ?_
        refine call_vi B hA hW (0) (by omega) x0 (r := _) rfl rfl (k_refuse l G n ad w hn σ hX (-7) 7 (by decide) (by decide) (by decide) (by decide) (by decide)) mf_X4_refuse hw_149 rfl ⟨⟨rfl, rfl⟩, by decide, by decide⟩ ⟨Nat.zero_le _, Nat.zero_le _⟩ hl.1 rfl (Nat.le_of_ble_eq_true rfl) dX4_trace_22 (fun r w9 H locs hp hW => ?_)
        exact ret_i B hr hlk hW (by rw [show st_trace σ (nI k) y c9 = ref σ 7 by unfold st_trace; rw [cN_nI (by omega), cif_f (fun q => by omega)]]; exact hp) dX4_trace_25
      · refine lv_iload_n hx hb dX4_trace_12 rfl (lv_at hl 2 rfl) ?_
        refine call_si B hA hW (k_X4_isPrime l G n ad w y) mf_X4_isPrime hw_252 rfl ⟨⟨rfl, rfl⟩, by decide, by decide⟩ ⟨Nat.zero_le _, Nat.zero_le _⟩ hl.1 rfl (Nat.le_of_ble_eq_true rfl) dX4_trace_13 (fun r w9 H locs hp hW => ?_)
        obtain ⟨e1, hp⟩ := hp
        rw [e1] at hW
        rcases hp with ⟨p9, hp9, rfl, rfl⟩ | ⟨hnp, rfl⟩
        · refine n_if_ne (tgt := 26) hx hb (by omega) dX4_trace_16 (by decide) (fun hz => ?_) (fun hz => ?_)
          · have hS : st_trace σ (nI k) (nI p9) c9 = (nI (trS k p9 c9 (zs k) % 1000003), σ) := by
              unfold st_trace
              rw [cN_nI (by omega), cif_t ⟨⟨k, hk, hk2, rfl⟩, hd, ⟨p9, hp9, rfl⟩⟩, cN_nI (by have := isP_rng hp9; omega)]
            rw [hS]
            have hzl := zs_le k hk
            have hz0 : c9 ≤ zs k := by
              have : ∀ k, k ≤ 40 → k % 2 = 0 → 4 ≤ k → 1 ≤ zs k := by decide
              have := this k hk hk2 hd
              omega
            refine lv_lconst (v := lN 0) hx hb dX4_trace_26 (by decide) ?_
            refine lv_lstore (lv' := [(4, .long (lN (0))), (0, .ref (ad (0))), (1, .int (nI (k))), (2, .int (nI (p9))), (3, .int (nI (c9)))]) hx hb dX4_trace_27 hl (by decide) rfl (fun ls hl => ?_)
            refine lv_iload_n hx hb dX4_trace_29 rfl (lv_at hl 4 rfl) ?_
            refine n_if_eq (tgt := 37) hx hb (by omega) dX4_trace_30 (by decide) (fun he => ?_) (fun he => ?_)
            · refine lv_iconst (v := nI 0) hx hb dX4_trace_37 (by decide) ?_
              refine topi (y := (nI (c9))) (by congr 1; omega) ?_
              refine lv_istore (lv' := [(6, .int (nI (c9))), (4, .long (lN (0))), (0, .ref (ad (0))), (1, .int (nI (k))), (2, .int (nI (p9))), (3, .int (nI (c9)))]) hx hb dX4_trace_38 hl (by decide) rfl (fun ls hl => ?_)
              refine z_up (Wg := fun H locs ls => W p l e (zr 5) s m args below meth c H locs 0 0 _ (F0 m 40 ls [])) (I := fun t H locs ls => ∃ w2 : Nat → va_E, Wo G A s.heap n ad w2 H locs ∧ lv_has ls 7 [(6, .int (nI t)), (4, .long (lN (trS k p9 c9 t))), (0, .ref (ad 0)), (1, .int (nI k)), (2, .int (nI p9)), (3, .int (nI c9))] ∧ trS k p9 c9 t ≤ t * 1000003 ∧ XOK G ad w2 σ ∧ ∀ j, 92 ≤ j → w2 j = w j) (a := c9) (b := zs k) hz0 ?_ ?_ H locs ls ⟨w, hW, (by rw [show trS k p9 c9 c9 = 0 by rcases (show c9 = 0 ∨ c9 = 1 by omega) with rfl | rfl <;> rfl]; exact hl), (by rw [show trS k p9 c9 c9 = 0 by rcases (show c9 = 0 ∨ c9 = 1 by omega) with rfl | rfl <;> rfl]; exact Nat.zero_le _), hX, fun _ _ => rfl⟩
              · rintro t ht1 ht ih H locs ls ⟨w2, hW, hl, hb9, hX2, hfr⟩
                obtain ⟨⟨nf2, hB2⟩, -⟩ := id hX2
                obtain ⟨b22, -⟩ := id hB2
                refine lv_iload hx hb dX4_trace_40 (lv_at hl 0 rfl) ?_
                refine lv_aload_n hx hb dX4_trace_42 rfl (lv_at hl 2 rfl) ?_
                refine z_get B hW (0) (by omega) hX2.2.1 rfl inX4 2 (by decide) hw_114 rfl (v := .ref (ad (2))) rfl dX4_trace_43 ?_
                refine lv_iload_n hx hb dX4_trace_46 rfl (lv_at hl 3 rfl) ?_
                refine call_vi B hA hW (2) (by omega) b22 (r := _) rfl rfl (k_sizeOf l G n ad w2 k nf2 nf2 (by omega) hk hB2) mf_X0_sizeOf hw_242 rfl ⟨⟨rfl, rfl⟩, by decide, by decide⟩ ⟨Nat.zero_le _, Nat.zero_le _⟩ hl.1 rfl (Nat.le_of_ble_eq_true rfl) dX4_trace_47 (fun r w9 H locs hp hW => ?_)
                obtain ⟨e1, e2⟩ := hp
                rw [e1] at hW
                subst e2
                refine n_icmp_ge (tgt := 110) hx hb (by omega) (by omega) dX4_trace_50 (by decide) (fun hc => ?_) (fun hc => ?_)
                · omega
                · refine lv_aload_n hx hb dX4_trace_53 rfl (lv_at hl 2 rfl) ?_
                  refine z_get B hW (0) (by omega) hX2.2.1 rfl inX4 2 (by decide) hw_114 rfl (v := .ref (ad (2))) rfl dX4_trace_54 ?_
                  refine lv_iload_n hx hb dX4_trace_57 rfl (lv_at hl 3 rfl) ?_
                  refine lv_aload_n hx hb dX4_trace_58 rfl (lv_at hl 2 rfl) ?_
                  refine z_get B hW (0) (by omega) hX2.2.1 rfl inX4 2 (by decide) hw_114 rfl (v := .ref (ad (2))) rfl dX4_trace_59 ?_
                  refine lv_iload_n hx hb dX4_trace_62 rfl (lv_at hl 3 rfl) ?_
                  refine lv_iload hx hb dX4_trace_63 (lv_at hl 0 rfl) ?_
                  refine call_vr B hA hW (2) (by omega) b22 (r := _) rfl rfl (k_rowOf l G n ad w2 k t nf2 (by omega) hk hk2 ht hB2) mf_X0_rowOf hw_267 rfl ⟨⟨rfl, rfl⟩, by decide, by decide⟩ ⟨Nat.zero_le _, Nat.zero_le _⟩ hl.1 rfl (Nat.le_of_ble_eq_true rfl) dX4_trace_65 (fun q w3 H locs hp hW => ?_)
                  obtain ⟨rfl, hB3, g3, hL3⟩ := hp
                  have hX3 : XOK G ad w3 σ := hX2.rows hB3 g3
                  obtain ⟨b23, -⟩ := id hB3
                  refine lv_iload_n hx hb dX4_trace_68 rfl (lv_at hl 4 rfl) ?_
                  refine lv_aload_n hx hb dX4_trace_69 rfl (lv_at hl 2 rfl) ?_
                  refine z_get B hW (0) (by omega) hX3.2.1 rfl inX4 4 (by decide) hw_116 rfl (v := .ref (ad (56))) rfl dX4_trace_70 ?_
                  refine call_vv B hA hW (2) (by omega) b23 (r := _) rfl rfl (k_putImage l G n ad w3 (k) (max nf2 (k + 2)) (max nf2 (k + 2)) (11 + (fst k + t)) 56 p9 (bas k t) (by omega) (by omega) (by omega) hB3 (isP_rng hp9).1 (isP_rng hp9).2 (by omega) (by omega) (by omega) (by omega) hL3 (bas_red k t).s hX3.2.2.2.2.1) mf_X0_putImage hw_255 rfl ⟨⟨rfl, rfl⟩, by decide, by decide⟩ ⟨Nat.zero_le _, Nat.zero_le _⟩ hl.1 rfl (Nat.le_of_ble_eq_true rfl) dX4_trace_73 (fun w4 H locs hp hW => ?_)
                  obtain ⟨fr4, i4, j4, v4⟩ := hp
                  have hX4 : XOK G ad w4 σ := hX3.img fr4 ⟨_, j4⟩
                  have hB4 : BOK G ad w4 (max nf2 (k + 2)) (max nf2 (k + 2)) := hB3.keep (fun j q1 q2 => fr4 j (by omega))
                  obtain ⟨b24, -⟩ := id hB4
                  obtain ⟨f14, x14, v14⟩ := hX4.2.2.1
                  obtain ⟨f554, x554⟩ := hX4.2.2.2.1
                  refine lv_aload_n hx hb dX4_trace_76 rfl (lv_at hl 2 rfl) ?_
                  refine z_get B hW (0) (by omega) hX4.2.1 rfl inX4 2 (by decide) hw_114 rfl (v := .ref (ad (2))) rfl dX4_trace_77 ?_
                  refine lv_iload_n hx hb dX4_trace_80 rfl (lv_at hl 3 rfl) ?_
                  refine lv_aload_n hx hb dX4_trace_81 rfl (lv_at hl 2 rfl) ?_
                  refine z_get B hW (0) (by omega) hX4.2.1 rfl inX4 4 (by decide) hw_116 rfl (v := .ref (ad (56))) rfl dX4_trace_82 ?_
                  refine lv_aload_n hx hb dX4_trace_85 rfl (lv_at hl 2 rfl) ?_
                  refine z_get B hW (0) (by omega) hX4.2.1 rfl inX4 3 (by decide) hw_115 rfl (v := .ref (ad (55))) rfl dX4_trace_86 ?_
                  refine call_vv B hA hW (2) (by omega) b24 (r := _) rfl rfl (k_findParts4 l G n ad w4 k (max nf2 (k + 2)) 56 55 (imgS k p9 (bas k t)) (by omega) hk hk2 hB4 (by omega) (by omega) (by omega) (by omega) (by omega) i4 j4 v4 (fun q _ => imgS_lt _ _ _ _) f554 x554) mf_X0_findParts hw_220 rfl ⟨⟨rfl, rfl⟩, by decide, by decide⟩ ⟨Nat.zero_le _, Nat.zero_le _⟩ hl.1 rfl (Nat.le_of_ble_eq_true rfl) dX4_trace_89 (fun w5 H locs hp hW => ?_)
                  obtain ⟨nf5, hB5, fr5, p5, q5, v5, -⟩ := hp
                  have hX5 : XOK G ad w5 σ := hX4.parts hB5 fr5 ⟨_, q5⟩
                  obtain ⟨b25, -⟩ := id hB5
                  obtain ⟨f15, x15, v15⟩ := hX5.2.2.1
                  have hpl := prt_lt (b := bas k) (imgS_lt k p9 (bas k t) t)
                  have htr : trS k p9 c9 (t + 1) = trS k p9 c9 t + prt (bas k) (imgS k p9 (bas k t)) t := by show trS k p9 c9 t + (if c9 ≤ t then prt (bas k) (imgS k p9 (bas k t)) t else 0) = _; rw [if_pos ht1]
                  refine lv_lload hx hb dX4_trace_92 (lv_at hl 1 rfl) ?_
                  refine lv_aload_n hx hb dX4_trace_94 rfl (lv_at hl 2 rfl) ?_
                  refine z_get B hW (0) (by omega) hX5.2.1 rfl inX4 3 (by decide) hw_115 rfl (v := .ref (ad (55))) rfl dX4_trace_95 ?_
                  refine lv_iload hx hb dX4_trace_98 (lv_at hl 0 rfl) ?_
                  refine z_lald B hW (55) (by omega) q5 (t) (by omega) (by decide) (v := (lN (prt (bas k) (imgS k p9 (bas k t)) t))) (v5 _ ht) dX4_trace_100 ?_
                  refine n_ladd hx hb dX4_trace_101 ?_
                  refine topl (y := (lN (trS k p9 c9 (t + 1)))) (by rw [htr]) ?_
                  refine lv_lstore (lv' := [(4, .long (lN (trS k p9 c9 (t + 1)))), (6, .int (nI (t))), (0, .ref (ad (0))), (1, .int (nI (k))), (2, .int (nI (p9))), (3, .int (nI (c9)))]) hx hb dX4_trace_102 hl (by decide) rfl (fun ls hl => ?_)
                  refine lv_iinc (v := (nI (t + 1))) (lv' := [(6, .int (nI (t + 1))), (4, .long (lN (trS k p9 c9 (t + 1)))), (0, .ref (ad (0))), (1, .int (nI (k))), (2, .int (nI (p9))), (3, .int (nI (c9)))]) hx hb dX4_trace_104 hl (k := 1) rfl (iinc1 _) (by decide) rfl (fun ls hl => ?_)
                  refine lv_goto (tgt := 40) hx hb dX4_trace_107 (by decide) ?_
                  exact ih H locs ls ⟨w5, hW, lv_sub hl [0, 1, 2, 3, 4, 5] rfl, by omega, hX5, fun j hj => (((fr5 j (by omega) (by omega) (by omega)).trans (fr4 j (by omega))).trans (g3 j (by omega) (by omega))).trans (hfr j hj)⟩
              · rintro H locs ls ⟨w2, hW, hl, hb9, hX2, hfr⟩
                obtain ⟨⟨nf2, hB2⟩, -⟩ := id hX2
                obtain ⟨b22, -⟩ := id hB2
                refine lv_iload hx hb dX4_trace_40 (lv_at hl 0 rfl) ?_
                refine lv_aload_n hx hb dX4_trace_42 rfl (lv_at hl 2 rfl) ?_
                refine z_get B hW (0) (by omega) hX2.2.1 rfl inX4 2 (by decide) hw_114 rfl (v := .ref (ad (2))) rfl dX4_trace_43 ?_
                refine lv_iload_n hx hb dX4_trace_46 rfl (lv_at hl 3 rfl) ?_
                refine call_vi B hA hW (2) (by omega) b22 (r := _) rfl rfl (k_sizeOf l G n ad w2 k nf2 nf2 (by omega) hk hB2) mf_X0_sizeOf hw_242 rfl ⟨⟨rfl, rfl⟩, by decide, by decide⟩ ⟨Nat.zero_le _, Nat.zero_le _⟩ hl.1 rfl (Nat.le_of_ble_eq_true rfl) dX4_trace_47 (fun r w9 H locs hp hW => ?_)
                obtain ⟨e1, e2⟩ := hp
                rw [e1] at hW
                subst e2
                refine n_icmp_ge (tgt := 110) hx hb (by omega) (by omega) dX4_trace_50 (by decide) (fun hc => ?_) (fun hc => ?_)
                · refine lv_lload hx hb dX4_trace_110 (lv_at hl 1 rfl) ?_
                  refine topl (y := (lZ (((trS k p9 c9 (zs k) : Nat) : Int)))) (lN_Z _) ?_
                  refine call_sl B hA hW (k_rest l G n ad w2 ((trS k p9 c9 (zs k) : Nat) : Int) (by omega) (by omega)) mf_X2_rest hw_188 rfl ⟨⟨rfl, rfl⟩, by decide, by decide⟩ ⟨Nat.zero_le _, Nat.zero_le _⟩ hl.1 rfl (Nat.le_of_ble_eq_true rfl) dX4_trace_112 (fun r w9 H locs hp hW => ?_)
                  obtain ⟨e1, e2⟩ := hp
                  rw [e1] at hW
                  subst e2
                  refine n_l2i hx hb dX4_trace_115 ?_
                  exact ret_i B hr hlk hW ⟨by rw [zm_nat], hX2, hfr⟩ dX4_trace_116
                · omega
            · refine lv_iconst (v := nI 1) hx hb dX4_trace_33 (by decide) ?_
              refine lv_goto (tgt := 38) hx hb dX4_trace_34 (by decide) ?_
              refine topi (y := (nI (c9))) (by congr 1; omega) ?_
              refine lv_istore (lv' := [(6, .int (nI (c9))), (4, .long (lN (0))), (0, .ref (ad (0))), (1, .int (nI (k))), (2, .int (nI (p9))), (3, .int (nI (c9)))]) hx hb dX4_trace_38 hl (by decide) rfl (fun ls hl => ?_)
              refine z_up (Wg := fun H locs ls => W p l e (zr 5) s m args below meth c H locs 0 0 _ (F0 m 40 ls [])) (I := fun t H locs ls => ∃ w2 : Nat → va_E, Wo G A s.heap n ad w2 H locs ∧ lv_has ls 7 [(6, .int (nI t)), (4, .long (lN (trS k p9 c9 t))), (0, .ref (ad 0)), (1, .int (nI k)), (2, .int (nI p9)), (3, .int (nI c9))] ∧ trS k p9 c9 t ≤ t * 1000003 ∧ XOK G ad w2 σ ∧ ∀ j, 92 ≤ j → w2 j = w j) (a := c9) (b := zs k) hz0 ?_ ?_ H locs ls ⟨w, hW, (by rw [show trS k p9 c9 c9 = 0 by rcases (show c9 = 0 ∨ c9 = 1 by omega) with rfl | rfl <;> rfl]; exact hl), (by rw [show trS k p9 c9 c9 = 0 by rcases (show c9 = 0 ∨ c9 = 1 by omega) with rfl | rfl <;> rfl]; exact Nat.zero_le _), hX, fun _ _ => rfl⟩
              · rintro t ht1 ht ih H locs ls ⟨w2, hW, hl, hb9, hX2, hfr⟩
                obtain ⟨⟨nf2, hB2⟩, -⟩ := id hX2
                obtain ⟨b22, -⟩ := id hB2
                refine lv_iload hx hb dX4_trace_40 (lv_at hl 0 rfl) ?_
                refine lv_aload_n hx hb dX4_trace_42 rfl (lv_at hl 2 rfl) ?_
                refine z_get B hW (0) (by omega) hX2.2.1 rfl inX4 2 (by decide) hw_114 rfl (v := .ref (ad (2))) rfl dX4_trace_43 ?_
                refine lv_iload_n hx hb dX4_trace_46 rfl (lv_at hl 3 rfl) ?_
                refine call_vi B hA hW (2) (by omega) b22 (r := _) rfl rfl (k_sizeOf l G n ad w2 k nf2 nf2 (by omega) hk hB2) mf_X0_sizeOf hw_242 rfl ⟨⟨rfl, rfl⟩, by decide, by decide⟩ ⟨Nat.zero_le _, Nat.zero_le _⟩ hl.1 rfl (Nat.le_of_ble_eq_true rfl) dX4_trace_47 (fun r w9 H locs hp hW => ?_)
                obtain ⟨e1, e2⟩ := hp
                rw [e1] at hW
                subst e2
                refine n_icmp_ge (tgt := 110) hx hb (by omega) (by omega) dX4_trace_50 (by decide) (fun hc => ?_) (fun hc => ?_)
                · omega
                · refine lv_aload_n hx hb dX4_trace_53 rfl (lv_at hl 2 rfl) ?_
                  refine z_get B hW (0) (by omega) hX2.2.1 rfl inX4 2 (by decide) hw_114 rfl (v := .ref (ad (2))) rfl dX4_trace_54 ?_
                  refine lv_iload_n hx hb dX4_trace_57 rfl (lv_at hl 3 rfl) ?_
                  refine lv_aload_n hx hb dX4_trace_58 rfl (lv_at hl 2 rfl) ?_
                  refine z_get B hW (0) (by omega) hX2.2.1 rfl inX4 2 (by decide) hw_114 rfl (v := .ref (ad (2))) rfl dX4_trace_59 ?_
                  refine lv_iload_n hx hb dX4_trace_62 rfl (lv_at hl 3 rfl) ?_
                  refine lv_iload hx hb dX4_trace_63 (lv_at hl 0 rfl) ?_
                  refine call_vr B hA hW (2) (by omega) b22 (r := _) rfl rfl (k_rowOf l G n ad w2 k t nf2 (by omega) hk hk2 ht hB2) mf_X0_rowOf hw_267 rfl ⟨⟨rfl, rfl⟩, by decide, by decide⟩ ⟨Nat.zero_le _, Nat.zero_le _⟩ hl.1 rfl (Nat.le_of_ble_eq_true rfl) dX4_trace_65 (fun q w3 H locs hp hW => ?_)
                  obtain ⟨rfl, hB3, g3, hL3⟩ := hp
                  have hX3 : XOK G ad w3 σ := hX2.rows hB3 g3
                  obtain ⟨b23, -⟩ := id hB3
                  refine lv_iload_n hx hb dX4_trace_68 rfl (lv_at hl 4 rfl) ?_
                  refine lv_aload_n hx hb dX4_trace_69 rfl (lv_at hl 2 rfl) ?_
                  refine z_get B hW (0) (by omega) hX3.2.1 rfl inX4 4 (by decide) hw_116 rfl (v := .ref (ad (56))) rfl dX4_trace_70 ?_
                  refine call_vv B hA hW (2) (by omega) b23 (r := _) rfl rfl (k_putImage l G n ad w3 (k) (max nf2 (k + 2)) (max nf2 (k + 2)) (11 + (fst k + t)) 56 p9 (bas k t) (by omega) (by omega) (by omega) hB3 (isP_rng hp9).1 (isP_rng hp9).2 (by omega) (by omega) (by omega) (by omega) hL3 (bas_red k t).s hX3.2.2.2.2.1) mf_X0_putImage hw_255 rfl ⟨⟨rfl, rfl⟩, by decide, by decide⟩ ⟨Nat.zero_le _, Nat.zero_le _⟩ hl.1 rfl (Nat.le_of_ble_eq_true rfl) dX4_trace_73 (fun w4 H locs hp hW => ?_)
                  obtain ⟨fr4, i4, j4, v4⟩ := hp
                  have hX4 : XOK G ad w4 σ := hX3.img fr4 ⟨_, j4⟩
                  have hB4 : BOK G ad w4 (max nf2 (k + 2)) (max nf2 (k + 2)) := hB3.keep (fun j q1 q2 => fr4 j (by omega))
                  obtain ⟨b24, -⟩ := id hB4
                  obtain ⟨f14, x14, v14⟩ := hX4.2.2.1
                  obtain ⟨f554, x554⟩ := hX4.2.2.2.1
                  refine lv_aload_n hx hb dX4_trace_76 rfl (lv_at hl 2 rfl) ?_
                  refine z_get B hW (0) (by omega) hX4.2.1 rfl inX4 2 (by decide) hw_114 rfl (v := .ref (ad (2))) rfl dX4_trace_77 ?_
                  refine lv_iload_n hx hb dX4_trace_80 rfl (lv_at hl 3 rfl) ?_
                  refine lv_aload_n hx hb dX4_trace_81 rfl (lv_at hl 2 rfl) ?_
                  refine z_get B hW (0) (by omega) hX4.2.1 rfl inX4 4 (by decide) hw_116 rfl (v := .ref (ad (56))) rfl dX4_trace_82 ?_
                  refine lv_aload_n hx hb dX4_trace_85 rfl (lv_at hl 2 rfl) ?_
                  refine z_get B hW (0) (by omega) hX4.2.1 rfl inX4 3 (by decide) hw_115 rfl (v := .ref (ad (55))) rfl dX4_trace_86 ?_
                  refine call_vv B hA hW (2) (by omega) b24 (r := _) rfl rfl (k_findParts4 l G n ad w4 k (max nf2 (k + 2)) 56 55 (imgS k p9 (bas k t)) (by omega) hk hk2 hB4 (by omega) (by omega) (by omega) (by omega) (by omega) i4 j4 v4 (fun q _ => imgS_lt _ _ _ _) f554 x554) mf_X0_findParts hw_220 rfl ⟨⟨rfl, rfl⟩, by decide, by decide⟩ ⟨Nat.zero_le _, Nat.zero_le _⟩ hl.1 rfl (Nat.le_of_ble_eq_true rfl) dX4_trace_89 (fun w5 H locs hp hW => ?_)
                  obtain ⟨nf5, hB5, fr5, p5, q5, v5, -⟩ := hp
                  have hX5 : XOK G ad w5 σ := hX4.parts hB5 fr5 ⟨_, q5⟩
                  obtain ⟨b25, -⟩ := id hB5
                  obtain ⟨f15, x15, v15⟩ := hX5.2.2.1
                  have hpl := prt_lt (b := bas k) (imgS_lt k p9 (bas k t) t)
                  have htr : trS k p9 c9 (t + 1) = trS k p9 c9 t + prt (bas k) (imgS k p9 (bas k t)) t := by show trS k p9 c9 t + (if c9 ≤ t then prt (bas k) (imgS k p9 (bas k t)) t else 0) = _; rw [if_pos ht1]
                  refine lv_lload hx hb dX4_trace_92 (lv_at hl 1 rfl) ?_
                  refine lv_aload_n hx hb dX4_trace_94 rfl (lv_at hl 2 rfl) ?_
                  refine z_get B hW (0) (by omega) hX5.2.1 rfl inX4 3 (by decide) hw_115 rfl (v := .ref (ad (55))) rfl dX4_trace_95 ?_
                  refine lv_iload hx hb dX4_trace_98 (lv_at hl 0 rfl) ?_
                  refine z_lald B hW (55) (by omega) q5 (t) (by omega) (by decide) (v := (lN (prt (bas k) (imgS k p9 (bas k t)) t))) (v5 _ ht) dX4_trace_100 ?_
                  refine n_ladd hx hb dX4_trace_101 ?_
                  refine topl (y := (lN (trS k p9 c9 (t + 1)))) (by rw [htr]) ?_
                  refine lv_lstore (lv' := [(4, .long (lN (trS k p9 c9 (t + 1)))), (6, .int (nI (t))), (0, .ref (ad (0))), (1, .int (nI (k))), (2, .int (nI (p9))), (3, .int (nI (c9)))]) hx hb dX4_trace_102 hl (by decide) rfl (fun ls hl => ?_)
                  refine lv_iinc (v := (nI (t + 1))) (lv' := [(6, .int (nI (t + 1))), (4, .long (lN (trS k p9 c9 (t + 1)))), (0, .ref (ad (0))), (1, .int (nI (k))), (2, .int (nI (p9))), (3, .int (nI (c9)))]) hx hb dX4_trace_104 hl (k := 1) rfl (iinc1 _) (by decide) rfl (fun ls hl => ?_)
                  refine lv_goto (tgt := 40) hx hb dX4_trace_107 (by decide) ?_
                  exact ih H locs ls ⟨w5, hW, lv_sub hl [0, 1, 2, 3, 4, 5] rfl, by omega, hX5, fun j hj => (((fr5 j (by omega) (by omega) (by omega)).trans (fr4 j (by omega))).trans (g3 j (by omega) (by omega))).trans (hfr j hj)⟩
              · rintro H locs ls ⟨w2, hW, hl, hb9, hX2, hfr⟩
                obtain ⟨⟨nf2, hB2⟩, -⟩ := id hX2
                obtain ⟨b22, -⟩ := id hB2
                refine lv_iload hx hb dX4_trace_40 (lv_at hl 0 rfl) ?_
                refine lv_aload_n hx hb dX4_trace_42 rfl (lv_at hl 2 rfl) ?_
                refine z_get B hW (0) (by omega) hX2.2.1 rfl inX4 2 (by decide) hw_114 rfl (v := .ref (ad (2))) rfl dX4_trace_43 ?_
                refine lv_iload_n hx hb dX4_trace_46 rfl (lv_at hl 3 rfl) ?_
                refine call_vi B hA hW (2) (by omega) b22 (r := _) rfl rfl (k_sizeOf l G n ad w2 k nf2 nf2 (by omega) hk hB2) mf_X0_sizeOf hw_242 rfl ⟨⟨rfl, rfl⟩, by decide, by decide⟩ ⟨Nat.zero_le _, Nat.zero_le _⟩ hl.1 rfl (Nat.le_of_ble_eq_true rfl) dX4_trace_47 (fun r w9 H locs hp hW => ?_)
                obtain ⟨e1, e2⟩ := hp
                rw [e1] at hW
                subst e2
                refine n_icmp_ge (tgt := 110) hx hb (by omega) (by omega) dX4_trace_50 (by decide) (fun hc => ?_) (fun hc => ?_)
                · refine lv_lload hx hb dX4_trace_110 (lv_at hl 1 rfl) ?_
                  refine topl (y := (lZ (((trS k p9 c9 (zs k) : Nat) : Int)))) (lN_Z _) ?_
                  refine call_sl B hA hW (k_rest l G n ad w2 ((trS k p9 c9 (zs k) : Nat) : Int) (by omega) (by omega)) mf_X2_rest hw_188 rfl ⟨⟨rfl, rfl⟩, by decide, by decide⟩ ⟨Nat.zero_le _, Nat.zero_le _⟩ hl.1 rfl (Nat.le_of_ble_eq_true rfl) dX4_trace_112 (fun r w9 H locs hp hW => ?_)
                  obtain ⟨e1, e2⟩ := hp
                  rw [e1] at hW
                  subst e2
                  refine n_l2i hx hb dX4_trace_115 ?_
                  exact ret_i B hr hlk hW ⟨by rw [zm_nat], hX2, hfr⟩ dX4_trace_116
                · omega
          · exact absurd hz (by decide)
        · refine n_if_ne (tgt := 26) hx hb (by omega) dX4_trace_16 (by decide) (fun hz => ?_) (fun hz => ?_)
          · exact absurd rfl hz
          · refine lv_aload_n hx hb dX4_trace_19 rfl (lv_at hl 0 rfl) ?_
            refine lv_bipush (v := -7) hx hb dX4_trace_20 (by decide) ?_
            refine call_vi B hA hW (0) (by omega) x0 (r := _) rfl rfl (k_refuse l G n ad w hn σ hX (-7) 7 (by decide) (by decide) (by decide) (by decide) (by decide)) mf_X4_refuse hw_149 rfl ⟨⟨rfl, rfl⟩, by decide, by decide⟩ ⟨Nat.zero_le _, Nat.zero_le _⟩ hl.1 rfl (Nat.le_of_ble_eq_true rfl) dX4_trace_22 (fun r w9 H locs hp hW => ?_)
            exact ret_i B hr hlk hW (by rw [show st_trace σ (nI k) y c9 = ref σ 7 by unfold st_trace; rw [cif_f (fun q => hnp q.2.2)]]; exact hp) dX4_trace_25
  · refine n_if_eq (tgt := 19) hx hb (by omega) dX4_trace_4 (by decide) (fun hz => ?_) (fun hz => ?_)
    · refine lv_aload_n hx hb dX4_trace_19 rfl (lv_at hl 0 rfl) ?_
      refine lv_bipush (v := -7) hx hb dX4_trace_20 (by decide) ?_
      refine call_vi B hA hW (0) (by omega) x0 (r := _) rfl rfl (k_refuse l G n ad w hn σ hX (-7) 7 (by decide) (by decide) (by decide) (by decide) (by decide)) mf_X4_refuse hw_149 rfl ⟨⟨rfl, rfl⟩, by decide, by decide⟩ ⟨Nat.zero_le _, Nat.zero_le _⟩ hl.1 rfl (Nat.le_of_ble_eq_true rfl) dX4_trace_22 (fun r w9 H locs hp hW => ?_)
      exact ret_i B hr hlk hW (by rw [show st_trace σ x y c9 = ref σ 7 by unfold st_trace; rw [cif_f (fun q => hnf q.1)]]; exact hp) dX4_trace_25
    · exact absurd rfl hz
set_option maxHeartbeats 4000000 in
set_option maxRecDepth 100000 in
theorem k_X4_basis (l : Launch) (G : zG) (n : Nat) (ad : Nat → Nat) (w : Nat → va_E) (hn : 92 ≤ n) (σ : zS) (hX : XOK G ad w σ) (hs : SOK σ) (x y : Int32) :
    Ci l G yX4_basis cdX4_basis (zr 5) n ad w [.ref (ad (0)), .int (x), .int (y)] (postX G ad w (st_basis σ x y)) := by
  obtain ⟨⟨nf, hB⟩, x0, ⟨f1, x1, v1⟩, ⟨f55, x55⟩, ⟨f56, x56⟩, ⟨f57, x57⟩, ⟨f58, x58, v58⟩, ⟨f59, x59, v59⟩, xf⟩ := id hX
  have hsh := hs.1
  refine ent_i (cc := cX4_basis) (maxL := 3) (ret := (some .int)) (by decide +kernel) rfl (Nat.le_of_ble_eq_true rfl) ?_
  intro p e s m args below meth c A B hr hlk hA H locs ls hW hl
  have hx := B.1
  have hb := B.2.1
  have hl : lv_has ls 3 [(0, .ref (ad (0))), (1, .int (x)), (2, .int (y))] := hl
  obtain ⟨b2, -⟩ := id hB
  refine lv_iload_n hx hb dX4_basis_0 rfl (lv_at hl 1 rfl) ?_
  refine call_si B hA hW (k_isWeight l G n ad w x) mf_X4_isWeight hw_264 rfl ⟨⟨rfl, rfl⟩, by decide, by decide⟩ ⟨Nat.zero_le _, Nat.zero_le _⟩ hl.1 rfl (Nat.le_of_ble_eq_true rfl) dX4_basis_1 (fun r w9 H locs hp hW => ?_)
  obtain ⟨e1, hp⟩ := hp
  rw [e1] at hW
  rcases hp with ⟨k, hk, hk2, rfl, rfl⟩ | ⟨hnf, rfl⟩
  · refine n_if_ne (tgt := 14) hx hb (by omega) dX4_basis_4 (by decide) (fun hz => ?_) (fun hz => ?_)
    · have hS : st_basis σ (nI k) y = cif (isF (zs k) y) (comeO σ k (bas k (cN y))) (ref σ 3) := by
        unfold st_basis
        rw [cif_t ⟨k, hk, hk2, rfl⟩, cN_nI (by omega)]
      rw [hS]
      have hzl := zs_le k hk
      refine lv_iload_n hx hb dX4_basis_14 rfl (lv_at hl 2 rfl) ?_
      refine lv_if_lt (tgt := 30) hx hb dX4_basis_15 (by decide) (fun hc => ?_) (fun hc => ?_)
      · refine lv_aload_n hx hb dX4_basis_30 rfl (lv_at hl 0 rfl) ?_
        refine lv_bipush (v := -3) hx hb dX4_basis_31 (by decide) ?_
        refine call_vi B hA hW (0) (by omega) x0 (r := _) rfl rfl (k_refuse l G n ad w hn σ hX (-3) 3 (by decide) (by decide) (by decide) (by decide) (by decide)) mf_X4_refuse hw_149 rfl ⟨⟨rfl, rfl⟩, by decide, by decide⟩ ⟨Nat.zero_le _, Nat.zero_le _⟩ hl.1 rfl (Nat.le_of_ble_eq_true rfl) dX4_basis_33 (fun r w9 H locs hp hW => ?_)
        exact ret_i B hr hlk hW (by rw [cif_f (fun ⟨q, q1, q2⟩ => nI_pos (by omega) (q2 ▸ hc))]; exact hp) dX4_basis_36
      · obtain ⟨q9, hq9, rfl⟩ := nI_of hc
        refine lv_iload_n hx hb dX4_basis_18 rfl (lv_at hl 2 rfl) ?_
        refine lv_aload_n hx hb dX4_basis_19 rfl (lv_at hl 0 rfl) ?_
        refine z_get B hW (0) (by omega) x0 rfl inX4 2 (by decide) hw_114 rfl (v := .ref (ad (2))) rfl dX4_basis_20 ?_
        refine lv_iload_n hx hb dX4_basis_23 rfl (lv_at hl 1 rfl) ?_
        refine call_vi B hA hW (2) (by omega) b2 (r := _) rfl rfl (k_sizeOf l G n ad w k nf nf (by omega) hk hB) mf_X0_sizeOf hw_242 rfl ⟨⟨rfl, rfl⟩, by decide, by decide⟩ ⟨Nat.zero_le _, Nat.zero_le _⟩ hl.1 rfl (Nat.le_of_ble_eq_true rfl) dX4_basis_24 (fun r w9 H locs hp hW => ?_)
        obtain ⟨e1, e2⟩ := hp
        rw [e1] at hW
        subst e2
        refine n_icmp_lt (tgt := 37) hx hb (by omega) (by omega) dX4_basis_27 (by decide) (fun hd => ?_) (fun hd => ?_)
        · rw [cif_t ⟨q9, hd, rfl⟩, cN_nI hq9]
          refine lv_aload_n hx hb dX4_basis_37 rfl (lv_at hl 0 rfl) ?_
          refine lv_iload_n hx hb dX4_basis_38 rfl (lv_at hl 1 rfl) ?_
          refine call_vi B hA hW (0) (by omega) x0 (r := _) rfl rfl (k_hasRoom l G n ad w hn σ hX hs (k) (by omega)) mf_X4_hasRoom hw_156 rfl ⟨⟨rfl, rfl⟩, by decide, by decide⟩ ⟨Nat.zero_le _, Nat.zero_le _⟩ hl.1 rfl (Nat.le_of_ble_eq_true rfl) dX4_basis_39 (fun r w9 H locs hp hW => ?_)
          obtain ⟨e1, hp⟩ := hp
          rw [e1] at hW
          rcases hp with ⟨hh, hk40, rfl⟩ | ⟨hnr, rfl⟩
          · obtain ⟨xa, ya, za, fa, g1, g2⟩ := hX.free hh
            refine n_if_ne (tgt := 52) hx hb (by omega) dX4_basis_42 (by decide) (fun hz => ?_) (fun hz => ?_)
            · refine lv_aload_n hx hb dX4_basis_52 rfl (lv_at hl 0 rfl) ?_
              refine z_get B hW (0) (by omega) x0 rfl inX4 2 (by decide) hw_114 rfl (v := .ref (ad (2))) rfl dX4_basis_53 ?_
              refine lv_iload_n hx hb dX4_basis_56 rfl (lv_at hl 1 rfl) ?_
              refine lv_iload_n hx hb dX4_basis_57 rfl (lv_at hl 2 rfl) ?_
              refine call_vr B hA hW (2) (by omega) b2 (r := _) rfl rfl (k_rowOf l G n ad w k q9 nf (by omega) hk hk2 hd hB) mf_X0_rowOf hw_267 rfl ⟨⟨rfl, rfl⟩, by decide, by decide⟩ ⟨Nat.zero_le _, Nat.zero_le _⟩ hl.1 rfl (Nat.le_of_ble_eq_true rfl) dX4_basis_58 (fun q w2 H locs hp hW => ?_)
              obtain ⟨rfl, hB2, g2b, fL, eL2, vL⟩ := hp
              have hX2a : XOK G ad w2 σ := hX.rows hB2 g2b
              obtain ⟨f12, x12, v12⟩ := hX2a.2.2.1
              obtain ⟨xa2, ya2, za2, fa2, g12, g22⟩ := hX2a.free hh
              refine lv_iconst (v := nI 0) hx hb dX4_basis_61 (by decide) ?_
              refine lv_aload_n hx hb dX4_basis_62 rfl (lv_at hl 0 rfl) ?_
              refine z_get B hW (0) (by omega) hX2a.2.1 rfl inX4 0 (by decide) hw_112 rfl (v := .ref (ad (1))) rfl dX4_basis_63 ?_
              refine lv_aload_n hx hb dX4_basis_66 rfl (lv_at hl 0 rfl) ?_
              refine z_get B hW (0) (by omega) hX2a.2.1 rfl inX4 1 (by decide) hw_113 rfl (v := .int (nI (sH σ))) rfl dX4_basis_67 ?_
              refine z_aald B hW (1) (by omega) x12 (sH σ) (by omega) (by decide) (q := ad (60 + 2 * (sH σ))) (v12 _ (by omega)) dX4_basis_70 ?_
              refine z_get B hW (60 + 2 * (sH σ)) (by omega) g12 rfl inX1 0 (by decide) hw_98 rfl (v := .ref (ad (61 + 2 * (sH σ)))) rfl dX4_basis_71 ?_
              refine lv_iconst (v := nI 0) hx hb dX4_basis_74 (by decide) ?_
              refine lv_bipush (v := nI 48) hx hb dX4_basis_75 (by decide) ?_
              refine z_copyl B hW hl.1 hw_268 hw_57 hw_56 hw_6 (11 + (fst k + q9)) (61 + 2 * (sH σ)) (by omega) (by omega) eL2 g22 0 0 48 (by omega) (by omega) (by decide) (by decide) (by decide) (by decide) dX4_basis_77 (fun H locs hW => ?_)
              have hp : (∀ j, j ≠ 61 + 2 * sH σ → va_up w2 (61 + 2 * (sH σ)) (eL G 48 (va_cpy fL fa2 0 0 48)) j = w2 j) ∧ isL G (va_up w2 (61 + 2 * (sH σ)) (eL G 48 (va_cpy fL fa2 0 0 48))) (61 + 2 * sH σ) 48 (bas k q9) := ⟨fun j hj => up_n hj, _, up_s, fun q hq => by rw [pk_cpy_in (by omega) (by omega)]; rw [← vL q hq]; congr 1; omega⟩
              generalize va_up w2 (61 + 2 * (sH σ)) (eL G 48 (va_cpy fL fa2 0 0 48)) = w3 at hp hW
              have hX2 : XOK G ad w3 σ := hX2a.num ⟨_, hp.2.choose_spec.1⟩ hp.1
              refine lv_aload_n hx hb dX4_basis_80 rfl (lv_at hl 0 rfl) ?_
              refine lv_iload_n hx hb dX4_basis_81 rfl (lv_at hl 1 rfl) ?_
              refine call_vi B hA hW (0) (by omega) hX2.2.1 (r := _) rfl rfl (k_comeOfOthers l G n ad w3 hn σ hX2 hs hh (k) hk40 (bas k q9) hp.2 (bas_red _ _ _)) mf_X4_comeOfOthers hw_189 rfl ⟨⟨rfl, rfl⟩, by decide, by decide⟩ ⟨Nat.zero_le _, Nat.zero_le _⟩ hl.1 rfl (Nat.le_of_ble_eq_true rfl) dX4_basis_82 (fun r w9 H locs hp9 hW => ?_)
              exact ret_i B hr hlk hW ⟨hp9.1, hp9.2.1, fun j hj => (hp9.2.2 j hj).trans ((hp.1 j (by omega)).trans (g2b j (by omega) (by omega)))⟩ dX4_basis_85
            · exact absurd hz (by decide)
          · refine n_if_ne (tgt := 52) hx hb (by omega) dX4_basis_42 (by decide) (fun hz => ?_) (fun hz => ?_)
            · exact absurd rfl hz
            · refine lv_aload_n hx hb dX4_basis_45 rfl (lv_at hl 0 rfl) ?_
              refine lv_bipush (v := -8) hx hb dX4_basis_46 (by decide) ?_
              refine call_vi B hA hW (0) (by omega) x0 (r := _) rfl rfl (k_refuse l G n ad w hn σ hX (-8) 8 (by decide) (by decide) (by decide) (by decide) (by decide)) mf_X4_refuse hw_149 rfl ⟨⟨rfl, rfl⟩, by decide, by decide⟩ ⟨Nat.zero_le _, Nat.zero_le _⟩ hl.1 rfl (Nat.le_of_ble_eq_true rfl) dX4_basis_48 (fun r w9 H locs hp hW => ?_)
              exact ret_i B hr hlk hW (by rw [comeO_full hnr]; exact hp) dX4_basis_51
        · refine lv_aload_n hx hb dX4_basis_30 rfl (lv_at hl 0 rfl) ?_
          refine lv_bipush (v := -3) hx hb dX4_basis_31 (by decide) ?_
          refine call_vi B hA hW (0) (by omega) x0 (r := _) rfl rfl (k_refuse l G n ad w hn σ hX (-3) 3 (by decide) (by decide) (by decide) (by decide) (by decide)) mf_X4_refuse hw_149 rfl ⟨⟨rfl, rfl⟩, by decide, by decide⟩ ⟨Nat.zero_le _, Nat.zero_le _⟩ hl.1 rfl (Nat.le_of_ble_eq_true rfl) dX4_basis_33 (fun r w9 H locs hp hW => ?_)
          exact ret_i B hr hlk hW (by rw [cif_f (fun ⟨q, q1, q2⟩ => by have := (nI_eq hq9 (by omega)).mp q2; omega)]; exact hp) dX4_basis_36
    · exact absurd hz (by decide)
  · refine n_if_ne (tgt := 14) hx hb (by omega) dX4_basis_4 (by decide) (fun hz => ?_) (fun hz => ?_)
    · exact absurd rfl hz
    · refine lv_aload_n hx hb dX4_basis_7 rfl (lv_at hl 0 rfl) ?_
      refine lv_bipush (v := -7) hx hb dX4_basis_8 (by decide) ?_
      refine call_vi B hA hW (0) (by omega) x0 (r := _) rfl rfl (k_refuse l G n ad w hn σ hX (-7) 7 (by decide) (by decide) (by decide) (by decide) (by decide)) mf_X4_refuse hw_149 rfl ⟨⟨rfl, rfl⟩, by decide, by decide⟩ ⟨Nat.zero_le _, Nat.zero_le _⟩ hl.1 rfl (Nat.le_of_ble_eq_true rfl) dX4_basis_10 (fun r w9 H locs hp hW => ?_)
      exact ret_i B hr hlk hW (by rw [show st_basis σ x y = ref σ 7 by unfold st_basis; rw [cif_f (P := isW x) hnf]]; exact hp) dX4_basis_13
end
