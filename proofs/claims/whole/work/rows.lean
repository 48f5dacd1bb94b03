section
-- ===== PART A: goes FIRST, ahead of the names: the tables' words, and 'selects' of the private methods out of them =====
/-- a private method of a class that the tables say can be made, by its rows of tables_1 -/
def lw_okq (q : MethodName × Nat) : Prop := (q.1.cls ≠ "java/lang/invoke/MethodHandle" ∧ q.1.cls ≠ "java/lang/invoke/VarHandle") ∧ Cond.instantiable q.1.cls q.2 ∈ tables_1 ∧ Cond.privateMethod q.1 ∈ tables_1 ∧ Cond.instanceMethod q.1 ∈ tables_1
theorem lw_p0 : lw_okq (⟨"StreamCounts", "noArc", "(III)Z"⟩, 2) := ⟨⟨by decide +kernel, by decide +kernel⟩, List.mem_of_getElem? (i := 13) (by decide +kernel), List.mem_of_getElem? (i := 234) (by decide +kernel), List.mem_of_getElem? (i := 235) (by decide +kernel)⟩
theorem lw_p1 : lw_okq (⟨"StreamCounts", "noNode", "(II)Z"⟩, 2) := ⟨⟨by decide +kernel, by decide +kernel⟩, List.mem_of_getElem? (i := 13) (by decide +kernel), List.mem_of_getElem? (i := 238) (by decide +kernel), List.mem_of_getElem? (i := 239) (by decide +kernel)⟩
theorem lw_p2 : lw_okq (⟨"StreamCounts$Counters", "lessen", "(I)V"⟩, 6) := ⟨⟨by decide +kernel, by decide +kernel⟩, List.mem_of_getElem? (i := 28) (by decide +kernel), List.mem_of_getElem? (i := 256) (by decide +kernel), List.mem_of_getElem? (i := 257) (by decide +kernel)⟩
theorem lw_p3 : lw_okq (⟨"StreamCounts$Forest", "partAll", "()V"⟩, 4) := ⟨⟨by decide +kernel, by decide +kernel⟩, List.mem_of_getElem? (i := 57) (by decide +kernel), List.mem_of_getElem? (i := 269) (by decide +kernel), List.mem_of_getElem? (i := 270) (by decide +kernel)⟩
theorem lw_p4 : lw_okq (⟨"StreamCounts$Forest", "joinByArc", "(I)V"⟩, 4) := ⟨⟨by decide +kernel, by decide +kernel⟩, List.mem_of_getElem? (i := 57) (by decide +kernel), List.mem_of_getElem? (i := 273) (by decide +kernel), List.mem_of_getElem? (i := 274) (by decide +kernel)⟩
theorem lw_p5 : lw_okq (⟨"StreamCounts$Forest", "leaderOf", "(I)I"⟩, 4) := ⟨⟨by decide +kernel, by decide +kernel⟩, List.mem_of_getElem? (i := 57) (by decide +kernel), List.mem_of_getElem? (i := 280) (by decide +kernel), List.mem_of_getElem? (i := 281) (by decide +kernel)⟩
theorem lw_p6 : lw_okq (⟨"StreamCounts$Forest", "drop", "(I)V"⟩, 4) := ⟨⟨by decide +kernel, by decide +kernel⟩, List.mem_of_getElem? (i := 57) (by decide +kernel), List.mem_of_getElem? (i := 289) (by decide +kernel), List.mem_of_getElem? (i := 290) (by decide +kernel)⟩
theorem lw_p7 : lw_okq (⟨"StreamCounts$Thinned", "neighboursOf", "(J)J"⟩, 6) := ⟨⟨by decide +kernel, by decide +kernel⟩, List.mem_of_getElem? (i := 79) (by decide +kernel), List.mem_of_getElem? (i := 307) (by decide +kernel), List.mem_of_getElem? (i := 308) (by decide +kernel)⟩
theorem lw_p8 : lw_okq (⟨"StreamCounts$Rows", "levelOf", "(J)I"⟩, 3) := ⟨⟨by decide +kernel, by decide +kernel⟩, List.mem_of_getElem? (i := 123) (by decide +kernel), List.mem_of_getElem? (i := 322) (by decide +kernel), List.mem_of_getElem? (i := 323) (by decide +kernel)⟩
theorem lw_p9 : lw_okq (⟨"StreamCounts$Rows", "addTo", "(IJI)V"⟩, 3) := ⟨⟨by decide +kernel, by decide +kernel⟩, List.mem_of_getElem? (i := 123) (by decide +kernel), List.mem_of_getElem? (i := 333) (by decide +kernel), List.mem_of_getElem? (i := 334) (by decide +kernel)⟩
theorem lw_p10 : lw_okq (⟨"StreamCounts$Counters", "greatest", "([IJ)I"⟩, 6) := ⟨⟨by decide +kernel, by decide +kernel⟩, List.mem_of_getElem? (i := 28) (by decide +kernel), List.mem_of_getElem? (i := 361) (by decide +kernel), List.mem_of_getElem? (i := 362) (by decide +kernel)⟩
theorem lw_p11 : lw_okq (⟨"StreamCounts$Rows", "sumOf", "(JII)J"⟩, 3) := ⟨⟨by decide +kernel, by decide +kernel⟩, List.mem_of_getElem? (i := 123) (by decide +kernel), List.mem_of_getElem? (i := 439) (by decide +kernel), List.mem_of_getElem? (i := 440) (by decide +kernel)⟩
theorem lw_p12 : lw_okq (⟨"StreamCountsModel", "isNode", "(II)Z"⟩, 17) := ⟨⟨by decide +kernel, by decide +kernel⟩, List.mem_of_getElem? (i := 462) (by decide +kernel), List.mem_of_getElem? (i := 532) (by decide +kernel), List.mem_of_getElem? (i := 533) (by decide +kernel)⟩
theorem lw_p13 : lw_okq (⟨"StreamCountsModel", "count", "(II)V"⟩, 17) := ⟨⟨by decide +kernel, by decide +kernel⟩, List.mem_of_getElem? (i := 462) (by decide +kernel), List.mem_of_getElem? (i := 536) (by decide +kernel), List.mem_of_getElem? (i := 537) (by decide +kernel)⟩
theorem lw_p14 : lw_okq (⟨"StreamCountsModel", "taken", "(I)I"⟩, 17) := ⟨⟨by decide +kernel, by decide +kernel⟩, List.mem_of_getElem? (i := 462) (by decide +kernel), List.mem_of_getElem? (i := 540) (by decide +kernel), List.mem_of_getElem? (i := 541) (by decide +kernel)⟩
theorem lw_p15 : lw_okq (⟨"StreamCountsModel", "less", "(II)V"⟩, 17) := ⟨⟨by decide +kernel, by decide +kernel⟩, List.mem_of_getElem? (i := 462) (by decide +kernel), List.mem_of_getElem? (i := 544) (by decide +kernel), List.mem_of_getElem? (i := 545) (by decide +kernel)⟩
def lw_privs_1 : List (MethodName × Nat) := [(⟨"StreamCounts", "noArc", "(III)Z"⟩, 2), (⟨"StreamCounts", "noNode", "(II)Z"⟩, 2), (⟨"StreamCounts$Counters", "lessen", "(I)V"⟩, 6), (⟨"StreamCounts$Forest", "partAll", "()V"⟩, 4), (⟨"StreamCounts$Forest", "joinByArc", "(I)V"⟩, 4), (⟨"StreamCounts$Forest", "leaderOf", "(I)I"⟩, 4), (⟨"StreamCounts$Forest", "drop", "(I)V"⟩, 4), (⟨"StreamCounts$Thinned", "neighboursOf", "(J)J"⟩, 6), (⟨"StreamCounts$Rows", "levelOf", "(J)I"⟩, 3), (⟨"StreamCounts$Rows", "addTo", "(IJI)V"⟩, 3), (⟨"StreamCounts$Counters", "greatest", "([IJ)I"⟩, 6), (⟨"StreamCounts$Rows", "sumOf", "(JII)J"⟩, 3), (⟨"StreamCountsModel", "isNode", "(II)Z"⟩, 17), (⟨"StreamCountsModel", "count", "(II)V"⟩, 17), (⟨"StreamCountsModel", "taken", "(I)I"⟩, 17), (⟨"StreamCountsModel", "less", "(II)V"⟩, 17)]
theorem lw_r1 : ∀ q ∈ lw_privs_1, lw_okq q := List.forall_mem_cons.mpr ⟨lw_p0, List.forall_mem_cons.mpr ⟨lw_p1, List.forall_mem_cons.mpr ⟨lw_p2, List.forall_mem_cons.mpr ⟨lw_p3, List.forall_mem_cons.mpr ⟨lw_p4, List.forall_mem_cons.mpr ⟨lw_p5, List.forall_mem_cons.mpr ⟨lw_p6, List.forall_mem_cons.mpr ⟨lw_p7, List.forall_mem_cons.mpr ⟨lw_p8, List.forall_mem_cons.mpr ⟨lw_p9, List.forall_mem_cons.mpr ⟨lw_p10, List.forall_mem_cons.mpr ⟨lw_p11, List.forall_mem_cons.mpr ⟨lw_p12, List.forall_mem_cons.mpr ⟨lw_p13, List.forall_mem_cons.mpr ⟨lw_p14, List.forall_mem_cons.mpr ⟨lw_p15, fun _ h => absurd h List.not_mem_nil⟩⟩⟩⟩⟩⟩⟩⟩⟩⟩⟩⟩⟩⟩⟩⟩
theorem lw_p16 : lw_okq (⟨"StreamCountsModel", "shortest", "(III)I"⟩, 17) := ⟨⟨by decide +kernel, by decide +kernel⟩, List.mem_of_getElem? (i := 462) (by decide +kernel), List.mem_of_getElem? (i := 548) (by decide +kernel), List.mem_of_getElem? (i := 549) (by decide +kernel)⟩
theorem lw_p17 : lw_okq (⟨"StreamCountsModel", "change", "(IIIJ)I"⟩, 17) := ⟨⟨by decide +kernel, by decide +kernel⟩, List.mem_of_getElem? (i := 462) (by decide +kernel), List.mem_of_getElem? (i := 552) (by decide +kernel), List.mem_of_getElem? (i := 553) (by decide +kernel)⟩
theorem lw_p18 : lw_okq (⟨"StreamCountsModel", "levelOf", "(IJ)I"⟩, 17) := ⟨⟨by decide +kernel, by decide +kernel⟩, List.mem_of_getElem? (i := 462) (by decide +kernel), List.mem_of_getElem? (i := 557) (by decide +kernel), List.mem_of_getElem? (i := 558) (by decide +kernel)⟩
theorem lw_p19 : lw_okq (⟨"StreamCountsModel", "isApart", "(II)Z"⟩, 17) := ⟨⟨by decide +kernel, by decide +kernel⟩, List.mem_of_getElem? (i := 462) (by decide +kernel), List.mem_of_getElem? (i := 573) (by decide +kernel), List.mem_of_getElem? (i := 574) (by decide +kernel)⟩
theorem lw_p20 : lw_okq (⟨"StreamCountsModel", "ranked", "(II)I"⟩, 17) := ⟨⟨by decide +kernel, by decide +kernel⟩, List.mem_of_getElem? (i := 462) (by decide +kernel), List.mem_of_getElem? (i := 578) (by decide +kernel), List.mem_of_getElem? (i := 579) (by decide +kernel)⟩
theorem lw_p21 : lw_okq (⟨"StreamCountsModel", "join", "(II)I"⟩, 17) := ⟨⟨by decide +kernel, by decide +kernel⟩, List.mem_of_getElem? (i := 462) (by decide +kernel), List.mem_of_getElem? (i := 587) (by decide +kernel), List.mem_of_getElem? (i := 588) (by decide +kernel)⟩
theorem lw_p22 : lw_okq (⟨"StreamCountsModel", "unite", "(II)V"⟩, 17) := ⟨⟨by decide +kernel, by decide +kernel⟩, List.mem_of_getElem? (i := 462) (by decide +kernel), List.mem_of_getElem? (i := 591) (by decide +kernel), List.mem_of_getElem? (i := 592) (by decide +kernel)⟩
theorem lw_p23 : lw_okq (⟨"StreamCountsModel", "pairs", "(I)I"⟩, 17) := ⟨⟨by decide +kernel, by decide +kernel⟩, List.mem_of_getElem? (i := 462) (by decide +kernel), List.mem_of_getElem? (i := 595) (by decide +kernel), List.mem_of_getElem? (i := 596) (by decide +kernel)⟩
theorem lw_p24 : lw_okq (⟨"StreamCountsModel", "ofSet", "(IJII)J"⟩, 17) := ⟨⟨by decide +kernel, by decide +kernel⟩, List.mem_of_getElem? (i := 462) (by decide +kernel), List.mem_of_getElem? (i := 643) (by decide +kernel), List.mem_of_getElem? (i := 644) (by decide +kernel)⟩
theorem lw_p25 : lw_okq (⟨"StreamCountsModel", "leads", "(IJIJ)Z"⟩, 17) := ⟨⟨by decide +kernel, by decide +kernel⟩, List.mem_of_getElem? (i := 462) (by decide +kernel), List.mem_of_getElem? (i := 648) (by decide +kernel), List.mem_of_getElem? (i := 649) (by decide +kernel)⟩
def lw_privs_2 : List (MethodName × Nat) := [(⟨"StreamCountsModel", "shortest", "(III)I"⟩, 17), (⟨"StreamCountsModel", "change", "(IIIJ)I"⟩, 17), (⟨"StreamCountsModel", "levelOf", "(IJ)I"⟩, 17), (⟨"StreamCountsModel", "isApart", "(II)Z"⟩, 17), (⟨"StreamCountsModel", "ranked", "(II)I"⟩, 17), (⟨"StreamCountsModel", "join", "(II)I"⟩, 17), (⟨"StreamCountsModel", "unite", "(II)V"⟩, 17), (⟨"StreamCountsModel", "pairs", "(I)I"⟩, 17), (⟨"StreamCountsModel", "ofSet", "(IJII)J"⟩, 17), (⟨"StreamCountsModel", "leads", "(IJIJ)Z"⟩, 17)]
theorem lw_r2 : ∀ q ∈ lw_privs_2, lw_okq q := List.forall_mem_cons.mpr ⟨lw_p16, List.forall_mem_cons.mpr ⟨lw_p17, List.forall_mem_cons.mpr ⟨lw_p18, List.forall_mem_cons.mpr ⟨lw_p19, List.forall_mem_cons.mpr ⟨lw_p20, List.forall_mem_cons.mpr ⟨lw_p21, List.forall_mem_cons.mpr ⟨lw_p22, List.forall_mem_cons.mpr ⟨lw_p23, List.forall_mem_cons.mpr ⟨lw_p24, List.forall_mem_cons.mpr ⟨lw_p25, fun _ h => absurd h List.not_mem_nil⟩⟩⟩⟩⟩⟩⟩⟩⟩⟩
def lw_privs : List (MethodName × Nat) := lw_privs_1 ++ (lw_privs_2)
def lw_tbl : List Cond := k2_sels lw_privs ++ tables_1
theorem lw_privs_ok : ∀ q ∈ lw_privs, lw_okq q := by
  show ∀ q ∈ lw_privs_1 ++ (lw_privs_2), lw_okq q
  exact List.forall_mem_append.mpr ⟨lw_r1, lw_r2⟩
end
section
def RX0 : String := "StreamCounts$Counters"
def TX0 : u_T := fun k => match k with
  | 0 => ("StreamCounts$Counters", "counts", "[I", true)
  | 1 => ("StreamCounts$Counters", "together", "[I", true)
  | 2 => ("StreamCounts$Counters", "nodes", "I", false)
  | 3 => ("StreamCounts$Counters", "slots", "I", false)
  | 4 => ("StreamCounts$Counters", "taken", "I", false)
  | _ => ("StreamCounts$Counters", "lost", "I", false)
def tyX0 : Nat → FieldType := fun k => match k with
  | 0 => .array .int
  | 1 => .array .int
  | 2 => .int
  | 3 => .int
  | 4 => .int
  | _ => .int
theorem nmX0 : ∀ a, a < 6 → ∀ b, b < 6 → a ≠ b → (TX0 a).2.1 ≠ (TX0 b).2.1 := by decide +kernel
theorem tyX0_ok : ∀ k, k < 6 → parseFieldDescriptor (TX0 k).2.2.1 = some (tyX0 k) := by decide +kernel
abbrev cX0_init : ByteArray := prog_2_method_1_code
def yX0_init : MethodName := ⟨RX0, "<init>", "()V"⟩
abbrev cX0_restart : ByteArray := prog_2_method_2_code
def yX0_restart : MethodName := ⟨RX0, "restart", "(II)V"⟩
abbrev cX0_count : ByteArray := prog_2_method_3_code
def yX0_count : MethodName := ⟨RX0, "count", "(I)V"⟩
abbrev cX0_putTogether : ByteArray := prog_2_method_4_code
def yX0_putTogether : MethodName := ⟨RX0, "putTogether", "(LStreamCounts$Counters;)Z"⟩
abbrev cX0_nodeAtPlace : ByteArray := prog_2_method_5_code
def yX0_nodeAtPlace : MethodName := ⟨RX0, "nodeAtPlace", "([II)I"⟩
abbrev cX0_greatest : ByteArray := prog_2_method_6_code
def yX0_greatest : MethodName := ⟨RX0, "greatest", "([IJ)I"⟩
abbrev cX0_lessen : ByteArray := prog_2_method_7_code
def yX0_lessen : MethodName := ⟨RX0, "lessen", "(I)V"⟩
def RX1 : String := "StreamCounts$Forest"
def TX1 : u_T := fun k => match k with
  | 0 => ("StreamCounts$Forest", "times", "[I", true)
  | 1 => ("StreamCounts$Forest", "keys", "[I", true)
  | 2 => ("StreamCounts$Forest", "leaders", "[I", true)
  | _ => ("StreamCounts$Forest", "size", "I", false)
def tyX1 : Nat → FieldType := fun k => match k with
  | 0 => .array .int
  | 1 => .array .int
  | 2 => .array .int
  | _ => .int
theorem nmX1 : ∀ a, a < 4 → ∀ b, b < 4 → a ≠ b → (TX1 a).2.1 ≠ (TX1 b).2.1 := by decide +kernel
theorem tyX1_ok : ∀ k, k < 4 → parseFieldDescriptor (TX1 k).2.2.1 = some (tyX1 k) := by decide +kernel
abbrev cX1_init : ByteArray := prog_3_method_1_code
def yX1_init : MethodName := ⟨RX1, "<init>", "()V"⟩
abbrev cX1_restart : ByteArray := prog_3_method_2_code
def yX1_restart : MethodName := ⟨RX1, "restart", "()V"⟩
abbrev cX1_accept : ByteArray := prog_3_method_3_code
def yX1_accept : MethodName := ⟨RX1, "accept", "(III)V"⟩
abbrev cX1_arcsAfter : ByteArray := prog_3_method_4_code
def yX1_arcsAfter : MethodName := ⟨RX1, "arcsAfter", "(I)I"⟩
abbrev cX1_leastOfPart : ByteArray := prog_3_method_5_code
def yX1_leastOfPart : MethodName := ⟨RX1, "leastOfPart", "(II)I"⟩
abbrev cX1_oldestBetween : ByteArray := prog_3_method_6_code
def yX1_oldestBetween : MethodName := ⟨RX1, "oldestBetween", "(II)I"⟩
abbrev cX1_drop : ByteArray := prog_3_method_7_code
def yX1_drop : MethodName := ⟨RX1, "drop", "(I)V"⟩
abbrev cX1_partAll : ByteArray := prog_3_method_8_code
def yX1_partAll : MethodName := ⟨RX1, "partAll", "()V"⟩
abbrev cX1_joinByArc : ByteArray := prog_3_method_9_code
def yX1_joinByArc : MethodName := ⟨RX1, "joinByArc", "(I)V"⟩
abbrev cX1_leaderOf : ByteArray := prog_3_method_10_code
def yX1_leaderOf : MethodName := ⟨RX1, "leaderOf", "(I)I"⟩
def RX2 : String := "StreamCounts$Matching"
def TX2 : u_T := fun k => match k with
  | 0 => ("StreamCounts$Matching", "mates", "[I", true)
  | _ => ("StreamCounts$Matching", "pairs", "I", false)
def tyX2 : Nat → FieldType := fun k => match k with
  | 0 => .array .int
  | _ => .int
theorem nmX2 : ∀ a, a < 2 → ∀ b, b < 2 → a ≠ b → (TX2 a).2.1 ≠ (TX2 b).2.1 := by decide +kernel
theorem tyX2_ok : ∀ k, k < 2 → parseFieldDescriptor (TX2 k).2.2.1 = some (tyX2 k) := by decide +kernel
abbrev cX2_init : ByteArray := prog_4_method_1_code
def yX2_init : MethodName := ⟨RX2, "<init>", "()V"⟩
abbrev cX2_restart : ByteArray := prog_4_method_2_code
def yX2_restart : MethodName := ⟨RX2, "restart", "()V"⟩
abbrev cX2_accept : ByteArray := prog_4_method_3_code
def yX2_accept : MethodName := ⟨RX2, "accept", "(II)V"⟩
def RX3 : String := "StreamCounts$Rows"
def TX3 : u_T := fun k => match k with
  | 0 => ("StreamCounts$Rows", "sums", "[J", true)
  | 1 => ("StreamCounts$Rows", "nodes", "I", false)
  | _ => ("StreamCounts$Rows", "seed", "J", false)
def tyX3 : Nat → FieldType := fun k => match k with
  | 0 => .array .long
  | 1 => .int
  | _ => .long
theorem nmX3 : ∀ a, a < 3 → ∀ b, b < 3 → a ≠ b → (TX3 a).2.1 ≠ (TX3 b).2.1 := by decide +kernel
theorem tyX3_ok : ∀ k, k < 3 → parseFieldDescriptor (TX3 k).2.2.1 = some (tyX3 k) := by decide +kernel
abbrev cX3_init : ByteArray := prog_5_method_1_code
def yX3_init : MethodName := ⟨RX3, "<init>", "()V"⟩
abbrev cX3_restart : ByteArray := prog_5_method_2_code
def yX3_restart : MethodName := ⟨RX3, "restart", "(IJ)V"⟩
abbrev cX3_placeOf : ByteArray := prog_5_method_3_code
def yX3_placeOf : MethodName := ⟨RX3, "placeOf", "(II)I"⟩
abbrev cX3_change : ByteArray := prog_5_method_4_code
def yX3_change : MethodName := ⟨RX3, "change", "(III)I"⟩
abbrev cX3_putTogether : ByteArray := prog_5_method_5_code
def yX3_putTogether : MethodName := ⟨RX3, "putTogether", "(LStreamCounts$Rows;)V"⟩
abbrev cX3_isAlike : ByteArray := prog_5_method_6_code
def yX3_isAlike : MethodName := ⟨RX3, "isAlike", "(LStreamCounts$Rows;)Z"⟩
abbrev cX3_keyOutOf : ByteArray := prog_5_method_7_code
def yX3_keyOutOf : MethodName := ⟨RX3, "keyOutOf", "(JI)I"⟩
abbrev cX3_isNothing : ByteArray := prog_5_method_8_code
def yX3_isNothing : MethodName := ⟨RX3, "isNothing", "(J)Z"⟩
abbrev cX3_sumOf : ByteArray := prog_5_method_9_code
def yX3_sumOf : MethodName := ⟨RX3, "sumOf", "(JII)J"⟩
abbrev cX3_addTo : ByteArray := prog_5_method_10_code
def yX3_addTo : MethodName := ⟨RX3, "addTo", "(IJI)V"⟩
abbrev cX3_levelOf : ByteArray := prog_5_method_11_code
def yX3_levelOf : MethodName := ⟨RX3, "levelOf", "(J)I"⟩
def RX4 : String := "StreamCounts$Stream"
def TX4 : u_T := fun k => match k with
  | 0 => ("StreamCounts$Stream", "counters", "LStreamCounts$Counters;", true)
  | 1 => ("StreamCounts$Stream", "forest", "LStreamCounts$Forest;", true)
  | 2 => ("StreamCounts$Stream", "thinned", "LStreamCounts$Thinned;", true)
  | 3 => ("StreamCounts$Stream", "matching", "LStreamCounts$Matching;", true)
  | 4 => ("StreamCounts$Stream", "rows", "LStreamCounts$Rows;", true)
  | 5 => ("StreamCounts$Stream", "nodes", "I", false)
  | 6 => ("StreamCounts$Stream", "slots", "I", false)
  | 7 => ("StreamCounts$Stream", "stretch", "I", false)
  | 8 => ("StreamCounts$Stream", "seed", "J", false)
  | _ => ("StreamCounts$Stream", "age", "I", false)
def tyX4 : Nat → FieldType := fun k => match k with
  | 0 => .object "StreamCounts$Counters"
  | 1 => .object "StreamCounts$Forest"
  | 2 => .object "StreamCounts$Thinned"
  | 3 => .object "StreamCounts$Matching"
  | 4 => .object "StreamCounts$Rows"
  | 5 => .int
  | 6 => .int
  | 7 => .int
  | 8 => .long
  | _ => .int
theorem nmX4 : ∀ a, a < 10 → ∀ b, b < 10 → a ≠ b → (TX4 a).2.1 ≠ (TX4 b).2.1 := by decide +kernel
theorem tyX4_ok : ∀ k, k < 10 → parseFieldDescriptor (TX4 k).2.2.1 = some (tyX4 k) := by decide +kernel
abbrev cX4_init : ByteArray := prog_6_method_1_code
def yX4_init : MethodName := ⟨RX4, "<init>", "()V"⟩
abbrev cX4_restart : ByteArray := prog_6_method_2_code
def yX4_restart : MethodName := ⟨RX4, "restart", "(IIIJ)V"⟩
abbrev cX4_accept : ByteArray := prog_6_method_3_code
def yX4_accept : MethodName := ⟨RX4, "accept", "(II)I"⟩
abbrev cX4_isApartFrom : ByteArray := prog_6_method_4_code
def yX4_isApartFrom : MethodName := ⟨RX4, "isApartFrom", "(LStreamCounts$Stream;)Z"⟩
def RX5 : String := "StreamCounts$Thinned"
def TX5 : u_T := fun k => match k with
  | 0 => ("StreamCounts$Thinned", "times", "[I", true)
  | 1 => ("StreamCounts$Thinned", "keys", "[I", true)
  | 2 => ("StreamCounts$Thinned", "neighbours", "[J", true)
  | 3 => ("StreamCounts$Thinned", "nodes", "I", false)
  | 4 => ("StreamCounts$Thinned", "stretch", "I", false)
  | _ => ("StreamCounts$Thinned", "size", "I", false)
def tyX5 : Nat → FieldType := fun k => match k with
  | 0 => .array .int
  | 1 => .array .int
  | 2 => .array .long
  | 3 => .int
  | 4 => .int
  | _ => .int
theorem nmX5 : ∀ a, a < 6 → ∀ b, b < 6 → a ≠ b → (TX5 a).2.1 ≠ (TX5 b).2.1 := by decide +kernel
theorem tyX5_ok : ∀ k, k < 6 → parseFieldDescriptor (TX5 k).2.2.1 = some (tyX5 k) := by decide +kernel
abbrev cX5_init : ByteArray := prog_7_method_1_code
def yX5_init : MethodName := ⟨RX5, "<init>", "()V"⟩
abbrev cX5_restart : ByteArray := prog_7_method_2_code
def yX5_restart : MethodName := ⟨RX5, "restart", "(II)V"⟩
abbrev cX5_accept : ByteArray := prog_7_method_3_code
def yX5_accept : MethodName := ⟨RX5, "accept", "(III)V"⟩
abbrev cX5_distance : ByteArray := prog_7_method_4_code
def yX5_distance : MethodName := ⟨RX5, "distance", "(III)I"⟩
abbrev cX5_neighboursOf : ByteArray := prog_7_method_5_code
def yX5_neighboursOf : MethodName := ⟨RX5, "neighboursOf", "(J)J"⟩
def RX6 : String := "StreamCounts"
def TX6 : u_T := fun k => match k with
  | 0 => ("StreamCounts", "streams", "[LStreamCounts$Stream;", true)
  | _ => ("StreamCounts", "latestLevel", "I", false)
def tyX6 : Nat → FieldType := fun k => match k with
  | 0 => .array (.object "StreamCounts$Stream")
  | _ => .int
theorem nmX6 : ∀ a, a < 2 → ∀ b, b < 2 → a ≠ b → (TX6 a).2.1 ≠ (TX6 b).2.1 := by decide +kernel
theorem tyX6_ok : ∀ k, k < 2 → parseFieldDescriptor (TX6 k).2.2.1 = some (tyX6 k) := by decide +kernel
abbrev cX6_init : ByteArray := prog_1_method_1_code
def yX6_init : MethodName := ⟨RX6, "<init>", "()V"⟩
abbrev cX6_begin : ByteArray := prog_1_method_2_code
def yX6_begin : MethodName := ⟨RX6, "begin", "(IIIIJ)I"⟩
abbrev cX6_add : ByteArray := prog_1_method_3_code
def yX6_add : MethodName := ⟨RX6, "add", "(III)I"⟩
abbrev cX6_take : ByteArray := prog_1_method_4_code
def yX6_take : MethodName := ⟨RX6, "take", "(III)I"⟩
abbrev cX6_merge : ByteArray := prog_1_method_5_code
def yX6_merge : MethodName := ⟨RX6, "merge", "(II)I"⟩
abbrev cX6_told : ByteArray := prog_1_method_6_code
def yX6_told : MethodName := ⟨RX6, "told", "(II)I"⟩
abbrev cX6_span : ByteArray := prog_1_method_7_code
def yX6_span : MethodName := ⟨RX6, "span", "(III)I"⟩
abbrev cX6_slot : ByteArray := prog_1_method_8_code
def yX6_slot : MethodName := ⟨RX6, "slot", "(III)I"⟩
abbrev cX6_parts : ByteArray := prog_1_method_9_code
def yX6_parts : MethodName := ⟨RX6, "parts", "(II)I"⟩
abbrev cX6_part : ByteArray := prog_1_method_10_code
def yX6_part : MethodName := ⟨RX6, "part", "(III)I"⟩
abbrev cX6_tree : ByteArray := prog_1_method_11_code
def yX6_tree : MethodName := ⟨RX6, "tree", "(III)I"⟩
abbrev cX6_since : ByteArray := prog_1_method_12_code
def yX6_since : MethodName := ⟨RX6, "since", "(III)I"⟩
abbrev cX6_far : ByteArray := prog_1_method_13_code
def yX6_far : MethodName := ⟨RX6, "far", "(III)I"⟩
abbrev cX6_kept : ByteArray := prog_1_method_14_code
def yX6_kept : MethodName := ⟨RX6, "kept", "(III)I"⟩
abbrev cX6_mate : ByteArray := prog_1_method_15_code
def yX6_mate : MethodName := ⟨RX6, "mate", "(II)I"⟩
abbrev cX6_sum : ByteArray := prog_1_method_16_code
def yX6_sum : MethodName := ⟨RX6, "sum", "(IIII)J"⟩
abbrev cX6_out : ByteArray := prog_1_method_17_code
def yX6_out : MethodName := ⟨RX6, "out", "(IJ)I"⟩
abbrev cX6_level : ByteArray := prog_1_method_18_code
def yX6_level : MethodName := ⟨RX6, "level", "()I"⟩
abbrev cX6_same : ByteArray := prog_1_method_19_code
def yX6_same : MethodName := ⟨RX6, "same", "(II)I"⟩
abbrev cX6_isStretch : ByteArray := prog_1_method_20_code
def yX6_isStretch : MethodName := ⟨RX6, "isStretch", "(I)Z"⟩
abbrev cX6_noStream : ByteArray := prog_1_method_21_code
def yX6_noStream : MethodName := ⟨RX6, "noStream", "(I)Z"⟩
abbrev cX6_noNode : ByteArray := prog_1_method_22_code
def yX6_noNode : MethodName := ⟨RX6, "noNode", "(II)Z"⟩
abbrev cX6_noArc : ByteArray := prog_1_method_23_code
def yX6_noArc : MethodName := ⟨RX6, "noArc", "(III)Z"⟩
abbrev cX6_keyOf : ByteArray := prog_1_method_24_code
def yX6_keyOf : MethodName := ⟨RX6, "keyOf", "(II)I"⟩
abbrev cX6_lesserNode : ByteArray := prog_1_method_25_code
def yX6_lesserNode : MethodName := ⟨RX6, "lesserNode", "(I)I"⟩
abbrev cX6_greaterNode : ByteArray := prog_1_method_26_code
def yX6_greaterNode : MethodName := ⟨RX6, "greaterNode", "(I)I"⟩
abbrev cX6_holds : ByteArray := prog_1_method_27_code
def yX6_holds : MethodName := ⟨RX6, "holds", "(JI)Z"⟩
def RX7 : String := "StreamCountsModel"
def TX7 : u_T := fun k => match k with
  | 0 => ("StreamCountsModel", "nodes", "[I", true)
  | 1 => ("StreamCountsModel", "slots", "[I", true)
  | 2 => ("StreamCountsModel", "stretch", "[I", true)
  | 3 => ("StreamCountsModel", "seed", "[J", true)
  | 4 => ("StreamCountsModel", "age", "[I", true)
  | 5 => ("StreamCountsModel", "lost", "[I", true)
  | 6 => ("StreamCountsModel", "low", "[I", true)
  | 7 => ("StreamCountsModel", "high", "[I", true)
  | 8 => ("StreamCountsModel", "counts", "[I", true)
  | 9 => ("StreamCountsModel", "mates", "[I", true)
  | 10 => ("StreamCountsModel", "sums", "[J", true)
  | 11 => ("StreamCountsModel", "thin", "[I", true)
  | 12 => ("StreamCountsModel", "thins", "[I", true)
  | 13 => ("StreamCountsModel", "lastLevel", "I", false)
  | 14 => ("StreamCountsModel", "least", "[I", true)
  | 15 => ("StreamCountsModel", "joins", "[Z", true)
  | _ => ("StreamCountsModel", "ways", "[I", true)
def tyX7 : Nat → FieldType := fun k => match k with
  | 0 => .array .int
  | 1 => .array .int
  | 2 => .array .int
  | 3 => .array .long
  | 4 => .array .int
  | 5 => .array .int
  | 6 => .array .int
  | 7 => .array .int
  | 8 => .array .int
  | 9 => .array .int
  | 10 => .array .long
  | 11 => .array .int
  | 12 => .array .int
  | 13 => .int
  | 14 => .array .int
  | 15 => .array .boolean
  | _ => .array .int
theorem nmX7 : ∀ a, a < 17 → ∀ b, b < 17 → a ≠ b → (TX7 a).2.1 ≠ (TX7 b).2.1 := by decide +kernel
theorem tyX7_ok : ∀ k, k < 17 → parseFieldDescriptor (TX7 k).2.2.1 = some (tyX7 k) := by decide +kernel
abbrev cX7_init : ByteArray := prog_9_method_1_code
def yX7_init : MethodName := ⟨RX7, "<init>", "()V"⟩
abbrev cX7_isStream : ByteArray := prog_9_method_2_code
def yX7_isStream : MethodName := ⟨RX7, "isStream", "(I)Z"⟩
abbrev cX7_isNode : ByteArray := prog_9_method_3_code
def yX7_isNode : MethodName := ⟨RX7, "isNode", "(II)Z"⟩
abbrev cX7_begin : ByteArray := prog_9_method_4_code
def yX7_begin : MethodName := ⟨RX7, "begin", "(IIIIJ)I"⟩
abbrev cX7_taken : ByteArray := prog_9_method_5_code
def yX7_taken : MethodName := ⟨RX7, "taken", "(I)I"⟩
abbrev cX7_less : ByteArray := prog_9_method_6_code
def yX7_less : MethodName := ⟨RX7, "less", "(II)V"⟩
abbrev cX7_count : ByteArray := prog_9_method_7_code
def yX7_count : MethodName := ⟨RX7, "count", "(II)V"⟩
abbrev cX7_add : ByteArray := prog_9_method_8_code
def yX7_add : MethodName := ⟨RX7, "add", "(III)I"⟩
abbrev cX7_levelOf : ByteArray := prog_9_method_9_code
def yX7_levelOf : MethodName := ⟨RX7, "levelOf", "(IJ)I"⟩
abbrev cX7_change : ByteArray := prog_9_method_10_code
def yX7_change : MethodName := ⟨RX7, "change", "(IIIJ)I"⟩
abbrev cX7_take : ByteArray := prog_9_method_11_code
def yX7_take : MethodName := ⟨RX7, "take", "(III)I"⟩
abbrev cX7_isApart : ByteArray := prog_9_method_12_code
def yX7_isApart : MethodName := ⟨RX7, "isApart", "(II)Z"⟩
abbrev cX7_merge : ByteArray := prog_9_method_13_code
def yX7_merge : MethodName := ⟨RX7, "merge", "(II)I"⟩
abbrev cX7_ranked : ByteArray := prog_9_method_14_code
def yX7_ranked : MethodName := ⟨RX7, "ranked", "(II)I"⟩
abbrev cX7_told : ByteArray := prog_9_method_15_code
def yX7_told : MethodName := ⟨RX7, "told", "(II)I"⟩
abbrev cX7_pairs : ByteArray := prog_9_method_16_code
def yX7_pairs : MethodName := ⟨RX7, "pairs", "(I)I"⟩
abbrev cX7_span : ByteArray := prog_9_method_17_code
def yX7_span : MethodName := ⟨RX7, "span", "(III)I"⟩
abbrev cX7_slot : ByteArray := prog_9_method_18_code
def yX7_slot : MethodName := ⟨RX7, "slot", "(III)I"⟩
abbrev cX7_join : ByteArray := prog_9_method_19_code
def yX7_join : MethodName := ⟨RX7, "join", "(II)I"⟩
abbrev cX7_unite : ByteArray := prog_9_method_20_code
def yX7_unite : MethodName := ⟨RX7, "unite", "(II)V"⟩
abbrev cX7_parts : ByteArray := prog_9_method_21_code
def yX7_parts : MethodName := ⟨RX7, "parts", "(II)I"⟩
abbrev cX7_part : ByteArray := prog_9_method_22_code
def yX7_part : MethodName := ⟨RX7, "part", "(III)I"⟩
abbrev cX7_tree : ByteArray := prog_9_method_23_code
def yX7_tree : MethodName := ⟨RX7, "tree", "(III)I"⟩
abbrev cX7_since : ByteArray := prog_9_method_24_code
def yX7_since : MethodName := ⟨RX7, "since", "(III)I"⟩
abbrev cX7_shortest : ByteArray := prog_9_method_25_code
def yX7_shortest : MethodName := ⟨RX7, "shortest", "(III)I"⟩
abbrev cX7_far : ByteArray := prog_9_method_26_code
def yX7_far : MethodName := ⟨RX7, "far", "(III)I"⟩
abbrev cX7_kept : ByteArray := prog_9_method_27_code
def yX7_kept : MethodName := ⟨RX7, "kept", "(III)I"⟩
abbrev cX7_mate : ByteArray := prog_9_method_28_code
def yX7_mate : MethodName := ⟨RX7, "mate", "(II)I"⟩
abbrev cX7_sum : ByteArray := prog_9_method_29_code
def yX7_sum : MethodName := ⟨RX7, "sum", "(IIII)J"⟩
abbrev cX7_ofSet : ByteArray := prog_9_method_30_code
def yX7_ofSet : MethodName := ⟨RX7, "ofSet", "(IJII)J"⟩
abbrev cX7_out : ByteArray := prog_9_method_31_code
def yX7_out : MethodName := ⟨RX7, "out", "(IJ)I"⟩
abbrev cX7_leads : ByteArray := prog_9_method_32_code
def yX7_leads : MethodName := ⟨RX7, "leads", "(IJIJ)Z"⟩
abbrev cX7_level : ByteArray := prog_9_method_33_code
def yX7_level : MethodName := ⟨RX7, "level", "()I"⟩
abbrev cX7_same : ByteArray := prog_9_method_34_code
def yX7_same : MethodName := ⟨RX7, "same", "(II)I"⟩
def RJ9 : String := "java/lang/Math"
def TJ9 : u_T := fun k => match k with
  | _ => ("", "", "", false)
def tyJ9 : Nat → FieldType := fun k => match k with
  | _ => .int
theorem nmJ9 : ∀ a, a < 0 → ∀ b, b < 0 → a ≠ b → (TJ9 a).2.1 ≠ (TJ9 b).2.1 := by decide +kernel
theorem tyJ9_ok : ∀ k, k < 0 → parseFieldDescriptor (TJ9 k).2.2.1 = some (tyJ9 k) := by decide +kernel
abbrev cJ9_max_7cf53 : ByteArray := prog_10_method_65_code
def yJ9_max_7cf53 : MethodName := ⟨RJ9, "max", "(II)I"⟩
abbrev cJ9_min_7cf53 : ByteArray := prog_10_method_69_code
def yJ9_min_7cf53 : MethodName := ⟨RJ9, "min", "(II)I"⟩
def RJ10 : String := "java/lang/System"
def TJ10 : u_T := fun k => match k with
  | _ => ("", "", "", false)
def tyJ10 : Nat → FieldType := fun k => match k with
  | _ => .int
theorem nmJ10 : ∀ a, a < 0 → ∀ b, b < 0 → a ≠ b → (TJ10 a).2.1 ≠ (TJ10 b).2.1 := by decide +kernel
theorem tyJ10_ok : ∀ k, k < 0 → parseFieldDescriptor (TJ10 k).2.2.1 = some (tyJ10 k) := by decide +kernel
def RJ7 : String := "java/util/Arrays"
def TJ7 : u_T := fun k => match k with
  | _ => ("", "", "", false)
def tyJ7 : Nat → FieldType := fun k => match k with
  | _ => .int
theorem nmJ7 : ∀ a, a < 0 → ∀ b, b < 0 → a ≠ b → (TJ7 a).2.1 ≠ (TJ7 b).2.1 := by decide +kernel
theorem tyJ7_ok : ∀ k, k < 0 → parseFieldDescriptor (TJ7 k).2.2.1 = some (tyJ7 k) := by decide +kernel
abbrev cJ7_fill_d0a16 : ByteArray := prog_12_method_101_code
def yJ7_fill_d0a16 : MethodName := ⟨RJ7, "fill", "([JJ)V"⟩
abbrev cJ7_fill_53178 : ByteArray := prog_12_method_103_code
def yJ7_fill_53178 : MethodName := ⟨RJ7, "fill", "([II)V"⟩
def RL : String := "StreamCountsLaw"
abbrev cL_law : ByteArray := code
def yL_law : MethodName := ⟨RL, "law", "([I)Z"⟩
theorem dX0_init_0 : decode cX0_init 0 = .ok (.aload_n 0, 1) := by decide +kernel
theorem dX0_init_1 : decode cX0_init 1 = .ok (.invokespecial 3, 3) := by decide +kernel
theorem dX0_init_4 : decode cX0_init 4 = .ok (.aload_n 0, 1) := by decide +kernel
theorem dX0_init_5 : decode cX0_init 5 = .ok (.bipush 64, 2) := by decide +kernel
theorem dX0_init_7 : decode cX0_init 7 = .ok (.newarray .int, 2) := by decide +kernel
theorem dX0_init_9 : decode cX0_init 9 = .ok (.putfield 9, 3) := by decide +kernel
theorem dX0_init_12 : decode cX0_init 12 = .ok (.aload_n 0, 1) := by decide +kernel
theorem dX0_init_13 : decode cX0_init 13 = .ok (.bipush 64, 2) := by decide +kernel
theorem dX0_init_15 : decode cX0_init 15 = .ok (.newarray .int, 2) := by decide +kernel
theorem dX0_init_17 : decode cX0_init 17 = .ok (.putfield 15, 3) := by decide +kernel
theorem dX0_init_20 : decode cX0_init 20 = .ok (.return_, 1) := by decide +kernel
theorem dX0_restart_0 : decode cX0_restart 0 = .ok (.aload_n 0, 1) := by decide +kernel
theorem dX0_restart_1 : decode cX0_restart 1 = .ok (.iload_n 1, 1) := by decide +kernel
theorem dX0_restart_2 : decode cX0_restart 2 = .ok (.putfield 18, 3) := by decide +kernel
theorem dX0_restart_5 : decode cX0_restart 5 = .ok (.aload_n 0, 1) := by decide +kernel
theorem dX0_restart_6 : decode cX0_restart 6 = .ok (.iload_n 2, 1) := by decide +kernel
theorem dX0_restart_7 : decode cX0_restart 7 = .ok (.putfield 22, 3) := by decide +kernel
theorem dX0_restart_10 : decode cX0_restart 10 = .ok (.aload_n 0, 1) := by decide +kernel
theorem dX0_restart_11 : decode cX0_restart 11 = .ok (.iconst 0, 1) := by decide +kernel
theorem dX0_restart_12 : decode cX0_restart 12 = .ok (.putfield 25, 3) := by decide +kernel
theorem dX0_restart_15 : decode cX0_restart 15 = .ok (.aload_n 0, 1) := by decide +kernel
theorem dX0_restart_16 : decode cX0_restart 16 = .ok (.iconst 0, 1) := by decide +kernel
theorem dX0_restart_17 : decode cX0_restart 17 = .ok (.putfield 28, 3) := by decide +kernel
theorem dX0_restart_20 : decode cX0_restart 20 = .ok (.aload_n 0, 1) := by decide +kernel
theorem dX0_restart_21 : decode cX0_restart 21 = .ok (.getfield 9, 3) := by decide +kernel
theorem dX0_restart_24 : decode cX0_restart 24 = .ok (.iconst 0, 1) := by decide +kernel
theorem dX0_restart_25 : decode cX0_restart 25 = .ok (.invokestatic 31, 3) := by decide +kernel
theorem dX0_restart_28 : decode cX0_restart 28 = .ok (.return_, 1) := by decide +kernel
theorem dX0_count_0 : decode cX0_count 0 = .ok (.aload_n 0, 1) := by decide +kernel
theorem dX0_count_1 : decode cX0_count 1 = .ok (.getfield 9, 3) := by decide +kernel
theorem dX0_count_4 : decode cX0_count 4 = .ok (.iload_n 1, 1) := by decide +kernel
theorem dX0_count_5 : decode cX0_count 5 = .ok (.iaload, 1) := by decide +kernel
theorem dX0_count_6 : decode cX0_count 6 = .ok (.ifCond .le 16, 3) := by decide +kernel
theorem dX0_count_9 : decode cX0_count 9 = .ok (.aload_n 0, 1) := by decide +kernel
theorem dX0_count_10 : decode cX0_count 10 = .ok (.getfield 9, 3) := by decide +kernel
theorem dX0_count_13 : decode cX0_count 13 = .ok (.iload_n 1, 1) := by decide +kernel
theorem dX0_count_14 : decode cX0_count 14 = .ok (.dup2, 1) := by decide +kernel
theorem dX0_count_15 : decode cX0_count 15 = .ok (.iaload, 1) := by decide +kernel
theorem dX0_count_16 : decode cX0_count 16 = .ok (.iconst 1, 1) := by decide +kernel
theorem dX0_count_17 : decode cX0_count 17 = .ok (.iadd, 1) := by decide +kernel
theorem dX0_count_18 : decode cX0_count 18 = .ok (.iastore, 1) := by decide +kernel
theorem dX0_count_19 : decode cX0_count 19 = .ok (.goto 49, 3) := by decide +kernel
theorem dX0_count_22 : decode cX0_count 22 = .ok (.aload_n 0, 1) := by decide +kernel
theorem dX0_count_23 : decode cX0_count 23 = .ok (.getfield 25, 3) := by decide +kernel
theorem dX0_count_26 : decode cX0_count 26 = .ok (.aload_n 0, 1) := by decide +kernel
theorem dX0_count_27 : decode cX0_count 27 = .ok (.getfield 22, 3) := by decide +kernel
theorem dX0_count_30 : decode cX0_count 30 = .ok (.if_icmp .ge 23, 3) := by decide +kernel
theorem dX0_count_33 : decode cX0_count 33 = .ok (.aload_n 0, 1) := by decide +kernel
theorem dX0_count_34 : decode cX0_count 34 = .ok (.getfield 9, 3) := by decide +kernel
theorem dX0_count_37 : decode cX0_count 37 = .ok (.iload_n 1, 1) := by decide +kernel
theorem dX0_count_38 : decode cX0_count 38 = .ok (.iconst 1, 1) := by decide +kernel
theorem dX0_count_39 : decode cX0_count 39 = .ok (.iastore, 1) := by decide +kernel
theorem dX0_count_40 : decode cX0_count 40 = .ok (.aload_n 0, 1) := by decide +kernel
theorem dX0_count_41 : decode cX0_count 41 = .ok (.dup, 1) := by decide +kernel
theorem dX0_count_42 : decode cX0_count 42 = .ok (.getfield 25, 3) := by decide +kernel
theorem dX0_count_45 : decode cX0_count 45 = .ok (.iconst 1, 1) := by decide +kernel
theorem dX0_count_46 : decode cX0_count 46 = .ok (.iadd, 1) := by decide +kernel
theorem dX0_count_47 : decode cX0_count 47 = .ok (.putfield 25, 3) := by decide +kernel
theorem dX0_count_50 : decode cX0_count 50 = .ok (.goto 18, 3) := by decide +kernel
theorem dX0_count_53 : decode cX0_count 53 = .ok (.aload_n 0, 1) := by decide +kernel
theorem dX0_count_54 : decode cX0_count 54 = .ok (.iconst 1, 1) := by decide +kernel
theorem dX0_count_55 : decode cX0_count 55 = .ok (.invokevirtual 37, 3) := by decide +kernel
theorem dX0_count_58 : decode cX0_count 58 = .ok (.aload_n 0, 1) := by decide +kernel
theorem dX0_count_59 : decode cX0_count 59 = .ok (.dup, 1) := by decide +kernel
theorem dX0_count_60 : decode cX0_count 60 = .ok (.getfield 28, 3) := by decide +kernel
theorem dX0_count_63 : decode cX0_count 63 = .ok (.iconst 1, 1) := by decide +kernel
theorem dX0_count_64 : decode cX0_count 64 = .ok (.iadd, 1) := by decide +kernel
theorem dX0_count_65 : decode cX0_count 65 = .ok (.putfield 28, 3) := by decide +kernel
theorem dX0_count_68 : decode cX0_count 68 = .ok (.return_, 1) := by decide +kernel
theorem dX0_putTogether_0 : decode cX0_putTogether 0 = .ok (.iconst 0, 1) := by decide +kernel
theorem dX0_putTogether_1 : decode cX0_putTogether 1 = .ok (.istore_n 2, 1) := by decide +kernel
theorem dX0_putTogether_2 : decode cX0_putTogether 2 = .ok (.iload_n 2, 1) := by decide +kernel
theorem dX0_putTogether_3 : decode cX0_putTogether 3 = .ok (.aload_n 0, 1) := by decide +kernel
theorem dX0_putTogether_4 : decode cX0_putTogether 4 = .ok (.getfield 18, 3) := by decide +kernel
theorem dX0_putTogether_7 : decode cX0_putTogether 7 = .ok (.if_icmp .ge 43, 3) := by decide +kernel
theorem dX0_putTogether_10 : decode cX0_putTogether 10 = .ok (.aload_n 0, 1) := by decide +kernel
theorem dX0_putTogether_11 : decode cX0_putTogether 11 = .ok (.getfield 9, 3) := by decide +kernel
theorem dX0_putTogether_14 : decode cX0_putTogether 14 = .ok (.iload_n 2, 1) := by decide +kernel
theorem dX0_putTogether_15 : decode cX0_putTogether 15 = .ok (.iaload, 1) := by decide +kernel
theorem dX0_putTogether_16 : decode cX0_putTogether 16 = .ok (.i2l, 1) := by decide +kernel
theorem dX0_putTogether_17 : decode cX0_putTogether 17 = .ok (.aload_n 1, 1) := by decide +kernel
theorem dX0_putTogether_18 : decode cX0_putTogether 18 = .ok (.getfield 9, 3) := by decide +kernel
theorem dX0_putTogether_21 : decode cX0_putTogether 21 = .ok (.iload_n 2, 1) := by decide +kernel
theorem dX0_putTogether_22 : decode cX0_putTogether 22 = .ok (.iaload, 1) := by decide +kernel
theorem dX0_putTogether_23 : decode cX0_putTogether 23 = .ok (.i2l, 1) := by decide +kernel
theorem dX0_putTogether_24 : decode cX0_putTogether 24 = .ok (.ladd, 1) := by decide +kernel
theorem dX0_putTogether_25 : decode cX0_putTogether 25 = .ok (.lstore_n 3, 1) := by decide +kernel
theorem dX0_putTogether_26 : decode cX0_putTogether 26 = .ok (.lload_n 3, 1) := by decide +kernel
theorem dX0_putTogether_27 : decode cX0_putTogether 27 = .ok (.ldc2_w 41, 3) := by decide +kernel
theorem dX0_putTogether_30 : decode cX0_putTogether 30 = .ok (.lcmp, 1) := by decide +kernel
theorem dX0_putTogether_31 : decode cX0_putTogether 31 = .ok (.ifCond .le 5, 3) := by decide +kernel
theorem dX0_putTogether_34 : decode cX0_putTogether 34 = .ok (.iconst 0, 1) := by decide +kernel
theorem dX0_putTogether_35 : decode cX0_putTogether 35 = .ok (.ireturn, 1) := by decide +kernel
theorem dX0_putTogether_36 : decode cX0_putTogether 36 = .ok (.aload_n 0, 1) := by decide +kernel
theorem dX0_putTogether_37 : decode cX0_putTogether 37 = .ok (.getfield 15, 3) := by decide +kernel
theorem dX0_putTogether_40 : decode cX0_putTogether 40 = .ok (.iload_n 2, 1) := by decide +kernel
theorem dX0_putTogether_41 : decode cX0_putTogether 41 = .ok (.lload_n 3, 1) := by decide +kernel
theorem dX0_putTogether_42 : decode cX0_putTogether 42 = .ok (.l2i, 1) := by decide +kernel
theorem dX0_putTogether_43 : decode cX0_putTogether 43 = .ok (.iastore, 1) := by decide +kernel
theorem dX0_putTogether_44 : decode cX0_putTogether 44 = .ok (.iinc 2 1, 3) := by decide +kernel
theorem dX0_putTogether_47 : decode cX0_putTogether 47 = .ok (.goto (-45), 3) := by decide +kernel
theorem dX0_putTogether_50 : decode cX0_putTogether 50 = .ok (.aload_n 0, 1) := by decide +kernel
theorem dX0_putTogether_51 : decode cX0_putTogether 51 = .ok (.aload_n 0, 1) := by decide +kernel
theorem dX0_putTogether_52 : decode cX0_putTogether 52 = .ok (.getfield 15, 3) := by decide +kernel
theorem dX0_putTogether_55 : decode cX0_putTogether 55 = .ok (.aload_n 0, 1) := by decide +kernel
theorem dX0_putTogether_56 : decode cX0_putTogether 56 = .ok (.getfield 22, 3) := by decide +kernel
theorem dX0_putTogether_59 : decode cX0_putTogether 59 = .ok (.invokevirtual 43, 3) := by decide +kernel
theorem dX0_putTogether_62 : decode cX0_putTogether 62 = .ok (.istore_n 2, 1) := by decide +kernel
theorem dX0_putTogether_63 : decode cX0_putTogether 63 = .ok (.iload_n 2, 1) := by decide +kernel
theorem dX0_putTogether_64 : decode cX0_putTogether 64 = .ok (.bipush (-2), 2) := by decide +kernel
theorem dX0_putTogether_66 : decode cX0_putTogether 66 = .ok (.if_icmp .ne 7, 3) := by decide +kernel
theorem dX0_putTogether_69 : decode cX0_putTogether 69 = .ok (.iconst 0, 1) := by decide +kernel
theorem dX0_putTogether_70 : decode cX0_putTogether 70 = .ok (.goto 9, 3) := by decide +kernel
theorem dX0_putTogether_73 : decode cX0_putTogether 73 = .ok (.aload_n 0, 1) := by decide +kernel
theorem dX0_putTogether_74 : decode cX0_putTogether 74 = .ok (.getfield 15, 3) := by decide +kernel
theorem dX0_putTogether_77 : decode cX0_putTogether 77 = .ok (.iload_n 2, 1) := by decide +kernel
theorem dX0_putTogether_78 : decode cX0_putTogether 78 = .ok (.iaload, 1) := by decide +kernel
theorem dX0_putTogether_79 : decode cX0_putTogether 79 = .ok (.istore_n 3, 1) := by decide +kernel
theorem dX0_putTogether_80 : decode cX0_putTogether 80 = .ok (.aload_n 0, 1) := by decide +kernel
theorem dX0_putTogether_81 : decode cX0_putTogether 81 = .ok (.getfield 28, 3) := by decide +kernel
theorem dX0_putTogether_84 : decode cX0_putTogether 84 = .ok (.i2l, 1) := by decide +kernel
theorem dX0_putTogether_85 : decode cX0_putTogether 85 = .ok (.aload_n 1, 1) := by decide +kernel
theorem dX0_putTogether_86 : decode cX0_putTogether 86 = .ok (.getfield 28, 3) := by decide +kernel
theorem dX0_putTogether_89 : decode cX0_putTogether 89 = .ok (.i2l, 1) := by decide +kernel
theorem dX0_putTogether_90 : decode cX0_putTogether 90 = .ok (.ladd, 1) := by decide +kernel
theorem dX0_putTogether_91 : decode cX0_putTogether 91 = .ok (.iload_n 3, 1) := by decide +kernel
theorem dX0_putTogether_92 : decode cX0_putTogether 92 = .ok (.i2l, 1) := by decide +kernel
theorem dX0_putTogether_93 : decode cX0_putTogether 93 = .ok (.ladd, 1) := by decide +kernel
theorem dX0_putTogether_94 : decode cX0_putTogether 94 = .ok (.lstore 4, 2) := by decide +kernel
theorem dX0_putTogether_96 : decode cX0_putTogether 96 = .ok (.lload 4, 2) := by decide +kernel
theorem dX0_putTogether_98 : decode cX0_putTogether 98 = .ok (.ldc2_w 41, 3) := by decide +kernel
theorem dX0_putTogether_101 : decode cX0_putTogether 101 = .ok (.lcmp, 1) := by decide +kernel
theorem dX0_putTogether_102 : decode cX0_putTogether 102 = .ok (.ifCond .le 5, 3) := by decide +kernel
theorem dX0_putTogether_105 : decode cX0_putTogether 105 = .ok (.iconst 0, 1) := by decide +kernel
theorem dX0_putTogether_106 : decode cX0_putTogether 106 = .ok (.ireturn, 1) := by decide +kernel
theorem dX0_putTogether_107 : decode cX0_putTogether 107 = .ok (.aload_n 0, 1) := by decide +kernel
theorem dX0_putTogether_108 : decode cX0_putTogether 108 = .ok (.getfield 15, 3) := by decide +kernel
theorem dX0_putTogether_111 : decode cX0_putTogether 111 = .ok (.iconst 0, 1) := by decide +kernel
theorem dX0_putTogether_112 : decode cX0_putTogether 112 = .ok (.aload_n 0, 1) := by decide +kernel
theorem dX0_putTogether_113 : decode cX0_putTogether 113 = .ok (.getfield 9, 3) := by decide +kernel
theorem dX0_putTogether_116 : decode cX0_putTogether 116 = .ok (.iconst 0, 1) := by decide +kernel
theorem dX0_putTogether_117 : decode cX0_putTogether 117 = .ok (.aload_n 0, 1) := by decide +kernel
theorem dX0_putTogether_118 : decode cX0_putTogether 118 = .ok (.getfield 18, 3) := by decide +kernel
theorem dX0_putTogether_121 : decode cX0_putTogether 121 = .ok (.invokestatic 47, 3) := by decide +kernel
theorem dX0_putTogether_124 : decode cX0_putTogether 124 = .ok (.aload_n 0, 1) := by decide +kernel
theorem dX0_putTogether_125 : decode cX0_putTogether 125 = .ok (.lload 4, 2) := by decide +kernel
theorem dX0_putTogether_127 : decode cX0_putTogether 127 = .ok (.l2i, 1) := by decide +kernel
theorem dX0_putTogether_128 : decode cX0_putTogether 128 = .ok (.putfield 28, 3) := by decide +kernel
theorem dX0_putTogether_131 : decode cX0_putTogether 131 = .ok (.aload_n 0, 1) := by decide +kernel
theorem dX0_putTogether_132 : decode cX0_putTogether 132 = .ok (.iload_n 3, 1) := by decide +kernel
theorem dX0_putTogether_133 : decode cX0_putTogether 133 = .ok (.invokevirtual 37, 3) := by decide +kernel
theorem dX0_putTogether_136 : decode cX0_putTogether 136 = .ok (.iconst 1, 1) := by decide +kernel
theorem dX0_putTogether_137 : decode cX0_putTogether 137 = .ok (.ireturn, 1) := by decide +kernel
theorem dX0_nodeAtPlace_0 : decode cX0_nodeAtPlace 0 = .ok (.lconst 0, 1) := by decide +kernel
theorem dX0_nodeAtPlace_1 : decode cX0_nodeAtPlace 1 = .ok (.lstore_n 3, 1) := by decide +kernel
theorem dX0_nodeAtPlace_2 : decode cX0_nodeAtPlace 2 = .ok (.bipush (-2), 2) := by decide +kernel
theorem dX0_nodeAtPlace_4 : decode cX0_nodeAtPlace 4 = .ok (.istore 5, 2) := by decide +kernel
theorem dX0_nodeAtPlace_6 : decode cX0_nodeAtPlace 6 = .ok (.iconst 0, 1) := by decide +kernel
theorem dX0_nodeAtPlace_7 : decode cX0_nodeAtPlace 7 = .ok (.istore 6, 2) := by decide +kernel
theorem dX0_nodeAtPlace_9 : decode cX0_nodeAtPlace 9 = .ok (.iload 6, 2) := by decide +kernel
theorem dX0_nodeAtPlace_11 : decode cX0_nodeAtPlace 11 = .ok (.iload_n 2, 1) := by decide +kernel
theorem dX0_nodeAtPlace_12 : decode cX0_nodeAtPlace 12 = .ok (.if_icmp .gt 34, 3) := by decide +kernel
theorem dX0_nodeAtPlace_15 : decode cX0_nodeAtPlace 15 = .ok (.aload_n 0, 1) := by decide +kernel
theorem dX0_nodeAtPlace_16 : decode cX0_nodeAtPlace 16 = .ok (.aload_n 1, 1) := by decide +kernel
theorem dX0_nodeAtPlace_17 : decode cX0_nodeAtPlace 17 = .ok (.lload_n 3, 1) := by decide +kernel
theorem dX0_nodeAtPlace_18 : decode cX0_nodeAtPlace 18 = .ok (.invokevirtual 53, 3) := by decide +kernel
theorem dX0_nodeAtPlace_21 : decode cX0_nodeAtPlace 21 = .ok (.istore 5, 2) := by decide +kernel
theorem dX0_nodeAtPlace_23 : decode cX0_nodeAtPlace 23 = .ok (.iload 5, 2) := by decide +kernel
theorem dX0_nodeAtPlace_25 : decode cX0_nodeAtPlace 25 = .ok (.bipush (-2), 2) := by decide +kernel
theorem dX0_nodeAtPlace_27 : decode cX0_nodeAtPlace 27 = .ok (.if_icmp .ne 6, 3) := by decide +kernel
theorem dX0_nodeAtPlace_30 : decode cX0_nodeAtPlace 30 = .ok (.bipush (-2), 2) := by decide +kernel
theorem dX0_nodeAtPlace_32 : decode cX0_nodeAtPlace 32 = .ok (.ireturn, 1) := by decide +kernel
theorem dX0_nodeAtPlace_33 : decode cX0_nodeAtPlace 33 = .ok (.lload_n 3, 1) := by decide +kernel
theorem dX0_nodeAtPlace_34 : decode cX0_nodeAtPlace 34 = .ok (.lconst 1, 1) := by decide +kernel
theorem dX0_nodeAtPlace_35 : decode cX0_nodeAtPlace 35 = .ok (.iload 5, 2) := by decide +kernel
theorem dX0_nodeAtPlace_37 : decode cX0_nodeAtPlace 37 = .ok (.lshl, 1) := by decide +kernel
theorem dX0_nodeAtPlace_38 : decode cX0_nodeAtPlace 38 = .ok (.lor, 1) := by decide +kernel
theorem dX0_nodeAtPlace_39 : decode cX0_nodeAtPlace 39 = .ok (.lstore_n 3, 1) := by decide +kernel
theorem dX0_nodeAtPlace_40 : decode cX0_nodeAtPlace 40 = .ok (.iinc 6 1, 3) := by decide +kernel
theorem dX0_nodeAtPlace_43 : decode cX0_nodeAtPlace 43 = .ok (.goto (-34), 3) := by decide +kernel
theorem dX0_nodeAtPlace_46 : decode cX0_nodeAtPlace 46 = .ok (.iload 5, 2) := by decide +kernel
theorem dX0_nodeAtPlace_48 : decode cX0_nodeAtPlace 48 = .ok (.ireturn, 1) := by decide +kernel
theorem dX0_greatest_0 : decode cX0_greatest 0 = .ok (.bipush (-2), 2) := by decide +kernel
theorem dX0_greatest_2 : decode cX0_greatest 2 = .ok (.istore 4, 2) := by decide +kernel
theorem dX0_greatest_4 : decode cX0_greatest 4 = .ok (.iconst 0, 1) := by decide +kernel
theorem dX0_greatest_5 : decode cX0_greatest 5 = .ok (.istore 5, 2) := by decide +kernel
theorem dX0_greatest_7 : decode cX0_greatest 7 = .ok (.iconst 0, 1) := by decide +kernel
theorem dX0_greatest_8 : decode cX0_greatest 8 = .ok (.istore 6, 2) := by decide +kernel
theorem dX0_greatest_10 : decode cX0_greatest 10 = .ok (.iload 6, 2) := by decide +kernel
theorem dX0_greatest_12 : decode cX0_greatest 12 = .ok (.aload_n 0, 1) := by decide +kernel
theorem dX0_greatest_13 : decode cX0_greatest 13 = .ok (.getfield 18, 3) := by decide +kernel
theorem dX0_greatest_16 : decode cX0_greatest 16 = .ok (.if_icmp .ge 37, 3) := by decide +kernel
theorem dX0_greatest_19 : decode cX0_greatest 19 = .ok (.aload_n 1, 1) := by decide +kernel
theorem dX0_greatest_20 : decode cX0_greatest 20 = .ok (.iload 6, 2) := by decide +kernel
theorem dX0_greatest_22 : decode cX0_greatest 22 = .ok (.iaload, 1) := by decide +kernel
theorem dX0_greatest_23 : decode cX0_greatest 23 = .ok (.iload 5, 2) := by decide +kernel
theorem dX0_greatest_25 : decode cX0_greatest 25 = .ok (.if_icmp .le 22, 3) := by decide +kernel
theorem dX0_greatest_28 : decode cX0_greatest 28 = .ok (.lload_n 2, 1) := by decide +kernel
theorem dX0_greatest_29 : decode cX0_greatest 29 = .ok (.iload 6, 2) := by decide +kernel
theorem dX0_greatest_31 : decode cX0_greatest 31 = .ok (.invokestatic 57, 3) := by decide +kernel
theorem dX0_greatest_34 : decode cX0_greatest 34 = .ok (.ifCond .ne 13, 3) := by decide +kernel
theorem dX0_greatest_37 : decode cX0_greatest 37 = .ok (.iload 6, 2) := by decide +kernel
theorem dX0_greatest_39 : decode cX0_greatest 39 = .ok (.istore 4, 2) := by decide +kernel
theorem dX0_greatest_41 : decode cX0_greatest 41 = .ok (.aload_n 1, 1) := by decide +kernel
theorem dX0_greatest_42 : decode cX0_greatest 42 = .ok (.iload 6, 2) := by decide +kernel
theorem dX0_greatest_44 : decode cX0_greatest 44 = .ok (.iaload, 1) := by decide +kernel
theorem dX0_greatest_45 : decode cX0_greatest 45 = .ok (.istore 5, 2) := by decide +kernel
theorem dX0_greatest_47 : decode cX0_greatest 47 = .ok (.iinc 6 1, 3) := by decide +kernel
theorem dX0_greatest_50 : decode cX0_greatest 50 = .ok (.goto (-40), 3) := by decide +kernel
theorem dX0_greatest_53 : decode cX0_greatest 53 = .ok (.iload 4, 2) := by decide +kernel
theorem dX0_greatest_55 : decode cX0_greatest 55 = .ok (.ireturn, 1) := by decide +kernel
theorem dX0_lessen_0 : decode cX0_lessen 0 = .ok (.aload_n 0, 1) := by decide +kernel
theorem dX0_lessen_1 : decode cX0_lessen 1 = .ok (.iconst 0, 1) := by decide +kernel
theorem dX0_lessen_2 : decode cX0_lessen 2 = .ok (.putfield 25, 3) := by decide +kernel
theorem dX0_lessen_5 : decode cX0_lessen 5 = .ok (.iconst 0, 1) := by decide +kernel
theorem dX0_lessen_6 : decode cX0_lessen 6 = .ok (.istore_n 2, 1) := by decide +kernel
theorem dX0_lessen_7 : decode cX0_lessen 7 = .ok (.iload_n 2, 1) := by decide +kernel
theorem dX0_lessen_8 : decode cX0_lessen 8 = .ok (.aload_n 0, 1) := by decide +kernel
theorem dX0_lessen_9 : decode cX0_lessen 9 = .ok (.getfield 18, 3) := by decide +kernel
theorem dX0_lessen_12 : decode cX0_lessen 12 = .ok (.if_icmp .ge 46, 3) := by decide +kernel
theorem dX0_lessen_15 : decode cX0_lessen 15 = .ok (.aload_n 0, 1) := by decide +kernel
theorem dX0_lessen_16 : decode cX0_lessen 16 = .ok (.getfield 9, 3) := by decide +kernel
theorem dX0_lessen_19 : decode cX0_lessen 19 = .ok (.iload_n 2, 1) := by decide +kernel
theorem dX0_lessen_20 : decode cX0_lessen 20 = .ok (.iconst 0, 1) := by decide +kernel
theorem dX0_lessen_21 : decode cX0_lessen 21 = .ok (.aload_n 0, 1) := by decide +kernel
theorem dX0_lessen_22 : decode cX0_lessen 22 = .ok (.getfield 9, 3) := by decide +kernel
theorem dX0_lessen_25 : decode cX0_lessen 25 = .ok (.iload_n 2, 1) := by decide +kernel
theorem dX0_lessen_26 : decode cX0_lessen 26 = .ok (.iaload, 1) := by decide +kernel
theorem dX0_lessen_27 : decode cX0_lessen 27 = .ok (.iload_n 1, 1) := by decide +kernel
theorem dX0_lessen_28 : decode cX0_lessen 28 = .ok (.isub, 1) := by decide +kernel
theorem dX0_lessen_29 : decode cX0_lessen 29 = .ok (.invokestatic 61, 3) := by decide +kernel
theorem dX0_lessen_32 : decode cX0_lessen 32 = .ok (.iastore, 1) := by decide +kernel
theorem dX0_lessen_33 : decode cX0_lessen 33 = .ok (.aload_n 0, 1) := by decide +kernel
theorem dX0_lessen_34 : decode cX0_lessen 34 = .ok (.getfield 9, 3) := by decide +kernel
theorem dX0_lessen_37 : decode cX0_lessen 37 = .ok (.iload_n 2, 1) := by decide +kernel
theorem dX0_lessen_38 : decode cX0_lessen 38 = .ok (.iaload, 1) := by decide +kernel
theorem dX0_lessen_39 : decode cX0_lessen 39 = .ok (.ifCond .le 13, 3) := by decide +kernel
theorem dX0_lessen_42 : decode cX0_lessen 42 = .ok (.aload_n 0, 1) := by decide +kernel
theorem dX0_lessen_43 : decode cX0_lessen 43 = .ok (.dup, 1) := by decide +kernel
theorem dX0_lessen_44 : decode cX0_lessen 44 = .ok (.getfield 25, 3) := by decide +kernel
theorem dX0_lessen_47 : decode cX0_lessen 47 = .ok (.iconst 1, 1) := by decide +kernel
theorem dX0_lessen_48 : decode cX0_lessen 48 = .ok (.iadd, 1) := by decide +kernel
theorem dX0_lessen_49 : decode cX0_lessen 49 = .ok (.putfield 25, 3) := by decide +kernel
theorem dX0_lessen_52 : decode cX0_lessen 52 = .ok (.iinc 2 1, 3) := by decide +kernel
theorem dX0_lessen_55 : decode cX0_lessen 55 = .ok (.goto (-48), 3) := by decide +kernel
theorem dX0_lessen_58 : decode cX0_lessen 58 = .ok (.return_, 1) := by decide +kernel
theorem dX1_init_0 : decode cX1_init 0 = .ok (.aload_n 0, 1) := by decide +kernel
theorem dX1_init_1 : decode cX1_init 1 = .ok (.invokespecial 3, 3) := by decide +kernel
theorem dX1_init_4 : decode cX1_init 4 = .ok (.aload_n 0, 1) := by decide +kernel
theorem dX1_init_5 : decode cX1_init 5 = .ok (.bipush 64, 2) := by decide +kernel
theorem dX1_init_7 : decode cX1_init 7 = .ok (.newarray .int, 2) := by decide +kernel
theorem dX1_init_9 : decode cX1_init 9 = .ok (.putfield 9, 3) := by decide +kernel
theorem dX1_init_12 : decode cX1_init 12 = .ok (.aload_n 0, 1) := by decide +kernel
theorem dX1_init_13 : decode cX1_init 13 = .ok (.bipush 64, 2) := by decide +kernel
theorem dX1_init_15 : decode cX1_init 15 = .ok (.newarray .int, 2) := by decide +kernel
theorem dX1_init_17 : decode cX1_init 17 = .ok (.putfield 15, 3) := by decide +kernel
theorem dX1_init_20 : decode cX1_init 20 = .ok (.aload_n 0, 1) := by decide +kernel
theorem dX1_init_21 : decode cX1_init 21 = .ok (.bipush 64, 2) := by decide +kernel
theorem dX1_init_23 : decode cX1_init 23 = .ok (.newarray .int, 2) := by decide +kernel
theorem dX1_init_25 : decode cX1_init 25 = .ok (.putfield 18, 3) := by decide +kernel
theorem dX1_init_28 : decode cX1_init 28 = .ok (.return_, 1) := by decide +kernel
theorem dX1_restart_0 : decode cX1_restart 0 = .ok (.aload_n 0, 1) := by decide +kernel
theorem dX1_restart_1 : decode cX1_restart 1 = .ok (.iconst 0, 1) := by decide +kernel
theorem dX1_restart_2 : decode cX1_restart 2 = .ok (.putfield 21, 3) := by decide +kernel
theorem dX1_restart_5 : decode cX1_restart 5 = .ok (.return_, 1) := by decide +kernel
theorem dX1_accept_0 : decode cX1_accept 0 = .ok (.aload_n 0, 1) := by decide +kernel
theorem dX1_accept_1 : decode cX1_accept 1 = .ok (.iload_n 1, 1) := by decide +kernel
theorem dX1_accept_2 : decode cX1_accept 2 = .ok (.iload_n 2, 1) := by decide +kernel
theorem dX1_accept_3 : decode cX1_accept 3 = .ok (.invokevirtual 25, 3) := by decide +kernel
theorem dX1_accept_6 : decode cX1_accept 6 = .ok (.istore 4, 2) := by decide +kernel
theorem dX1_accept_8 : decode cX1_accept 8 = .ok (.iload 4, 2) := by decide +kernel
theorem dX1_accept_10 : decode cX1_accept 10 = .ok (.bipush (-2), 2) := by decide +kernel
theorem dX1_accept_12 : decode cX1_accept 12 = .ok (.if_icmp .eq 9, 3) := by decide +kernel
theorem dX1_accept_15 : decode cX1_accept 15 = .ok (.aload_n 0, 1) := by decide +kernel
theorem dX1_accept_16 : decode cX1_accept 16 = .ok (.iload 4, 2) := by decide +kernel
theorem dX1_accept_18 : decode cX1_accept 18 = .ok (.invokevirtual 29, 3) := by decide +kernel
theorem dX1_accept_21 : decode cX1_accept 21 = .ok (.aload_n 0, 1) := by decide +kernel
theorem dX1_accept_22 : decode cX1_accept 22 = .ok (.getfield 21, 3) := by decide +kernel
theorem dX1_accept_25 : decode cX1_accept 25 = .ok (.bipush 64, 2) := by decide +kernel
theorem dX1_accept_27 : decode cX1_accept 27 = .ok (.if_icmp .ge 37, 3) := by decide +kernel
theorem dX1_accept_30 : decode cX1_accept 30 = .ok (.aload_n 0, 1) := by decide +kernel
theorem dX1_accept_31 : decode cX1_accept 31 = .ok (.getfield 9, 3) := by decide +kernel
theorem dX1_accept_34 : decode cX1_accept 34 = .ok (.aload_n 0, 1) := by decide +kernel
theorem dX1_accept_35 : decode cX1_accept 35 = .ok (.getfield 21, 3) := by decide +kernel
theorem dX1_accept_38 : decode cX1_accept 38 = .ok (.iload_n 3, 1) := by decide +kernel
theorem dX1_accept_39 : decode cX1_accept 39 = .ok (.iastore, 1) := by decide +kernel
theorem dX1_accept_40 : decode cX1_accept 40 = .ok (.aload_n 0, 1) := by decide +kernel
theorem dX1_accept_41 : decode cX1_accept 41 = .ok (.getfield 15, 3) := by decide +kernel
theorem dX1_accept_44 : decode cX1_accept 44 = .ok (.aload_n 0, 1) := by decide +kernel
theorem dX1_accept_45 : decode cX1_accept 45 = .ok (.getfield 21, 3) := by decide +kernel
theorem dX1_accept_48 : decode cX1_accept 48 = .ok (.iload_n 1, 1) := by decide +kernel
theorem dX1_accept_49 : decode cX1_accept 49 = .ok (.iload_n 2, 1) := by decide +kernel
theorem dX1_accept_50 : decode cX1_accept 50 = .ok (.invokestatic 33, 3) := by decide +kernel
theorem dX1_accept_53 : decode cX1_accept 53 = .ok (.iastore, 1) := by decide +kernel
theorem dX1_accept_54 : decode cX1_accept 54 = .ok (.aload_n 0, 1) := by decide +kernel
theorem dX1_accept_55 : decode cX1_accept 55 = .ok (.dup, 1) := by decide +kernel
theorem dX1_accept_56 : decode cX1_accept 56 = .ok (.getfield 21, 3) := by decide +kernel
theorem dX1_accept_59 : decode cX1_accept 59 = .ok (.iconst 1, 1) := by decide +kernel
theorem dX1_accept_60 : decode cX1_accept 60 = .ok (.iadd, 1) := by decide +kernel
theorem dX1_accept_61 : decode cX1_accept 61 = .ok (.putfield 21, 3) := by decide +kernel
theorem dX1_accept_64 : decode cX1_accept 64 = .ok (.return_, 1) := by decide +kernel
theorem dX1_arcsAfter_0 : decode cX1_arcsAfter 0 = .ok (.iconst 0, 1) := by decide +kernel
theorem dX1_arcsAfter_1 : decode cX1_arcsAfter 1 = .ok (.istore_n 2, 1) := by decide +kernel
theorem dX1_arcsAfter_2 : decode cX1_arcsAfter 2 = .ok (.aload_n 0, 1) := by decide +kernel
theorem dX1_arcsAfter_3 : decode cX1_arcsAfter 3 = .ok (.getfield 21, 3) := by decide +kernel
theorem dX1_arcsAfter_6 : decode cX1_arcsAfter 6 = .ok (.iconst 1, 1) := by decide +kernel
theorem dX1_arcsAfter_7 : decode cX1_arcsAfter 7 = .ok (.isub, 1) := by decide +kernel
theorem dX1_arcsAfter_8 : decode cX1_arcsAfter 8 = .ok (.istore_n 3, 1) := by decide +kernel
theorem dX1_arcsAfter_9 : decode cX1_arcsAfter 9 = .ok (.iload_n 3, 1) := by decide +kernel
theorem dX1_arcsAfter_10 : decode cX1_arcsAfter 10 = .ok (.ifCond .lt 22, 3) := by decide +kernel
theorem dX1_arcsAfter_13 : decode cX1_arcsAfter 13 = .ok (.aload_n 0, 1) := by decide +kernel
theorem dX1_arcsAfter_14 : decode cX1_arcsAfter 14 = .ok (.getfield 9, 3) := by decide +kernel
theorem dX1_arcsAfter_17 : decode cX1_arcsAfter 17 = .ok (.iload_n 3, 1) := by decide +kernel
theorem dX1_arcsAfter_18 : decode cX1_arcsAfter 18 = .ok (.iaload, 1) := by decide +kernel
theorem dX1_arcsAfter_19 : decode cX1_arcsAfter 19 = .ok (.iload_n 1, 1) := by decide +kernel
theorem dX1_arcsAfter_20 : decode cX1_arcsAfter 20 = .ok (.if_icmp .le 12, 3) := by decide +kernel
theorem dX1_arcsAfter_23 : decode cX1_arcsAfter 23 = .ok (.iinc 2 1, 3) := by decide +kernel
theorem dX1_arcsAfter_26 : decode cX1_arcsAfter 26 = .ok (.iinc 3 (-1), 3) := by decide +kernel
theorem dX1_arcsAfter_29 : decode cX1_arcsAfter 29 = .ok (.goto (-20), 3) := by decide +kernel
theorem dX1_arcsAfter_32 : decode cX1_arcsAfter 32 = .ok (.iload_n 2, 1) := by decide +kernel
theorem dX1_arcsAfter_33 : decode cX1_arcsAfter 33 = .ok (.ireturn, 1) := by decide +kernel
theorem dX1_leastOfPart_0 : decode cX1_leastOfPart 0 = .ok (.aload_n 0, 1) := by decide +kernel
theorem dX1_leastOfPart_1 : decode cX1_leastOfPart 1 = .ok (.invokevirtual 36, 3) := by decide +kernel
theorem dX1_leastOfPart_4 : decode cX1_leastOfPart 4 = .ok (.aload_n 0, 1) := by decide +kernel
theorem dX1_leastOfPart_5 : decode cX1_leastOfPart 5 = .ok (.getfield 21, 3) := by decide +kernel
theorem dX1_leastOfPart_8 : decode cX1_leastOfPart 8 = .ok (.iconst 1, 1) := by decide +kernel
theorem dX1_leastOfPart_9 : decode cX1_leastOfPart 9 = .ok (.isub, 1) := by decide +kernel
theorem dX1_leastOfPart_10 : decode cX1_leastOfPart 10 = .ok (.istore_n 3, 1) := by decide +kernel
theorem dX1_leastOfPart_11 : decode cX1_leastOfPart 11 = .ok (.iload_n 3, 1) := by decide +kernel
theorem dX1_leastOfPart_12 : decode cX1_leastOfPart 12 = .ok (.ifCond .lt 24, 3) := by decide +kernel
theorem dX1_leastOfPart_15 : decode cX1_leastOfPart 15 = .ok (.aload_n 0, 1) := by decide +kernel
theorem dX1_leastOfPart_16 : decode cX1_leastOfPart 16 = .ok (.getfield 9, 3) := by decide +kernel
theorem dX1_leastOfPart_19 : decode cX1_leastOfPart 19 = .ok (.iload_n 3, 1) := by decide +kernel
theorem dX1_leastOfPart_20 : decode cX1_leastOfPart 20 = .ok (.iaload, 1) := by decide +kernel
theorem dX1_leastOfPart_21 : decode cX1_leastOfPart 21 = .ok (.iload_n 1, 1) := by decide +kernel
theorem dX1_leastOfPart_22 : decode cX1_leastOfPart 22 = .ok (.if_icmp .le 14, 3) := by decide +kernel
theorem dX1_leastOfPart_25 : decode cX1_leastOfPart 25 = .ok (.aload_n 0, 1) := by decide +kernel
theorem dX1_leastOfPart_26 : decode cX1_leastOfPart 26 = .ok (.iload_n 3, 1) := by decide +kernel
theorem dX1_leastOfPart_27 : decode cX1_leastOfPart 27 = .ok (.invokevirtual 39, 3) := by decide +kernel
theorem dX1_leastOfPart_30 : decode cX1_leastOfPart 30 = .ok (.iinc 3 (-1), 3) := by decide +kernel
theorem dX1_leastOfPart_33 : decode cX1_leastOfPart 33 = .ok (.goto (-22), 3) := by decide +kernel
theorem dX1_leastOfPart_36 : decode cX1_leastOfPart 36 = .ok (.aload_n 0, 1) := by decide +kernel
theorem dX1_leastOfPart_37 : decode cX1_leastOfPart 37 = .ok (.iload_n 2, 1) := by decide +kernel
theorem dX1_leastOfPart_38 : decode cX1_leastOfPart 38 = .ok (.invokevirtual 42, 3) := by decide +kernel
theorem dX1_leastOfPart_41 : decode cX1_leastOfPart 41 = .ok (.ireturn, 1) := by decide +kernel
theorem dX1_oldestBetween_0 : decode cX1_oldestBetween 0 = .ok (.aload_n 0, 1) := by decide +kernel
theorem dX1_oldestBetween_1 : decode cX1_oldestBetween 1 = .ok (.invokevirtual 36, 3) := by decide +kernel
theorem dX1_oldestBetween_4 : decode cX1_oldestBetween 4 = .ok (.aload_n 0, 1) := by decide +kernel
theorem dX1_oldestBetween_5 : decode cX1_oldestBetween 5 = .ok (.getfield 21, 3) := by decide +kernel
theorem dX1_oldestBetween_8 : decode cX1_oldestBetween 8 = .ok (.iconst 1, 1) := by decide +kernel
theorem dX1_oldestBetween_9 : decode cX1_oldestBetween 9 = .ok (.isub, 1) := by decide +kernel
theorem dX1_oldestBetween_10 : decode cX1_oldestBetween 10 = .ok (.istore_n 3, 1) := by decide +kernel
theorem dX1_oldestBetween_11 : decode cX1_oldestBetween 11 = .ok (.iload_n 3, 1) := by decide +kernel
theorem dX1_oldestBetween_12 : decode cX1_oldestBetween 12 = .ok (.ifCond .lt 29, 3) := by decide +kernel
theorem dX1_oldestBetween_15 : decode cX1_oldestBetween 15 = .ok (.aload_n 0, 1) := by decide +kernel
theorem dX1_oldestBetween_16 : decode cX1_oldestBetween 16 = .ok (.iload_n 3, 1) := by decide +kernel
theorem dX1_oldestBetween_17 : decode cX1_oldestBetween 17 = .ok (.invokevirtual 39, 3) := by decide +kernel
theorem dX1_oldestBetween_20 : decode cX1_oldestBetween 20 = .ok (.aload_n 0, 1) := by decide +kernel
theorem dX1_oldestBetween_21 : decode cX1_oldestBetween 21 = .ok (.iload_n 1, 1) := by decide +kernel
theorem dX1_oldestBetween_22 : decode cX1_oldestBetween 22 = .ok (.invokevirtual 42, 3) := by decide +kernel
theorem dX1_oldestBetween_25 : decode cX1_oldestBetween 25 = .ok (.aload_n 0, 1) := by decide +kernel
theorem dX1_oldestBetween_26 : decode cX1_oldestBetween 26 = .ok (.iload_n 2, 1) := by decide +kernel
theorem dX1_oldestBetween_27 : decode cX1_oldestBetween 27 = .ok (.invokevirtual 42, 3) := by decide +kernel
theorem dX1_oldestBetween_30 : decode cX1_oldestBetween 30 = .ok (.if_icmp .ne 5, 3) := by decide +kernel
theorem dX1_oldestBetween_33 : decode cX1_oldestBetween 33 = .ok (.iload_n 3, 1) := by decide +kernel
theorem dX1_oldestBetween_34 : decode cX1_oldestBetween 34 = .ok (.ireturn, 1) := by decide +kernel
theorem dX1_oldestBetween_35 : decode cX1_oldestBetween 35 = .ok (.iinc 3 (-1), 3) := by decide +kernel
theorem dX1_oldestBetween_38 : decode cX1_oldestBetween 38 = .ok (.goto (-27), 3) := by decide +kernel
theorem dX1_oldestBetween_41 : decode cX1_oldestBetween 41 = .ok (.bipush (-2), 2) := by decide +kernel
theorem dX1_oldestBetween_43 : decode cX1_oldestBetween 43 = .ok (.ireturn, 1) := by decide +kernel
theorem dX1_drop_0 : decode cX1_drop 0 = .ok (.iload_n 1, 1) := by decide +kernel
theorem dX1_drop_1 : decode cX1_drop 1 = .ok (.iconst 1, 1) := by decide +kernel
theorem dX1_drop_2 : decode cX1_drop 2 = .ok (.iadd, 1) := by decide +kernel
theorem dX1_drop_3 : decode cX1_drop 3 = .ok (.istore_n 2, 1) := by decide +kernel
theorem dX1_drop_4 : decode cX1_drop 4 = .ok (.iload_n 2, 1) := by decide +kernel
theorem dX1_drop_5 : decode cX1_drop 5 = .ok (.aload_n 0, 1) := by decide +kernel
theorem dX1_drop_6 : decode cX1_drop 6 = .ok (.getfield 21, 3) := by decide +kernel
theorem dX1_drop_9 : decode cX1_drop 9 = .ok (.if_icmp .ge 37, 3) := by decide +kernel
theorem dX1_drop_12 : decode cX1_drop 12 = .ok (.aload_n 0, 1) := by decide +kernel
theorem dX1_drop_13 : decode cX1_drop 13 = .ok (.getfield 9, 3) := by decide +kernel
theorem dX1_drop_16 : decode cX1_drop 16 = .ok (.iload_n 2, 1) := by decide +kernel
theorem dX1_drop_17 : decode cX1_drop 17 = .ok (.iconst 1, 1) := by decide +kernel
theorem dX1_drop_18 : decode cX1_drop 18 = .ok (.isub, 1) := by decide +kernel
theorem dX1_drop_19 : decode cX1_drop 19 = .ok (.aload_n 0, 1) := by decide +kernel
theorem dX1_drop_20 : decode cX1_drop 20 = .ok (.getfield 9, 3) := by decide +kernel
theorem dX1_drop_23 : decode cX1_drop 23 = .ok (.iload_n 2, 1) := by decide +kernel
theorem dX1_drop_24 : decode cX1_drop 24 = .ok (.iaload, 1) := by decide +kernel
theorem dX1_drop_25 : decode cX1_drop 25 = .ok (.iastore, 1) := by decide +kernel
theorem dX1_drop_26 : decode cX1_drop 26 = .ok (.aload_n 0, 1) := by decide +kernel
theorem dX1_drop_27 : decode cX1_drop 27 = .ok (.getfield 15, 3) := by decide +kernel
theorem dX1_drop_30 : decode cX1_drop 30 = .ok (.iload_n 2, 1) := by decide +kernel
theorem dX1_drop_31 : decode cX1_drop 31 = .ok (.iconst 1, 1) := by decide +kernel
theorem dX1_drop_32 : decode cX1_drop 32 = .ok (.isub, 1) := by decide +kernel
theorem dX1_drop_33 : decode cX1_drop 33 = .ok (.aload_n 0, 1) := by decide +kernel
theorem dX1_drop_34 : decode cX1_drop 34 = .ok (.getfield 15, 3) := by decide +kernel
theorem dX1_drop_37 : decode cX1_drop 37 = .ok (.iload_n 2, 1) := by decide +kernel
theorem dX1_drop_38 : decode cX1_drop 38 = .ok (.iaload, 1) := by decide +kernel
theorem dX1_drop_39 : decode cX1_drop 39 = .ok (.iastore, 1) := by decide +kernel
theorem dX1_drop_40 : decode cX1_drop 40 = .ok (.iinc 2 1, 3) := by decide +kernel
theorem dX1_drop_43 : decode cX1_drop 43 = .ok (.goto (-39), 3) := by decide +kernel
theorem dX1_drop_46 : decode cX1_drop 46 = .ok (.aload_n 0, 1) := by decide +kernel
theorem dX1_drop_47 : decode cX1_drop 47 = .ok (.dup, 1) := by decide +kernel
theorem dX1_drop_48 : decode cX1_drop 48 = .ok (.getfield 21, 3) := by decide +kernel
theorem dX1_drop_51 : decode cX1_drop 51 = .ok (.iconst 1, 1) := by decide +kernel
theorem dX1_drop_52 : decode cX1_drop 52 = .ok (.isub, 1) := by decide +kernel
theorem dX1_drop_53 : decode cX1_drop 53 = .ok (.putfield 21, 3) := by decide +kernel
theorem dX1_drop_56 : decode cX1_drop 56 = .ok (.return_, 1) := by decide +kernel
theorem dX1_partAll_0 : decode cX1_partAll 0 = .ok (.iconst 0, 1) := by decide +kernel
theorem dX1_partAll_1 : decode cX1_partAll 1 = .ok (.istore_n 1, 1) := by decide +kernel
theorem dX1_partAll_2 : decode cX1_partAll 2 = .ok (.iload_n 1, 1) := by decide +kernel
theorem dX1_partAll_3 : decode cX1_partAll 3 = .ok (.bipush 64, 2) := by decide +kernel
theorem dX1_partAll_5 : decode cX1_partAll 5 = .ok (.if_icmp .ge 16, 3) := by decide +kernel
theorem dX1_partAll_8 : decode cX1_partAll 8 = .ok (.aload_n 0, 1) := by decide +kernel
theorem dX1_partAll_9 : decode cX1_partAll 9 = .ok (.getfield 18, 3) := by decide +kernel
theorem dX1_partAll_12 : decode cX1_partAll 12 = .ok (.iload_n 1, 1) := by decide +kernel
theorem dX1_partAll_13 : decode cX1_partAll 13 = .ok (.iload_n 1, 1) := by decide +kernel
theorem dX1_partAll_14 : decode cX1_partAll 14 = .ok (.iastore, 1) := by decide +kernel
theorem dX1_partAll_15 : decode cX1_partAll 15 = .ok (.iinc 1 1, 3) := by decide +kernel
theorem dX1_partAll_18 : decode cX1_partAll 18 = .ok (.goto (-16), 3) := by decide +kernel
theorem dX1_partAll_21 : decode cX1_partAll 21 = .ok (.return_, 1) := by decide +kernel
theorem dX1_joinByArc_0 : decode cX1_joinByArc 0 = .ok (.aload_n 0, 1) := by decide +kernel
theorem dX1_joinByArc_1 : decode cX1_joinByArc 1 = .ok (.aload_n 0, 1) := by decide +kernel
theorem dX1_joinByArc_2 : decode cX1_joinByArc 2 = .ok (.getfield 15, 3) := by decide +kernel
theorem dX1_joinByArc_5 : decode cX1_joinByArc 5 = .ok (.iload_n 1, 1) := by decide +kernel
theorem dX1_joinByArc_6 : decode cX1_joinByArc 6 = .ok (.iaload, 1) := by decide +kernel
theorem dX1_joinByArc_7 : decode cX1_joinByArc 7 = .ok (.invokestatic 46, 3) := by decide +kernel
theorem dX1_joinByArc_10 : decode cX1_joinByArc 10 = .ok (.invokevirtual 42, 3) := by decide +kernel
theorem dX1_joinByArc_13 : decode cX1_joinByArc 13 = .ok (.istore_n 2, 1) := by decide +kernel
theorem dX1_joinByArc_14 : decode cX1_joinByArc 14 = .ok (.aload_n 0, 1) := by decide +kernel
theorem dX1_joinByArc_15 : decode cX1_joinByArc 15 = .ok (.aload_n 0, 1) := by decide +kernel
theorem dX1_joinByArc_16 : decode cX1_joinByArc 16 = .ok (.getfield 15, 3) := by decide +kernel
theorem dX1_joinByArc_19 : decode cX1_joinByArc 19 = .ok (.iload_n 1, 1) := by decide +kernel
theorem dX1_joinByArc_20 : decode cX1_joinByArc 20 = .ok (.iaload, 1) := by decide +kernel
theorem dX1_joinByArc_21 : decode cX1_joinByArc 21 = .ok (.invokestatic 49, 3) := by decide +kernel
theorem dX1_joinByArc_24 : decode cX1_joinByArc 24 = .ok (.invokevirtual 42, 3) := by decide +kernel
theorem dX1_joinByArc_27 : decode cX1_joinByArc 27 = .ok (.istore_n 3, 1) := by decide +kernel
theorem dX1_joinByArc_28 : decode cX1_joinByArc 28 = .ok (.aload_n 0, 1) := by decide +kernel
theorem dX1_joinByArc_29 : decode cX1_joinByArc 29 = .ok (.getfield 18, 3) := by decide +kernel
theorem dX1_joinByArc_32 : decode cX1_joinByArc 32 = .ok (.iload_n 2, 1) := by decide +kernel
theorem dX1_joinByArc_33 : decode cX1_joinByArc 33 = .ok (.iload_n 3, 1) := by decide +kernel
theorem dX1_joinByArc_34 : decode cX1_joinByArc 34 = .ok (.invokestatic 52, 3) := by decide +kernel
theorem dX1_joinByArc_37 : decode cX1_joinByArc 37 = .ok (.iload_n 2, 1) := by decide +kernel
theorem dX1_joinByArc_38 : decode cX1_joinByArc 38 = .ok (.iload_n 3, 1) := by decide +kernel
theorem dX1_joinByArc_39 : decode cX1_joinByArc 39 = .ok (.invokestatic 57, 3) := by decide +kernel
theorem dX1_joinByArc_42 : decode cX1_joinByArc 42 = .ok (.iastore, 1) := by decide +kernel
theorem dX1_joinByArc_43 : decode cX1_joinByArc 43 = .ok (.return_, 1) := by decide +kernel
theorem dX1_leaderOf_0 : decode cX1_leaderOf 0 = .ok (.iload_n 1, 1) := by decide +kernel
theorem dX1_leaderOf_1 : decode cX1_leaderOf 1 = .ok (.istore_n 2, 1) := by decide +kernel
theorem dX1_leaderOf_2 : decode cX1_leaderOf 2 = .ok (.iconst 0, 1) := by decide +kernel
theorem dX1_leaderOf_3 : decode cX1_leaderOf 3 = .ok (.istore_n 3, 1) := by decide +kernel
theorem dX1_leaderOf_4 : decode cX1_leaderOf 4 = .ok (.iload_n 3, 1) := by decide +kernel
theorem dX1_leaderOf_5 : decode cX1_leaderOf 5 = .ok (.bipush 64, 2) := by decide +kernel
theorem dX1_leaderOf_7 : decode cX1_leaderOf 7 = .ok (.if_icmp .ge 26, 3) := by decide +kernel
theorem dX1_leaderOf_10 : decode cX1_leaderOf 10 = .ok (.aload_n 0, 1) := by decide +kernel
theorem dX1_leaderOf_11 : decode cX1_leaderOf 11 = .ok (.getfield 18, 3) := by decide +kernel
theorem dX1_leaderOf_14 : decode cX1_leaderOf 14 = .ok (.iload_n 2, 1) := by decide +kernel
theorem dX1_leaderOf_15 : decode cX1_leaderOf 15 = .ok (.iaload, 1) := by decide +kernel
theorem dX1_leaderOf_16 : decode cX1_leaderOf 16 = .ok (.iload_n 2, 1) := by decide +kernel
theorem dX1_leaderOf_17 : decode cX1_leaderOf 17 = .ok (.if_icmp .eq 16, 3) := by decide +kernel
theorem dX1_leaderOf_20 : decode cX1_leaderOf 20 = .ok (.aload_n 0, 1) := by decide +kernel
theorem dX1_leaderOf_21 : decode cX1_leaderOf 21 = .ok (.getfield 18, 3) := by decide +kernel
theorem dX1_leaderOf_24 : decode cX1_leaderOf 24 = .ok (.iload_n 2, 1) := by decide +kernel
theorem dX1_leaderOf_25 : decode cX1_leaderOf 25 = .ok (.iaload, 1) := by decide +kernel
theorem dX1_leaderOf_26 : decode cX1_leaderOf 26 = .ok (.istore_n 2, 1) := by decide +kernel
theorem dX1_leaderOf_27 : decode cX1_leaderOf 27 = .ok (.iinc 3 1, 3) := by decide +kernel
theorem dX1_leaderOf_30 : decode cX1_leaderOf 30 = .ok (.goto (-26), 3) := by decide +kernel
theorem dX1_leaderOf_33 : decode cX1_leaderOf 33 = .ok (.iload_n 2, 1) := by decide +kernel
theorem dX1_leaderOf_34 : decode cX1_leaderOf 34 = .ok (.ireturn, 1) := by decide +kernel
theorem dX2_init_0 : decode cX2_init 0 = .ok (.aload_n 0, 1) := by decide +kernel
theorem dX2_init_1 : decode cX2_init 1 = .ok (.invokespecial 3, 3) := by decide +kernel
theorem dX2_init_4 : decode cX2_init 4 = .ok (.aload_n 0, 1) := by decide +kernel
theorem dX2_init_5 : decode cX2_init 5 = .ok (.bipush 64, 2) := by decide +kernel
theorem dX2_init_7 : decode cX2_init 7 = .ok (.newarray .int, 2) := by decide +kernel
theorem dX2_init_9 : decode cX2_init 9 = .ok (.putfield 9, 3) := by decide +kernel
theorem dX2_init_12 : decode cX2_init 12 = .ok (.return_, 1) := by decide +kernel
theorem dX2_restart_0 : decode cX2_restart 0 = .ok (.aload_n 0, 1) := by decide +kernel
theorem dX2_restart_1 : decode cX2_restart 1 = .ok (.iconst 0, 1) := by decide +kernel
theorem dX2_restart_2 : decode cX2_restart 2 = .ok (.putfield 15, 3) := by decide +kernel
theorem dX2_restart_5 : decode cX2_restart 5 = .ok (.aload_n 0, 1) := by decide +kernel
theorem dX2_restart_6 : decode cX2_restart 6 = .ok (.getfield 9, 3) := by decide +kernel
theorem dX2_restart_9 : decode cX2_restart 9 = .ok (.bipush (-2), 2) := by decide +kernel
theorem dX2_restart_11 : decode cX2_restart 11 = .ok (.invokestatic 19, 3) := by decide +kernel
theorem dX2_restart_14 : decode cX2_restart 14 = .ok (.return_, 1) := by decide +kernel
theorem dX2_accept_0 : decode cX2_accept 0 = .ok (.aload_n 0, 1) := by decide +kernel
theorem dX2_accept_1 : decode cX2_accept 1 = .ok (.getfield 9, 3) := by decide +kernel
theorem dX2_accept_4 : decode cX2_accept 4 = .ok (.iload_n 1, 1) := by decide +kernel
theorem dX2_accept_5 : decode cX2_accept 5 = .ok (.iaload, 1) := by decide +kernel
theorem dX2_accept_6 : decode cX2_accept 6 = .ok (.bipush (-2), 2) := by decide +kernel
theorem dX2_accept_8 : decode cX2_accept 8 = .ok (.if_icmp .ne 38, 3) := by decide +kernel
theorem dX2_accept_11 : decode cX2_accept 11 = .ok (.aload_n 0, 1) := by decide +kernel
theorem dX2_accept_12 : decode cX2_accept 12 = .ok (.getfield 9, 3) := by decide +kernel
theorem dX2_accept_15 : decode cX2_accept 15 = .ok (.iload_n 2, 1) := by decide +kernel
theorem dX2_accept_16 : decode cX2_accept 16 = .ok (.iaload, 1) := by decide +kernel
theorem dX2_accept_17 : decode cX2_accept 17 = .ok (.bipush (-2), 2) := by decide +kernel
theorem dX2_accept_19 : decode cX2_accept 19 = .ok (.if_icmp .ne 27, 3) := by decide +kernel
theorem dX2_accept_22 : decode cX2_accept 22 = .ok (.aload_n 0, 1) := by decide +kernel
theorem dX2_accept_23 : decode cX2_accept 23 = .ok (.getfield 9, 3) := by decide +kernel
theorem dX2_accept_26 : decode cX2_accept 26 = .ok (.iload_n 1, 1) := by decide +kernel
theorem dX2_accept_27 : decode cX2_accept 27 = .ok (.iload_n 2, 1) := by decide +kernel
theorem dX2_accept_28 : decode cX2_accept 28 = .ok (.iastore, 1) := by decide +kernel
theorem dX2_accept_29 : decode cX2_accept 29 = .ok (.aload_n 0, 1) := by decide +kernel
theorem dX2_accept_30 : decode cX2_accept 30 = .ok (.getfield 9, 3) := by decide +kernel
theorem dX2_accept_33 : decode cX2_accept 33 = .ok (.iload_n 2, 1) := by decide +kernel
theorem dX2_accept_34 : decode cX2_accept 34 = .ok (.iload_n 1, 1) := by decide +kernel
theorem dX2_accept_35 : decode cX2_accept 35 = .ok (.iastore, 1) := by decide +kernel
theorem dX2_accept_36 : decode cX2_accept 36 = .ok (.aload_n 0, 1) := by decide +kernel
theorem dX2_accept_37 : decode cX2_accept 37 = .ok (.dup, 1) := by decide +kernel
theorem dX2_accept_38 : decode cX2_accept 38 = .ok (.getfield 15, 3) := by decide +kernel
theorem dX2_accept_41 : decode cX2_accept 41 = .ok (.iconst 1, 1) := by decide +kernel
theorem dX2_accept_42 : decode cX2_accept 42 = .ok (.iadd, 1) := by decide +kernel
theorem dX2_accept_43 : decode cX2_accept 43 = .ok (.putfield 15, 3) := by decide +kernel
theorem dX2_accept_46 : decode cX2_accept 46 = .ok (.return_, 1) := by decide +kernel
theorem dX3_init_0 : decode cX3_init 0 = .ok (.aload_n 0, 1) := by decide +kernel
theorem dX3_init_1 : decode cX3_init 1 = .ok (.invokespecial 3, 3) := by decide +kernel
theorem dX3_init_4 : decode cX3_init 4 = .ok (.aload_n 0, 1) := by decide +kernel
theorem dX3_init_5 : decode cX3_init 5 = .ok (.sipush 1920, 3) := by decide +kernel
theorem dX3_init_8 : decode cX3_init 8 = .ok (.newarray .long, 2) := by decide +kernel
theorem dX3_init_10 : decode cX3_init 10 = .ok (.putfield 9, 3) := by decide +kernel
theorem dX3_init_13 : decode cX3_init 13 = .ok (.return_, 1) := by decide +kernel
theorem dX3_restart_0 : decode cX3_restart 0 = .ok (.aload_n 0, 1) := by decide +kernel
theorem dX3_restart_1 : decode cX3_restart 1 = .ok (.iload_n 1, 1) := by decide +kernel
theorem dX3_restart_2 : decode cX3_restart 2 = .ok (.putfield 15, 3) := by decide +kernel
theorem dX3_restart_5 : decode cX3_restart 5 = .ok (.aload_n 0, 1) := by decide +kernel
theorem dX3_restart_6 : decode cX3_restart 6 = .ok (.lload_n 2, 1) := by decide +kernel
theorem dX3_restart_7 : decode cX3_restart 7 = .ok (.putfield 19, 3) := by decide +kernel
theorem dX3_restart_10 : decode cX3_restart 10 = .ok (.aload_n 0, 1) := by decide +kernel
theorem dX3_restart_11 : decode cX3_restart 11 = .ok (.getfield 9, 3) := by decide +kernel
theorem dX3_restart_14 : decode cX3_restart 14 = .ok (.lconst 0, 1) := by decide +kernel
theorem dX3_restart_15 : decode cX3_restart 15 = .ok (.invokestatic 23, 3) := by decide +kernel
theorem dX3_restart_18 : decode cX3_restart 18 = .ok (.return_, 1) := by decide +kernel
theorem dX3_placeOf_0 : decode cX3_placeOf 0 = .ok (.iload_n 0, 1) := by decide +kernel
theorem dX3_placeOf_1 : decode cX3_placeOf 1 = .ok (.bipush 10, 2) := by decide +kernel
theorem dX3_placeOf_3 : decode cX3_placeOf 3 = .ok (.imul, 1) := by decide +kernel
theorem dX3_placeOf_4 : decode cX3_placeOf 4 = .ok (.iload_n 1, 1) := by decide +kernel
theorem dX3_placeOf_5 : decode cX3_placeOf 5 = .ok (.iadd, 1) := by decide +kernel
theorem dX3_placeOf_6 : decode cX3_placeOf 6 = .ok (.iconst 3, 1) := by decide +kernel
theorem dX3_placeOf_7 : decode cX3_placeOf 7 = .ok (.imul, 1) := by decide +kernel
theorem dX3_placeOf_8 : decode cX3_placeOf 8 = .ok (.ireturn, 1) := by decide +kernel
theorem dX3_change_0 : decode cX3_change 0 = .ok (.iload_n 1, 1) := by decide +kernel
theorem dX3_change_1 : decode cX3_change 1 = .ok (.iload_n 2, 1) := by decide +kernel
theorem dX3_change_2 : decode cX3_change 2 = .ok (.invokestatic 29, 3) := by decide +kernel
theorem dX3_change_5 : decode cX3_change 5 = .ok (.i2l, 1) := by decide +kernel
theorem dX3_change_6 : decode cX3_change 6 = .ok (.lstore 4, 2) := by decide +kernel
theorem dX3_change_8 : decode cX3_change 8 = .ok (.aload_n 0, 1) := by decide +kernel
theorem dX3_change_9 : decode cX3_change 9 = .ok (.lload 4, 2) := by decide +kernel
theorem dX3_change_11 : decode cX3_change 11 = .ok (.invokevirtual 33, 3) := by decide +kernel
theorem dX3_change_14 : decode cX3_change 14 = .ok (.istore 6, 2) := by decide +kernel
theorem dX3_change_16 : decode cX3_change 16 = .ok (.iconst 0, 1) := by decide +kernel
theorem dX3_change_17 : decode cX3_change 17 = .ok (.istore 7, 2) := by decide +kernel
theorem dX3_change_19 : decode cX3_change 19 = .ok (.iload 7, 2) := by decide +kernel
theorem dX3_change_21 : decode cX3_change 21 = .ok (.iload 6, 2) := by decide +kernel
theorem dX3_change_23 : decode cX3_change 23 = .ok (.if_icmp .gt 36, 3) := by decide +kernel
theorem dX3_change_26 : decode cX3_change 26 = .ok (.aload_n 0, 1) := by decide +kernel
theorem dX3_change_27 : decode cX3_change 27 = .ok (.iload_n 1, 1) := by decide +kernel
theorem dX3_change_28 : decode cX3_change 28 = .ok (.iload 7, 2) := by decide +kernel
theorem dX3_change_30 : decode cX3_change 30 = .ok (.invokestatic 37, 3) := by decide +kernel
theorem dX3_change_33 : decode cX3_change 33 = .ok (.lload 4, 2) := by decide +kernel
theorem dX3_change_35 : decode cX3_change 35 = .ok (.iload_n 3, 1) := by decide +kernel
theorem dX3_change_36 : decode cX3_change 36 = .ok (.invokevirtual 40, 3) := by decide +kernel
theorem dX3_change_39 : decode cX3_change 39 = .ok (.aload_n 0, 1) := by decide +kernel
theorem dX3_change_40 : decode cX3_change 40 = .ok (.iload_n 2, 1) := by decide +kernel
theorem dX3_change_41 : decode cX3_change 41 = .ok (.iload 7, 2) := by decide +kernel
theorem dX3_change_43 : decode cX3_change 43 = .ok (.invokestatic 37, 3) := by decide +kernel
theorem dX3_change_46 : decode cX3_change 46 = .ok (.lload 4, 2) := by decide +kernel
theorem dX3_change_48 : decode cX3_change 48 = .ok (.iload_n 3, 1) := by decide +kernel
theorem dX3_change_49 : decode cX3_change 49 = .ok (.ineg, 1) := by decide +kernel
theorem dX3_change_50 : decode cX3_change 50 = .ok (.invokevirtual 40, 3) := by decide +kernel
theorem dX3_change_53 : decode cX3_change 53 = .ok (.iinc 7 1, 3) := by decide +kernel
theorem dX3_change_56 : decode cX3_change 56 = .ok (.goto (-37), 3) := by decide +kernel
theorem dX3_change_59 : decode cX3_change 59 = .ok (.iload 6, 2) := by decide +kernel
theorem dX3_change_61 : decode cX3_change 61 = .ok (.ireturn, 1) := by decide +kernel
theorem dX3_putTogether_0 : decode cX3_putTogether 0 = .ok (.aload_n 0, 1) := by decide +kernel
theorem dX3_putTogether_1 : decode cX3_putTogether 1 = .ok (.getfield 15, 3) := by decide +kernel
theorem dX3_putTogether_4 : decode cX3_putTogether 4 = .ok (.iconst 0, 1) := by decide +kernel
theorem dX3_putTogether_5 : decode cX3_putTogether 5 = .ok (.invokestatic 37, 3) := by decide +kernel
theorem dX3_putTogether_8 : decode cX3_putTogether 8 = .ok (.istore_n 2, 1) := by decide +kernel
theorem dX3_putTogether_9 : decode cX3_putTogether 9 = .ok (.iconst 0, 1) := by decide +kernel
theorem dX3_putTogether_10 : decode cX3_putTogether 10 = .ok (.istore_n 3, 1) := by decide +kernel
theorem dX3_putTogether_11 : decode cX3_putTogether 11 = .ok (.iload_n 3, 1) := by decide +kernel
theorem dX3_putTogether_12 : decode cX3_putTogether 12 = .ok (.iload_n 2, 1) := by decide +kernel
theorem dX3_putTogether_13 : decode cX3_putTogether 13 = .ok (.if_icmp .ge 24, 3) := by decide +kernel
theorem dX3_putTogether_16 : decode cX3_putTogether 16 = .ok (.aload_n 0, 1) := by decide +kernel
theorem dX3_putTogether_17 : decode cX3_putTogether 17 = .ok (.getfield 9, 3) := by decide +kernel
theorem dX3_putTogether_20 : decode cX3_putTogether 20 = .ok (.iload_n 3, 1) := by decide +kernel
theorem dX3_putTogether_21 : decode cX3_putTogether 21 = .ok (.dup2, 1) := by decide +kernel
theorem dX3_putTogether_22 : decode cX3_putTogether 22 = .ok (.laload, 1) := by decide +kernel
theorem dX3_putTogether_23 : decode cX3_putTogether 23 = .ok (.aload_n 1, 1) := by decide +kernel
theorem dX3_putTogether_24 : decode cX3_putTogether 24 = .ok (.getfield 9, 3) := by decide +kernel
theorem dX3_putTogether_27 : decode cX3_putTogether 27 = .ok (.iload_n 3, 1) := by decide +kernel
theorem dX3_putTogether_28 : decode cX3_putTogether 28 = .ok (.laload, 1) := by decide +kernel
theorem dX3_putTogether_29 : decode cX3_putTogether 29 = .ok (.ladd, 1) := by decide +kernel
theorem dX3_putTogether_30 : decode cX3_putTogether 30 = .ok (.lastore, 1) := by decide +kernel
theorem dX3_putTogether_31 : decode cX3_putTogether 31 = .ok (.iinc 3 1, 3) := by decide +kernel
theorem dX3_putTogether_34 : decode cX3_putTogether 34 = .ok (.goto (-23), 3) := by decide +kernel
theorem dX3_putTogether_37 : decode cX3_putTogether 37 = .ok (.return_, 1) := by decide +kernel
theorem dX3_isAlike_0 : decode cX3_isAlike 0 = .ok (.aload_n 0, 1) := by decide +kernel
theorem dX3_isAlike_1 : decode cX3_isAlike 1 = .ok (.getfield 15, 3) := by decide +kernel
theorem dX3_isAlike_4 : decode cX3_isAlike 4 = .ok (.iconst 0, 1) := by decide +kernel
theorem dX3_isAlike_5 : decode cX3_isAlike 5 = .ok (.invokestatic 37, 3) := by decide +kernel
theorem dX3_isAlike_8 : decode cX3_isAlike 8 = .ok (.istore_n 2, 1) := by decide +kernel
theorem dX3_isAlike_9 : decode cX3_isAlike 9 = .ok (.iconst 0, 1) := by decide +kernel
theorem dX3_isAlike_10 : decode cX3_isAlike 10 = .ok (.istore_n 3, 1) := by decide +kernel
theorem dX3_isAlike_11 : decode cX3_isAlike 11 = .ok (.iload_n 3, 1) := by decide +kernel
theorem dX3_isAlike_12 : decode cX3_isAlike 12 = .ok (.iload_n 2, 1) := by decide +kernel
theorem dX3_isAlike_13 : decode cX3_isAlike 13 = .ok (.if_icmp .ge 27, 3) := by decide +kernel
theorem dX3_isAlike_16 : decode cX3_isAlike 16 = .ok (.aload_n 0, 1) := by decide +kernel
theorem dX3_isAlike_17 : decode cX3_isAlike 17 = .ok (.getfield 9, 3) := by decide +kernel
theorem dX3_isAlike_20 : decode cX3_isAlike 20 = .ok (.iload_n 3, 1) := by decide +kernel
theorem dX3_isAlike_21 : decode cX3_isAlike 21 = .ok (.laload, 1) := by decide +kernel
theorem dX3_isAlike_22 : decode cX3_isAlike 22 = .ok (.aload_n 1, 1) := by decide +kernel
theorem dX3_isAlike_23 : decode cX3_isAlike 23 = .ok (.getfield 9, 3) := by decide +kernel
theorem dX3_isAlike_26 : decode cX3_isAlike 26 = .ok (.iload_n 3, 1) := by decide +kernel
theorem dX3_isAlike_27 : decode cX3_isAlike 27 = .ok (.laload, 1) := by decide +kernel
theorem dX3_isAlike_28 : decode cX3_isAlike 28 = .ok (.lcmp, 1) := by decide +kernel
theorem dX3_isAlike_29 : decode cX3_isAlike 29 = .ok (.ifCond .eq 5, 3) := by decide +kernel
theorem dX3_isAlike_32 : decode cX3_isAlike 32 = .ok (.iconst 0, 1) := by decide +kernel
theorem dX3_isAlike_33 : decode cX3_isAlike 33 = .ok (.ireturn, 1) := by decide +kernel
theorem dX3_isAlike_34 : decode cX3_isAlike 34 = .ok (.iinc 3 1, 3) := by decide +kernel
theorem dX3_isAlike_37 : decode cX3_isAlike 37 = .ok (.goto (-26), 3) := by decide +kernel
theorem dX3_isAlike_40 : decode cX3_isAlike 40 = .ok (.iconst 1, 1) := by decide +kernel
theorem dX3_isAlike_41 : decode cX3_isAlike 41 = .ok (.ireturn, 1) := by decide +kernel
theorem dX3_keyOutOf_0 : decode cX3_keyOutOf 0 = .ok (.aload_n 0, 1) := by decide +kernel
theorem dX3_keyOutOf_1 : decode cX3_keyOutOf 1 = .ok (.lload_n 1, 1) := by decide +kernel
theorem dX3_keyOutOf_2 : decode cX3_keyOutOf 2 = .ok (.iload_n 3, 1) := by decide +kernel
theorem dX3_keyOutOf_3 : decode cX3_keyOutOf 3 = .ok (.iconst 0, 1) := by decide +kernel
theorem dX3_keyOutOf_4 : decode cX3_keyOutOf 4 = .ok (.invokevirtual 44, 3) := by decide +kernel
theorem dX3_keyOutOf_7 : decode cX3_keyOutOf 7 = .ok (.lstore 4, 2) := by decide +kernel
theorem dX3_keyOutOf_9 : decode cX3_keyOutOf 9 = .ok (.lload 4, 2) := by decide +kernel
theorem dX3_keyOutOf_11 : decode cX3_keyOutOf 11 = .ok (.lconst 1, 1) := by decide +kernel
theorem dX3_keyOutOf_12 : decode cX3_keyOutOf 12 = .ok (.lcmp, 1) := by decide +kernel
theorem dX3_keyOutOf_13 : decode cX3_keyOutOf 13 = .ok (.ifCond .eq 15, 3) := by decide +kernel
theorem dX3_keyOutOf_16 : decode cX3_keyOutOf 16 = .ok (.lload 4, 2) := by decide +kernel
theorem dX3_keyOutOf_18 : decode cX3_keyOutOf 18 = .ok (.ldc2_w 48, 3) := by decide +kernel
theorem dX3_keyOutOf_21 : decode cX3_keyOutOf 21 = .ok (.lcmp, 1) := by decide +kernel
theorem dX3_keyOutOf_22 : decode cX3_keyOutOf 22 = .ok (.ifCond .eq 6, 3) := by decide +kernel
theorem dX3_keyOutOf_25 : decode cX3_keyOutOf 25 = .ok (.bipush (-2), 2) := by decide +kernel
theorem dX3_keyOutOf_27 : decode cX3_keyOutOf 27 = .ok (.ireturn, 1) := by decide +kernel
theorem dX3_keyOutOf_28 : decode cX3_keyOutOf 28 = .ok (.aload_n 0, 1) := by decide +kernel
theorem dX3_keyOutOf_29 : decode cX3_keyOutOf 29 = .ok (.lload_n 1, 1) := by decide +kernel
theorem dX3_keyOutOf_30 : decode cX3_keyOutOf 30 = .ok (.iload_n 3, 1) := by decide +kernel
theorem dX3_keyOutOf_31 : decode cX3_keyOutOf 31 = .ok (.iconst 1, 1) := by decide +kernel
theorem dX3_keyOutOf_32 : decode cX3_keyOutOf 32 = .ok (.invokevirtual 44, 3) := by decide +kernel
theorem dX3_keyOutOf_35 : decode cX3_keyOutOf 35 = .ok (.lload 4, 2) := by decide +kernel
theorem dX3_keyOutOf_37 : decode cX3_keyOutOf 37 = .ok (.lmul, 1) := by decide +kernel
theorem dX3_keyOutOf_38 : decode cX3_keyOutOf 38 = .ok (.lstore 6, 2) := by decide +kernel
theorem dX3_keyOutOf_40 : decode cX3_keyOutOf 40 = .ok (.lload 6, 2) := by decide +kernel
theorem dX3_keyOutOf_42 : decode cX3_keyOutOf 42 = .ok (.lconst 0, 1) := by decide +kernel
theorem dX3_keyOutOf_43 : decode cX3_keyOutOf 43 = .ok (.lcmp, 1) := by decide +kernel
theorem dX3_keyOutOf_44 : decode cX3_keyOutOf 44 = .ok (.ifCond .lt 37, 3) := by decide +kernel
theorem dX3_keyOutOf_47 : decode cX3_keyOutOf 47 = .ok (.lload 6, 2) := by decide +kernel
theorem dX3_keyOutOf_49 : decode cX3_keyOutOf 49 = .ok (.aload_n 0, 1) := by decide +kernel
theorem dX3_keyOutOf_50 : decode cX3_keyOutOf 50 = .ok (.getfield 15, 3) := by decide +kernel
theorem dX3_keyOutOf_53 : decode cX3_keyOutOf 53 = .ok (.iconst 0, 1) := by decide +kernel
theorem dX3_keyOutOf_54 : decode cX3_keyOutOf 54 = .ok (.invokestatic 29, 3) := by decide +kernel
theorem dX3_keyOutOf_57 : decode cX3_keyOutOf 57 = .ok (.i2l, 1) := by decide +kernel
theorem dX3_keyOutOf_58 : decode cX3_keyOutOf 58 = .ok (.lcmp, 1) := by decide +kernel
theorem dX3_keyOutOf_59 : decode cX3_keyOutOf 59 = .ok (.ifCond .ge 22, 3) := by decide +kernel
theorem dX3_keyOutOf_62 : decode cX3_keyOutOf 62 = .ok (.aload_n 0, 1) := by decide +kernel
theorem dX3_keyOutOf_63 : decode cX3_keyOutOf 63 = .ok (.lload_n 1, 1) := by decide +kernel
theorem dX3_keyOutOf_64 : decode cX3_keyOutOf 64 = .ok (.iload_n 3, 1) := by decide +kernel
theorem dX3_keyOutOf_65 : decode cX3_keyOutOf 65 = .ok (.iconst 2, 1) := by decide +kernel
theorem dX3_keyOutOf_66 : decode cX3_keyOutOf 66 = .ok (.invokevirtual 44, 3) := by decide +kernel
theorem dX3_keyOutOf_69 : decode cX3_keyOutOf 69 = .ok (.lload 4, 2) := by decide +kernel
theorem dX3_keyOutOf_71 : decode cX3_keyOutOf 71 = .ok (.lmul, 1) := by decide +kernel
theorem dX3_keyOutOf_72 : decode cX3_keyOutOf 72 = .ok (.lload 6, 2) := by decide +kernel
theorem dX3_keyOutOf_74 : decode cX3_keyOutOf 74 = .ok (.lload 6, 2) := by decide +kernel
theorem dX3_keyOutOf_76 : decode cX3_keyOutOf 76 = .ok (.lmul, 1) := by decide +kernel
theorem dX3_keyOutOf_77 : decode cX3_keyOutOf 77 = .ok (.lcmp, 1) := by decide +kernel
theorem dX3_keyOutOf_78 : decode cX3_keyOutOf 78 = .ok (.ifCond .eq 6, 3) := by decide +kernel
theorem dX3_keyOutOf_81 : decode cX3_keyOutOf 81 = .ok (.bipush (-2), 2) := by decide +kernel
theorem dX3_keyOutOf_83 : decode cX3_keyOutOf 83 = .ok (.ireturn, 1) := by decide +kernel
theorem dX3_keyOutOf_84 : decode cX3_keyOutOf 84 = .ok (.lload 6, 2) := by decide +kernel
theorem dX3_keyOutOf_86 : decode cX3_keyOutOf 86 = .ok (.l2i, 1) := by decide +kernel
theorem dX3_keyOutOf_87 : decode cX3_keyOutOf 87 = .ok (.invokestatic 50, 3) := by decide +kernel
theorem dX3_keyOutOf_90 : decode cX3_keyOutOf 90 = .ok (.istore 8, 2) := by decide +kernel
theorem dX3_keyOutOf_92 : decode cX3_keyOutOf 92 = .ok (.lload 6, 2) := by decide +kernel
theorem dX3_keyOutOf_94 : decode cX3_keyOutOf 94 = .ok (.l2i, 1) := by decide +kernel
theorem dX3_keyOutOf_95 : decode cX3_keyOutOf 95 = .ok (.invokestatic 54, 3) := by decide +kernel
theorem dX3_keyOutOf_98 : decode cX3_keyOutOf 98 = .ok (.istore 9, 2) := by decide +kernel
theorem dX3_keyOutOf_100 : decode cX3_keyOutOf 100 = .ok (.iload 8, 2) := by decide +kernel
theorem dX3_keyOutOf_102 : decode cX3_keyOutOf 102 = .ok (.iload 9, 2) := by decide +kernel
theorem dX3_keyOutOf_104 : decode cX3_keyOutOf 104 = .ok (.if_icmp .ge 12, 3) := by decide +kernel
theorem dX3_keyOutOf_107 : decode cX3_keyOutOf 107 = .ok (.iload 9, 2) := by decide +kernel
theorem dX3_keyOutOf_109 : decode cX3_keyOutOf 109 = .ok (.aload_n 0, 1) := by decide +kernel
theorem dX3_keyOutOf_110 : decode cX3_keyOutOf 110 = .ok (.getfield 15, 3) := by decide +kernel
theorem dX3_keyOutOf_113 : decode cX3_keyOutOf 113 = .ok (.if_icmp .lt 6, 3) := by decide +kernel
theorem dX3_keyOutOf_116 : decode cX3_keyOutOf 116 = .ok (.bipush (-2), 2) := by decide +kernel
theorem dX3_keyOutOf_118 : decode cX3_keyOutOf 118 = .ok (.ireturn, 1) := by decide +kernel
theorem dX3_keyOutOf_119 : decode cX3_keyOutOf 119 = .ok (.lload_n 1, 1) := by decide +kernel
theorem dX3_keyOutOf_120 : decode cX3_keyOutOf 120 = .ok (.iload 8, 2) := by decide +kernel
theorem dX3_keyOutOf_122 : decode cX3_keyOutOf 122 = .ok (.invokestatic 57, 3) := by decide +kernel
theorem dX3_keyOutOf_125 : decode cX3_keyOutOf 125 = .ok (.lload 4, 2) := by decide +kernel
theorem dX3_keyOutOf_127 : decode cX3_keyOutOf 127 = .ok (.lconst 1, 1) := by decide +kernel
theorem dX3_keyOutOf_128 : decode cX3_keyOutOf 128 = .ok (.lcmp, 1) := by decide +kernel
theorem dX3_keyOutOf_129 : decode cX3_keyOutOf 129 = .ok (.ifCond .ne 7, 3) := by decide +kernel
theorem dX3_keyOutOf_132 : decode cX3_keyOutOf 132 = .ok (.iconst 1, 1) := by decide +kernel
theorem dX3_keyOutOf_133 : decode cX3_keyOutOf 133 = .ok (.goto 4, 3) := by decide +kernel
theorem dX3_keyOutOf_136 : decode cX3_keyOutOf 136 = .ok (.iconst 0, 1) := by decide +kernel
theorem dX3_keyOutOf_137 : decode cX3_keyOutOf 137 = .ok (.if_icmp .ne 30, 3) := by decide +kernel
theorem dX3_keyOutOf_140 : decode cX3_keyOutOf 140 = .ok (.lload_n 1, 1) := by decide +kernel
theorem dX3_keyOutOf_141 : decode cX3_keyOutOf 141 = .ok (.iload 9, 2) := by decide +kernel
theorem dX3_keyOutOf_143 : decode cX3_keyOutOf 143 = .ok (.invokestatic 57, 3) := by decide +kernel
theorem dX3_keyOutOf_146 : decode cX3_keyOutOf 146 = .ok (.lload 4, 2) := by decide +kernel
theorem dX3_keyOutOf_148 : decode cX3_keyOutOf 148 = .ok (.ldc2_w 48, 3) := by decide +kernel
theorem dX3_keyOutOf_151 : decode cX3_keyOutOf 151 = .ok (.lcmp, 1) := by decide +kernel
theorem dX3_keyOutOf_152 : decode cX3_keyOutOf 152 = .ok (.ifCond .ne 7, 3) := by decide +kernel
theorem dX3_keyOutOf_155 : decode cX3_keyOutOf 155 = .ok (.iconst 1, 1) := by decide +kernel
theorem dX3_keyOutOf_156 : decode cX3_keyOutOf 156 = .ok (.goto 4, 3) := by decide +kernel
theorem dX3_keyOutOf_159 : decode cX3_keyOutOf 159 = .ok (.iconst 0, 1) := by decide +kernel
theorem dX3_keyOutOf_160 : decode cX3_keyOutOf 160 = .ok (.if_icmp .ne 7, 3) := by decide +kernel
theorem dX3_keyOutOf_163 : decode cX3_keyOutOf 163 = .ok (.iconst 1, 1) := by decide +kernel
theorem dX3_keyOutOf_164 : decode cX3_keyOutOf 164 = .ok (.goto 4, 3) := by decide +kernel
theorem dX3_keyOutOf_167 : decode cX3_keyOutOf 167 = .ok (.iconst 0, 1) := by decide +kernel
theorem dX3_keyOutOf_168 : decode cX3_keyOutOf 168 = .ok (.istore 10, 2) := by decide +kernel
theorem dX3_keyOutOf_170 : decode cX3_keyOutOf 170 = .ok (.iload 10, 2) := by decide +kernel
theorem dX3_keyOutOf_172 : decode cX3_keyOutOf 172 = .ok (.ifCond .eq 9, 3) := by decide +kernel
theorem dX3_keyOutOf_175 : decode cX3_keyOutOf 175 = .ok (.lload 6, 2) := by decide +kernel
theorem dX3_keyOutOf_177 : decode cX3_keyOutOf 177 = .ok (.l2i, 1) := by decide +kernel
theorem dX3_keyOutOf_178 : decode cX3_keyOutOf 178 = .ok (.goto 5, 3) := by decide +kernel
theorem dX3_keyOutOf_181 : decode cX3_keyOutOf 181 = .ok (.bipush (-2), 2) := by decide +kernel
theorem dX3_keyOutOf_183 : decode cX3_keyOutOf 183 = .ok (.ireturn, 1) := by decide +kernel
theorem dX3_isNothing_0 : decode cX3_isNothing 0 = .ok (.aload_n 0, 1) := by decide +kernel
theorem dX3_isNothing_1 : decode cX3_isNothing 1 = .ok (.lload_n 1, 1) := by decide +kernel
theorem dX3_isNothing_2 : decode cX3_isNothing 2 = .ok (.iconst 0, 1) := by decide +kernel
theorem dX3_isNothing_3 : decode cX3_isNothing 3 = .ok (.iconst 0, 1) := by decide +kernel
theorem dX3_isNothing_4 : decode cX3_isNothing 4 = .ok (.invokevirtual 44, 3) := by decide +kernel
theorem dX3_isNothing_7 : decode cX3_isNothing 7 = .ok (.lconst 0, 1) := by decide +kernel
theorem dX3_isNothing_8 : decode cX3_isNothing 8 = .ok (.lcmp, 1) := by decide +kernel
theorem dX3_isNothing_9 : decode cX3_isNothing 9 = .ok (.ifCond .ne 31, 3) := by decide +kernel
theorem dX3_isNothing_12 : decode cX3_isNothing 12 = .ok (.aload_n 0, 1) := by decide +kernel
theorem dX3_isNothing_13 : decode cX3_isNothing 13 = .ok (.lload_n 1, 1) := by decide +kernel
theorem dX3_isNothing_14 : decode cX3_isNothing 14 = .ok (.iconst 0, 1) := by decide +kernel
theorem dX3_isNothing_15 : decode cX3_isNothing 15 = .ok (.iconst 1, 1) := by decide +kernel
theorem dX3_isNothing_16 : decode cX3_isNothing 16 = .ok (.invokevirtual 44, 3) := by decide +kernel
theorem dX3_isNothing_19 : decode cX3_isNothing 19 = .ok (.lconst 0, 1) := by decide +kernel
theorem dX3_isNothing_20 : decode cX3_isNothing 20 = .ok (.lcmp, 1) := by decide +kernel
theorem dX3_isNothing_21 : decode cX3_isNothing 21 = .ok (.ifCond .ne 19, 3) := by decide +kernel
theorem dX3_isNothing_24 : decode cX3_isNothing 24 = .ok (.aload_n 0, 1) := by decide +kernel
theorem dX3_isNothing_25 : decode cX3_isNothing 25 = .ok (.lload_n 1, 1) := by decide +kernel
theorem dX3_isNothing_26 : decode cX3_isNothing 26 = .ok (.iconst 0, 1) := by decide +kernel
theorem dX3_isNothing_27 : decode cX3_isNothing 27 = .ok (.iconst 2, 1) := by decide +kernel
theorem dX3_isNothing_28 : decode cX3_isNothing 28 = .ok (.invokevirtual 44, 3) := by decide +kernel
theorem dX3_isNothing_31 : decode cX3_isNothing 31 = .ok (.lconst 0, 1) := by decide +kernel
theorem dX3_isNothing_32 : decode cX3_isNothing 32 = .ok (.lcmp, 1) := by decide +kernel
theorem dX3_isNothing_33 : decode cX3_isNothing 33 = .ok (.ifCond .ne 7, 3) := by decide +kernel
theorem dX3_isNothing_36 : decode cX3_isNothing 36 = .ok (.iconst 1, 1) := by decide +kernel
theorem dX3_isNothing_37 : decode cX3_isNothing 37 = .ok (.goto 4, 3) := by decide +kernel
theorem dX3_isNothing_40 : decode cX3_isNothing 40 = .ok (.iconst 0, 1) := by decide +kernel
theorem dX3_isNothing_41 : decode cX3_isNothing 41 = .ok (.ireturn, 1) := by decide +kernel
theorem dX3_sumOf_0 : decode cX3_sumOf 0 = .ok (.lconst 0, 1) := by decide +kernel
theorem dX3_sumOf_1 : decode cX3_sumOf 1 = .ok (.lstore 5, 2) := by decide +kernel
theorem dX3_sumOf_3 : decode cX3_sumOf 3 = .ok (.iconst 0, 1) := by decide +kernel
theorem dX3_sumOf_4 : decode cX3_sumOf 4 = .ok (.istore 7, 2) := by decide +kernel
theorem dX3_sumOf_6 : decode cX3_sumOf 6 = .ok (.iload 7, 2) := by decide +kernel
theorem dX3_sumOf_8 : decode cX3_sumOf 8 = .ok (.aload_n 0, 1) := by decide +kernel
theorem dX3_sumOf_9 : decode cX3_sumOf 9 = .ok (.getfield 15, 3) := by decide +kernel
theorem dX3_sumOf_12 : decode cX3_sumOf 12 = .ok (.if_icmp .ge 37, 3) := by decide +kernel
theorem dX3_sumOf_15 : decode cX3_sumOf 15 = .ok (.lload_n 1, 1) := by decide +kernel
theorem dX3_sumOf_16 : decode cX3_sumOf 16 = .ok (.iload 7, 2) := by decide +kernel
theorem dX3_sumOf_18 : decode cX3_sumOf 18 = .ok (.invokestatic 57, 3) := by decide +kernel
theorem dX3_sumOf_21 : decode cX3_sumOf 21 = .ok (.ifCond .eq 22, 3) := by decide +kernel
theorem dX3_sumOf_24 : decode cX3_sumOf 24 = .ok (.lload 5, 2) := by decide +kernel
theorem dX3_sumOf_26 : decode cX3_sumOf 26 = .ok (.aload_n 0, 1) := by decide +kernel
theorem dX3_sumOf_27 : decode cX3_sumOf 27 = .ok (.getfield 9, 3) := by decide +kernel
theorem dX3_sumOf_30 : decode cX3_sumOf 30 = .ok (.iload 7, 2) := by decide +kernel
theorem dX3_sumOf_32 : decode cX3_sumOf 32 = .ok (.iload_n 3, 1) := by decide +kernel
theorem dX3_sumOf_33 : decode cX3_sumOf 33 = .ok (.invokestatic 37, 3) := by decide +kernel
theorem dX3_sumOf_36 : decode cX3_sumOf 36 = .ok (.iload 4, 2) := by decide +kernel
theorem dX3_sumOf_38 : decode cX3_sumOf 38 = .ok (.iadd, 1) := by decide +kernel
theorem dX3_sumOf_39 : decode cX3_sumOf 39 = .ok (.laload, 1) := by decide +kernel
theorem dX3_sumOf_40 : decode cX3_sumOf 40 = .ok (.ladd, 1) := by decide +kernel
theorem dX3_sumOf_41 : decode cX3_sumOf 41 = .ok (.lstore 5, 2) := by decide +kernel
theorem dX3_sumOf_43 : decode cX3_sumOf 43 = .ok (.iinc 7 1, 3) := by decide +kernel
theorem dX3_sumOf_46 : decode cX3_sumOf 46 = .ok (.goto (-40), 3) := by decide +kernel
theorem dX3_sumOf_49 : decode cX3_sumOf 49 = .ok (.lload 5, 2) := by decide +kernel
theorem dX3_sumOf_51 : decode cX3_sumOf 51 = .ok (.lreturn, 1) := by decide +kernel
theorem dX3_addTo_0 : decode cX3_addTo 0 = .ok (.aload_n 0, 1) := by decide +kernel
theorem dX3_addTo_1 : decode cX3_addTo 1 = .ok (.getfield 9, 3) := by decide +kernel
theorem dX3_addTo_4 : decode cX3_addTo 4 = .ok (.iload_n 1, 1) := by decide +kernel
theorem dX3_addTo_5 : decode cX3_addTo 5 = .ok (.dup2, 1) := by decide +kernel
theorem dX3_addTo_6 : decode cX3_addTo 6 = .ok (.laload, 1) := by decide +kernel
theorem dX3_addTo_7 : decode cX3_addTo 7 = .ok (.iload 4, 2) := by decide +kernel
theorem dX3_addTo_9 : decode cX3_addTo 9 = .ok (.i2l, 1) := by decide +kernel
theorem dX3_addTo_10 : decode cX3_addTo 10 = .ok (.ladd, 1) := by decide +kernel
theorem dX3_addTo_11 : decode cX3_addTo 11 = .ok (.lastore, 1) := by decide +kernel
theorem dX3_addTo_12 : decode cX3_addTo 12 = .ok (.aload_n 0, 1) := by decide +kernel
theorem dX3_addTo_13 : decode cX3_addTo 13 = .ok (.getfield 9, 3) := by decide +kernel
theorem dX3_addTo_16 : decode cX3_addTo 16 = .ok (.iload_n 1, 1) := by decide +kernel
theorem dX3_addTo_17 : decode cX3_addTo 17 = .ok (.iconst 1, 1) := by decide +kernel
theorem dX3_addTo_18 : decode cX3_addTo 18 = .ok (.iadd, 1) := by decide +kernel
theorem dX3_addTo_19 : decode cX3_addTo 19 = .ok (.dup2, 1) := by decide +kernel
theorem dX3_addTo_20 : decode cX3_addTo 20 = .ok (.laload, 1) := by decide +kernel
theorem dX3_addTo_21 : decode cX3_addTo 21 = .ok (.iload 4, 2) := by decide +kernel
theorem dX3_addTo_23 : decode cX3_addTo 23 = .ok (.i2l, 1) := by decide +kernel
theorem dX3_addTo_24 : decode cX3_addTo 24 = .ok (.lload_n 2, 1) := by decide +kernel
theorem dX3_addTo_25 : decode cX3_addTo 25 = .ok (.lmul, 1) := by decide +kernel
theorem dX3_addTo_26 : decode cX3_addTo 26 = .ok (.ladd, 1) := by decide +kernel
theorem dX3_addTo_27 : decode cX3_addTo 27 = .ok (.lastore, 1) := by decide +kernel
theorem dX3_addTo_28 : decode cX3_addTo 28 = .ok (.aload_n 0, 1) := by decide +kernel
theorem dX3_addTo_29 : decode cX3_addTo 29 = .ok (.getfield 9, 3) := by decide +kernel
theorem dX3_addTo_32 : decode cX3_addTo 32 = .ok (.iload_n 1, 1) := by decide +kernel
theorem dX3_addTo_33 : decode cX3_addTo 33 = .ok (.iconst 2, 1) := by decide +kernel
theorem dX3_addTo_34 : decode cX3_addTo 34 = .ok (.iadd, 1) := by decide +kernel
theorem dX3_addTo_35 : decode cX3_addTo 35 = .ok (.dup2, 1) := by decide +kernel
theorem dX3_addTo_36 : decode cX3_addTo 36 = .ok (.laload, 1) := by decide +kernel
theorem dX3_addTo_37 : decode cX3_addTo 37 = .ok (.iload 4, 2) := by decide +kernel
theorem dX3_addTo_39 : decode cX3_addTo 39 = .ok (.i2l, 1) := by decide +kernel
theorem dX3_addTo_40 : decode cX3_addTo 40 = .ok (.lload_n 2, 1) := by decide +kernel
theorem dX3_addTo_41 : decode cX3_addTo 41 = .ok (.lmul, 1) := by decide +kernel
theorem dX3_addTo_42 : decode cX3_addTo 42 = .ok (.lload_n 2, 1) := by decide +kernel
theorem dX3_addTo_43 : decode cX3_addTo 43 = .ok (.lmul, 1) := by decide +kernel
theorem dX3_addTo_44 : decode cX3_addTo 44 = .ok (.ladd, 1) := by decide +kernel
theorem dX3_addTo_45 : decode cX3_addTo 45 = .ok (.lastore, 1) := by decide +kernel
theorem dX3_addTo_46 : decode cX3_addTo 46 = .ok (.return_, 1) := by decide +kernel
theorem dX3_levelOf_0 : decode cX3_levelOf 0 = .ok (.aload_n 0, 1) := by decide +kernel
theorem dX3_levelOf_1 : decode cX3_levelOf 1 = .ok (.getfield 19, 3) := by decide +kernel
theorem dX3_levelOf_4 : decode cX3_levelOf 4 = .ok (.lload_n 1, 1) := by decide +kernel
theorem dX3_levelOf_5 : decode cX3_levelOf 5 = .ok (.lconst 1, 1) := by decide +kernel
theorem dX3_levelOf_6 : decode cX3_levelOf 6 = .ok (.ladd, 1) := by decide +kernel
theorem dX3_levelOf_7 : decode cX3_levelOf 7 = .ok (.ldc2_w 61, 3) := by decide +kernel
theorem dX3_levelOf_10 : decode cX3_levelOf 10 = .ok (.lmul, 1) := by decide +kernel
theorem dX3_levelOf_11 : decode cX3_levelOf 11 = .ok (.ladd, 1) := by decide +kernel
theorem dX3_levelOf_12 : decode cX3_levelOf 12 = .ok (.lstore_n 3, 1) := by decide +kernel
theorem dX3_levelOf_13 : decode cX3_levelOf 13 = .ok (.lload_n 3, 1) := by decide +kernel
theorem dX3_levelOf_14 : decode cX3_levelOf 14 = .ok (.lload_n 3, 1) := by decide +kernel
theorem dX3_levelOf_15 : decode cX3_levelOf 15 = .ok (.bipush 30, 2) := by decide +kernel
theorem dX3_levelOf_17 : decode cX3_levelOf 17 = .ok (.lushr, 1) := by decide +kernel
theorem dX3_levelOf_18 : decode cX3_levelOf 18 = .ok (.lxor, 1) := by decide +kernel
theorem dX3_levelOf_19 : decode cX3_levelOf 19 = .ok (.ldc2_w 63, 3) := by decide +kernel
theorem dX3_levelOf_22 : decode cX3_levelOf 22 = .ok (.lmul, 1) := by decide +kernel
theorem dX3_levelOf_23 : decode cX3_levelOf 23 = .ok (.lstore_n 3, 1) := by decide +kernel
theorem dX3_levelOf_24 : decode cX3_levelOf 24 = .ok (.lload_n 3, 1) := by decide +kernel
theorem dX3_levelOf_25 : decode cX3_levelOf 25 = .ok (.lload_n 3, 1) := by decide +kernel
theorem dX3_levelOf_26 : decode cX3_levelOf 26 = .ok (.bipush 27, 2) := by decide +kernel
theorem dX3_levelOf_28 : decode cX3_levelOf 28 = .ok (.lushr, 1) := by decide +kernel
theorem dX3_levelOf_29 : decode cX3_levelOf 29 = .ok (.lxor, 1) := by decide +kernel
theorem dX3_levelOf_30 : decode cX3_levelOf 30 = .ok (.ldc2_w 65, 3) := by decide +kernel
theorem dX3_levelOf_33 : decode cX3_levelOf 33 = .ok (.lmul, 1) := by decide +kernel
theorem dX3_levelOf_34 : decode cX3_levelOf 34 = .ok (.lstore_n 3, 1) := by decide +kernel
theorem dX3_levelOf_35 : decode cX3_levelOf 35 = .ok (.lload_n 3, 1) := by decide +kernel
theorem dX3_levelOf_36 : decode cX3_levelOf 36 = .ok (.lload_n 3, 1) := by decide +kernel
theorem dX3_levelOf_37 : decode cX3_levelOf 37 = .ok (.bipush 31, 2) := by decide +kernel
theorem dX3_levelOf_39 : decode cX3_levelOf 39 = .ok (.lushr, 1) := by decide +kernel
theorem dX3_levelOf_40 : decode cX3_levelOf 40 = .ok (.lxor, 1) := by decide +kernel
theorem dX3_levelOf_41 : decode cX3_levelOf 41 = .ok (.lstore_n 3, 1) := by decide +kernel
theorem dX3_levelOf_42 : decode cX3_levelOf 42 = .ok (.iconst 0, 1) := by decide +kernel
theorem dX3_levelOf_43 : decode cX3_levelOf 43 = .ok (.istore 5, 2) := by decide +kernel
theorem dX3_levelOf_45 : decode cX3_levelOf 45 = .ok (.iload 5, 2) := by decide +kernel
theorem dX3_levelOf_47 : decode cX3_levelOf 47 = .ok (.bipush 9, 2) := by decide +kernel
theorem dX3_levelOf_49 : decode cX3_levelOf 49 = .ok (.if_icmp .ge 18, 3) := by decide +kernel
theorem dX3_levelOf_52 : decode cX3_levelOf 52 = .ok (.lload_n 3, 1) := by decide +kernel
theorem dX3_levelOf_53 : decode cX3_levelOf 53 = .ok (.iload 5, 2) := by decide +kernel
theorem dX3_levelOf_55 : decode cX3_levelOf 55 = .ok (.invokestatic 57, 3) := by decide +kernel
theorem dX3_levelOf_58 : decode cX3_levelOf 58 = .ok (.ifCond .ne 9, 3) := by decide +kernel
theorem dX3_levelOf_61 : decode cX3_levelOf 61 = .ok (.iinc 5 1, 3) := by decide +kernel
theorem dX3_levelOf_64 : decode cX3_levelOf 64 = .ok (.goto (-19), 3) := by decide +kernel
theorem dX3_levelOf_67 : decode cX3_levelOf 67 = .ok (.iload 5, 2) := by decide +kernel
theorem dX3_levelOf_69 : decode cX3_levelOf 69 = .ok (.ireturn, 1) := by decide +kernel
theorem dX4_init_0 : decode cX4_init 0 = .ok (.aload_n 0, 1) := by decide +kernel
theorem dX4_init_1 : decode cX4_init 1 = .ok (.invokespecial 3, 3) := by decide +kernel
theorem dX4_init_4 : decode cX4_init 4 = .ok (.aload_n 0, 1) := by decide +kernel
theorem dX4_init_5 : decode cX4_init 5 = .ok (.new 9, 3) := by decide +kernel
theorem dX4_init_8 : decode cX4_init 8 = .ok (.dup, 1) := by decide +kernel
theorem dX4_init_9 : decode cX4_init 9 = .ok (.invokespecial 11, 3) := by decide +kernel
theorem dX4_init_12 : decode cX4_init 12 = .ok (.putfield 12, 3) := by decide +kernel
theorem dX4_init_15 : decode cX4_init 15 = .ok (.aload_n 0, 1) := by decide +kernel
theorem dX4_init_16 : decode cX4_init 16 = .ok (.new 18, 3) := by decide +kernel
theorem dX4_init_19 : decode cX4_init 19 = .ok (.dup, 1) := by decide +kernel
theorem dX4_init_20 : decode cX4_init 20 = .ok (.invokespecial 20, 3) := by decide +kernel
theorem dX4_init_23 : decode cX4_init 23 = .ok (.putfield 21, 3) := by decide +kernel
theorem dX4_init_26 : decode cX4_init 26 = .ok (.aload_n 0, 1) := by decide +kernel
theorem dX4_init_27 : decode cX4_init 27 = .ok (.new 25, 3) := by decide +kernel
theorem dX4_init_30 : decode cX4_init 30 = .ok (.dup, 1) := by decide +kernel
theorem dX4_init_31 : decode cX4_init 31 = .ok (.invokespecial 27, 3) := by decide +kernel
theorem dX4_init_34 : decode cX4_init 34 = .ok (.putfield 28, 3) := by decide +kernel
theorem dX4_init_37 : decode cX4_init 37 = .ok (.aload_n 0, 1) := by decide +kernel
theorem dX4_init_38 : decode cX4_init 38 = .ok (.new 32, 3) := by decide +kernel
theorem dX4_init_41 : decode cX4_init 41 = .ok (.dup, 1) := by decide +kernel
theorem dX4_init_42 : decode cX4_init 42 = .ok (.invokespecial 34, 3) := by decide +kernel
theorem dX4_init_45 : decode cX4_init 45 = .ok (.putfield 35, 3) := by decide +kernel
theorem dX4_init_48 : decode cX4_init 48 = .ok (.aload_n 0, 1) := by decide +kernel
theorem dX4_init_49 : decode cX4_init 49 = .ok (.new 39, 3) := by decide +kernel
theorem dX4_init_52 : decode cX4_init 52 = .ok (.dup, 1) := by decide +kernel
theorem dX4_init_53 : decode cX4_init 53 = .ok (.invokespecial 41, 3) := by decide +kernel
theorem dX4_init_56 : decode cX4_init 56 = .ok (.putfield 42, 3) := by decide +kernel
theorem dX4_init_59 : decode cX4_init 59 = .ok (.aload_n 0, 1) := by decide +kernel
theorem dX4_init_60 : decode cX4_init 60 = .ok (.iconst 2, 1) := by decide +kernel
theorem dX4_init_61 : decode cX4_init 61 = .ok (.iconst 1, 1) := by decide +kernel
theorem dX4_init_62 : decode cX4_init 62 = .ok (.iconst 1, 1) := by decide +kernel
theorem dX4_init_63 : decode cX4_init 63 = .ok (.lconst 0, 1) := by decide +kernel
theorem dX4_init_64 : decode cX4_init 64 = .ok (.invokevirtual 46, 3) := by decide +kernel
theorem dX4_init_67 : decode cX4_init 67 = .ok (.return_, 1) := by decide +kernel
theorem dX4_restart_0 : decode cX4_restart 0 = .ok (.aload_n 0, 1) := by decide +kernel
theorem dX4_restart_1 : decode cX4_restart 1 = .ok (.iload_n 1, 1) := by decide +kernel
theorem dX4_restart_2 : decode cX4_restart 2 = .ok (.putfield 50, 3) := by decide +kernel
theorem dX4_restart_5 : decode cX4_restart 5 = .ok (.aload_n 0, 1) := by decide +kernel
theorem dX4_restart_6 : decode cX4_restart 6 = .ok (.iload_n 2, 1) := by decide +kernel
theorem dX4_restart_7 : decode cX4_restart 7 = .ok (.putfield 54, 3) := by decide +kernel
theorem dX4_restart_10 : decode cX4_restart 10 = .ok (.aload_n 0, 1) := by decide +kernel
theorem dX4_restart_11 : decode cX4_restart 11 = .ok (.iload_n 3, 1) := by decide +kernel
theorem dX4_restart_12 : decode cX4_restart 12 = .ok (.putfield 57, 3) := by decide +kernel
theorem dX4_restart_15 : decode cX4_restart 15 = .ok (.aload_n 0, 1) := by decide +kernel
theorem dX4_restart_16 : decode cX4_restart 16 = .ok (.lload 4, 2) := by decide +kernel
theorem dX4_restart_18 : decode cX4_restart 18 = .ok (.putfield 60, 3) := by decide +kernel
theorem dX4_restart_21 : decode cX4_restart 21 = .ok (.aload_n 0, 1) := by decide +kernel
theorem dX4_restart_22 : decode cX4_restart 22 = .ok (.iconst 0, 1) := by decide +kernel
theorem dX4_restart_23 : decode cX4_restart 23 = .ok (.putfield 64, 3) := by decide +kernel
theorem dX4_restart_26 : decode cX4_restart 26 = .ok (.aload_n 0, 1) := by decide +kernel
theorem dX4_restart_27 : decode cX4_restart 27 = .ok (.getfield 12, 3) := by decide +kernel
theorem dX4_restart_30 : decode cX4_restart 30 = .ok (.iload_n 1, 1) := by decide +kernel
theorem dX4_restart_31 : decode cX4_restart 31 = .ok (.iload_n 2, 1) := by decide +kernel
theorem dX4_restart_32 : decode cX4_restart 32 = .ok (.invokevirtual 67, 3) := by decide +kernel
theorem dX4_restart_35 : decode cX4_restart 35 = .ok (.aload_n 0, 1) := by decide +kernel
theorem dX4_restart_36 : decode cX4_restart 36 = .ok (.getfield 21, 3) := by decide +kernel
theorem dX4_restart_39 : decode cX4_restart 39 = .ok (.invokevirtual 70, 3) := by decide +kernel
theorem dX4_restart_42 : decode cX4_restart 42 = .ok (.aload_n 0, 1) := by decide +kernel
theorem dX4_restart_43 : decode cX4_restart 43 = .ok (.getfield 28, 3) := by decide +kernel
theorem dX4_restart_46 : decode cX4_restart 46 = .ok (.iload_n 1, 1) := by decide +kernel
theorem dX4_restart_47 : decode cX4_restart 47 = .ok (.iload_n 3, 1) := by decide +kernel
theorem dX4_restart_48 : decode cX4_restart 48 = .ok (.invokevirtual 72, 3) := by decide +kernel
theorem dX4_restart_51 : decode cX4_restart 51 = .ok (.aload_n 0, 1) := by decide +kernel
theorem dX4_restart_52 : decode cX4_restart 52 = .ok (.getfield 35, 3) := by decide +kernel
theorem dX4_restart_55 : decode cX4_restart 55 = .ok (.invokevirtual 73, 3) := by decide +kernel
theorem dX4_restart_58 : decode cX4_restart 58 = .ok (.aload_n 0, 1) := by decide +kernel
theorem dX4_restart_59 : decode cX4_restart 59 = .ok (.getfield 42, 3) := by decide +kernel
theorem dX4_restart_62 : decode cX4_restart 62 = .ok (.iload_n 1, 1) := by decide +kernel
theorem dX4_restart_63 : decode cX4_restart 63 = .ok (.lload 4, 2) := by decide +kernel
theorem dX4_restart_65 : decode cX4_restart 65 = .ok (.invokevirtual 74, 3) := by decide +kernel
theorem dX4_restart_68 : decode cX4_restart 68 = .ok (.return_, 1) := by decide +kernel
theorem dX4_accept_0 : decode cX4_accept 0 = .ok (.iload_n 1, 1) := by decide +kernel
theorem dX4_accept_1 : decode cX4_accept 1 = .ok (.iload_n 2, 1) := by decide +kernel
theorem dX4_accept_2 : decode cX4_accept 2 = .ok (.invokestatic 77, 3) := by decide +kernel
theorem dX4_accept_5 : decode cX4_accept 5 = .ok (.istore_n 3, 1) := by decide +kernel
theorem dX4_accept_6 : decode cX4_accept 6 = .ok (.iload_n 1, 1) := by decide +kernel
theorem dX4_accept_7 : decode cX4_accept 7 = .ok (.iload_n 2, 1) := by decide +kernel
theorem dX4_accept_8 : decode cX4_accept 8 = .ok (.invokestatic 83, 3) := by decide +kernel
theorem dX4_accept_11 : decode cX4_accept 11 = .ok (.istore 4, 2) := by decide +kernel
theorem dX4_accept_13 : decode cX4_accept 13 = .ok (.aload_n 0, 1) := by decide +kernel
theorem dX4_accept_14 : decode cX4_accept 14 = .ok (.dup, 1) := by decide +kernel
theorem dX4_accept_15 : decode cX4_accept 15 = .ok (.getfield 64, 3) := by decide +kernel
theorem dX4_accept_18 : decode cX4_accept 18 = .ok (.iconst 1, 1) := by decide +kernel
theorem dX4_accept_19 : decode cX4_accept 19 = .ok (.iadd, 1) := by decide +kernel
theorem dX4_accept_20 : decode cX4_accept 20 = .ok (.putfield 64, 3) := by decide +kernel
theorem dX4_accept_23 : decode cX4_accept 23 = .ok (.aload_n 0, 1) := by decide +kernel
theorem dX4_accept_24 : decode cX4_accept 24 = .ok (.getfield 12, 3) := by decide +kernel
theorem dX4_accept_27 : decode cX4_accept 27 = .ok (.iload_n 1, 1) := by decide +kernel
theorem dX4_accept_28 : decode cX4_accept 28 = .ok (.invokevirtual 86, 3) := by decide +kernel
theorem dX4_accept_31 : decode cX4_accept 31 = .ok (.aload_n 0, 1) := by decide +kernel
theorem dX4_accept_32 : decode cX4_accept 32 = .ok (.getfield 12, 3) := by decide +kernel
theorem dX4_accept_35 : decode cX4_accept 35 = .ok (.iload_n 2, 1) := by decide +kernel
theorem dX4_accept_36 : decode cX4_accept 36 = .ok (.invokevirtual 86, 3) := by decide +kernel
theorem dX4_accept_39 : decode cX4_accept 39 = .ok (.aload_n 0, 1) := by decide +kernel
theorem dX4_accept_40 : decode cX4_accept 40 = .ok (.getfield 21, 3) := by decide +kernel
theorem dX4_accept_43 : decode cX4_accept 43 = .ok (.iload_n 3, 1) := by decide +kernel
theorem dX4_accept_44 : decode cX4_accept 44 = .ok (.iload 4, 2) := by decide +kernel
theorem dX4_accept_46 : decode cX4_accept 46 = .ok (.aload_n 0, 1) := by decide +kernel
theorem dX4_accept_47 : decode cX4_accept 47 = .ok (.getfield 64, 3) := by decide +kernel
theorem dX4_accept_50 : decode cX4_accept 50 = .ok (.invokevirtual 90, 3) := by decide +kernel
theorem dX4_accept_53 : decode cX4_accept 53 = .ok (.aload_n 0, 1) := by decide +kernel
theorem dX4_accept_54 : decode cX4_accept 54 = .ok (.getfield 28, 3) := by decide +kernel
theorem dX4_accept_57 : decode cX4_accept 57 = .ok (.iload_n 3, 1) := by decide +kernel
theorem dX4_accept_58 : decode cX4_accept 58 = .ok (.iload 4, 2) := by decide +kernel
theorem dX4_accept_60 : decode cX4_accept 60 = .ok (.aload_n 0, 1) := by decide +kernel
theorem dX4_accept_61 : decode cX4_accept 61 = .ok (.getfield 64, 3) := by decide +kernel
theorem dX4_accept_64 : decode cX4_accept 64 = .ok (.invokevirtual 94, 3) := by decide +kernel
theorem dX4_accept_67 : decode cX4_accept 67 = .ok (.aload_n 0, 1) := by decide +kernel
theorem dX4_accept_68 : decode cX4_accept 68 = .ok (.getfield 35, 3) := by decide +kernel
theorem dX4_accept_71 : decode cX4_accept 71 = .ok (.iload_n 3, 1) := by decide +kernel
theorem dX4_accept_72 : decode cX4_accept 72 = .ok (.iload 4, 2) := by decide +kernel
theorem dX4_accept_74 : decode cX4_accept 74 = .ok (.invokevirtual 95, 3) := by decide +kernel
theorem dX4_accept_77 : decode cX4_accept 77 = .ok (.aload_n 0, 1) := by decide +kernel
theorem dX4_accept_78 : decode cX4_accept 78 = .ok (.getfield 42, 3) := by decide +kernel
theorem dX4_accept_81 : decode cX4_accept 81 = .ok (.iload_n 3, 1) := by decide +kernel
theorem dX4_accept_82 : decode cX4_accept 82 = .ok (.iload 4, 2) := by decide +kernel
theorem dX4_accept_84 : decode cX4_accept 84 = .ok (.iconst 1, 1) := by decide +kernel
theorem dX4_accept_85 : decode cX4_accept 85 = .ok (.invokevirtual 97, 3) := by decide +kernel
theorem dX4_accept_88 : decode cX4_accept 88 = .ok (.pop, 1) := by decide +kernel
theorem dX4_accept_89 : decode cX4_accept 89 = .ok (.aload_n 0, 1) := by decide +kernel
theorem dX4_accept_90 : decode cX4_accept 90 = .ok (.getfield 64, 3) := by decide +kernel
theorem dX4_accept_93 : decode cX4_accept 93 = .ok (.ireturn, 1) := by decide +kernel
theorem dX4_isApartFrom_0 : decode cX4_isApartFrom 0 = .ok (.aload_n 0, 1) := by decide +kernel
theorem dX4_isApartFrom_1 : decode cX4_isApartFrom 1 = .ok (.getfield 50, 3) := by decide +kernel
theorem dX4_isApartFrom_4 : decode cX4_isApartFrom 4 = .ok (.aload_n 1, 1) := by decide +kernel
theorem dX4_isApartFrom_5 : decode cX4_isApartFrom 5 = .ok (.getfield 50, 3) := by decide +kernel
theorem dX4_isApartFrom_8 : decode cX4_isApartFrom 8 = .ok (.if_icmp .ne 37, 3) := by decide +kernel
theorem dX4_isApartFrom_11 : decode cX4_isApartFrom 11 = .ok (.aload_n 0, 1) := by decide +kernel
theorem dX4_isApartFrom_12 : decode cX4_isApartFrom 12 = .ok (.getfield 54, 3) := by decide +kernel
theorem dX4_isApartFrom_15 : decode cX4_isApartFrom 15 = .ok (.aload_n 1, 1) := by decide +kernel
theorem dX4_isApartFrom_16 : decode cX4_isApartFrom 16 = .ok (.getfield 54, 3) := by decide +kernel
theorem dX4_isApartFrom_19 : decode cX4_isApartFrom 19 = .ok (.if_icmp .ne 26, 3) := by decide +kernel
theorem dX4_isApartFrom_22 : decode cX4_isApartFrom 22 = .ok (.aload_n 0, 1) := by decide +kernel
theorem dX4_isApartFrom_23 : decode cX4_isApartFrom 23 = .ok (.getfield 57, 3) := by decide +kernel
theorem dX4_isApartFrom_26 : decode cX4_isApartFrom 26 = .ok (.aload_n 1, 1) := by decide +kernel
theorem dX4_isApartFrom_27 : decode cX4_isApartFrom 27 = .ok (.getfield 57, 3) := by decide +kernel
theorem dX4_isApartFrom_30 : decode cX4_isApartFrom 30 = .ok (.if_icmp .ne 15, 3) := by decide +kernel
theorem dX4_isApartFrom_33 : decode cX4_isApartFrom 33 = .ok (.aload_n 0, 1) := by decide +kernel
theorem dX4_isApartFrom_34 : decode cX4_isApartFrom 34 = .ok (.getfield 60, 3) := by decide +kernel
theorem dX4_isApartFrom_37 : decode cX4_isApartFrom 37 = .ok (.aload_n 1, 1) := by decide +kernel
theorem dX4_isApartFrom_38 : decode cX4_isApartFrom 38 = .ok (.getfield 60, 3) := by decide +kernel
theorem dX4_isApartFrom_41 : decode cX4_isApartFrom 41 = .ok (.lcmp, 1) := by decide +kernel
theorem dX4_isApartFrom_42 : decode cX4_isApartFrom 42 = .ok (.ifCond .eq 7, 3) := by decide +kernel
theorem dX4_isApartFrom_45 : decode cX4_isApartFrom 45 = .ok (.iconst 1, 1) := by decide +kernel
theorem dX4_isApartFrom_46 : decode cX4_isApartFrom 46 = .ok (.goto 4, 3) := by decide +kernel
theorem dX4_isApartFrom_49 : decode cX4_isApartFrom 49 = .ok (.iconst 0, 1) := by decide +kernel
theorem dX4_isApartFrom_50 : decode cX4_isApartFrom 50 = .ok (.ireturn, 1) := by decide +kernel
theorem dX5_init_0 : decode cX5_init 0 = .ok (.aload_n 0, 1) := by decide +kernel
theorem dX5_init_1 : decode cX5_init 1 = .ok (.invokespecial 3, 3) := by decide +kernel
theorem dX5_init_4 : decode cX5_init 4 = .ok (.aload_n 0, 1) := by decide +kernel
theorem dX5_init_5 : decode cX5_init 5 = .ok (.sipush 512, 3) := by decide +kernel
theorem dX5_init_8 : decode cX5_init 8 = .ok (.newarray .int, 2) := by decide +kernel
theorem dX5_init_10 : decode cX5_init 10 = .ok (.putfield 9, 3) := by decide +kernel
theorem dX5_init_13 : decode cX5_init 13 = .ok (.aload_n 0, 1) := by decide +kernel
theorem dX5_init_14 : decode cX5_init 14 = .ok (.sipush 512, 3) := by decide +kernel
theorem dX5_init_17 : decode cX5_init 17 = .ok (.newarray .int, 2) := by decide +kernel
theorem dX5_init_19 : decode cX5_init 19 = .ok (.putfield 15, 3) := by decide +kernel
theorem dX5_init_22 : decode cX5_init 22 = .ok (.aload_n 0, 1) := by decide +kernel
theorem dX5_init_23 : decode cX5_init 23 = .ok (.bipush 64, 2) := by decide +kernel
theorem dX5_init_25 : decode cX5_init 25 = .ok (.newarray .long, 2) := by decide +kernel
theorem dX5_init_27 : decode cX5_init 27 = .ok (.putfield 18, 3) := by decide +kernel
theorem dX5_init_30 : decode cX5_init 30 = .ok (.return_, 1) := by decide +kernel
theorem dX5_restart_0 : decode cX5_restart 0 = .ok (.aload_n 0, 1) := by decide +kernel
theorem dX5_restart_1 : decode cX5_restart 1 = .ok (.iload_n 1, 1) := by decide +kernel
theorem dX5_restart_2 : decode cX5_restart 2 = .ok (.putfield 22, 3) := by decide +kernel
theorem dX5_restart_5 : decode cX5_restart 5 = .ok (.aload_n 0, 1) := by decide +kernel
theorem dX5_restart_6 : decode cX5_restart 6 = .ok (.iload_n 2, 1) := by decide +kernel
theorem dX5_restart_7 : decode cX5_restart 7 = .ok (.putfield 26, 3) := by decide +kernel
theorem dX5_restart_10 : decode cX5_restart 10 = .ok (.aload_n 0, 1) := by decide +kernel
theorem dX5_restart_11 : decode cX5_restart 11 = .ok (.iconst 0, 1) := by decide +kernel
theorem dX5_restart_12 : decode cX5_restart 12 = .ok (.putfield 29, 3) := by decide +kernel
theorem dX5_restart_15 : decode cX5_restart 15 = .ok (.aload_n 0, 1) := by decide +kernel
theorem dX5_restart_16 : decode cX5_restart 16 = .ok (.getfield 18, 3) := by decide +kernel
theorem dX5_restart_19 : decode cX5_restart 19 = .ok (.lconst 0, 1) := by decide +kernel
theorem dX5_restart_20 : decode cX5_restart 20 = .ok (.invokestatic 32, 3) := by decide +kernel
theorem dX5_restart_23 : decode cX5_restart 23 = .ok (.return_, 1) := by decide +kernel
theorem dX5_accept_0 : decode cX5_accept 0 = .ok (.aload_n 0, 1) := by decide +kernel
theorem dX5_accept_1 : decode cX5_accept 1 = .ok (.getfield 29, 3) := by decide +kernel
theorem dX5_accept_4 : decode cX5_accept 4 = .ok (.sipush 512, 3) := by decide +kernel
theorem dX5_accept_7 : decode cX5_accept 7 = .ok (.if_icmp .ge 18, 3) := by decide +kernel
theorem dX5_accept_10 : decode cX5_accept 10 = .ok (.aload_n 0, 1) := by decide +kernel
theorem dX5_accept_11 : decode cX5_accept 11 = .ok (.iload_n 1, 1) := by decide +kernel
theorem dX5_accept_12 : decode cX5_accept 12 = .ok (.iload_n 2, 1) := by decide +kernel
theorem dX5_accept_13 : decode cX5_accept 13 = .ok (.aload_n 0, 1) := by decide +kernel
theorem dX5_accept_14 : decode cX5_accept 14 = .ok (.getfield 26, 3) := by decide +kernel
theorem dX5_accept_17 : decode cX5_accept 17 = .ok (.invokevirtual 38, 3) := by decide +kernel
theorem dX5_accept_20 : decode cX5_accept 20 = .ok (.bipush (-2), 2) := by decide +kernel
theorem dX5_accept_22 : decode cX5_accept 22 = .ok (.if_icmp .eq 4, 3) := by decide +kernel
theorem dX5_accept_25 : decode cX5_accept 25 = .ok (.return_, 1) := by decide +kernel
theorem dX5_accept_26 : decode cX5_accept 26 = .ok (.aload_n 0, 1) := by decide +kernel
theorem dX5_accept_27 : decode cX5_accept 27 = .ok (.getfield 9, 3) := by decide +kernel
theorem dX5_accept_30 : decode cX5_accept 30 = .ok (.aload_n 0, 1) := by decide +kernel
theorem dX5_accept_31 : decode cX5_accept 31 = .ok (.getfield 29, 3) := by decide +kernel
theorem dX5_accept_34 : decode cX5_accept 34 = .ok (.iload_n 3, 1) := by decide +kernel
theorem dX5_accept_35 : decode cX5_accept 35 = .ok (.iastore, 1) := by decide +kernel
theorem dX5_accept_36 : decode cX5_accept 36 = .ok (.aload_n 0, 1) := by decide +kernel
theorem dX5_accept_37 : decode cX5_accept 37 = .ok (.getfield 15, 3) := by decide +kernel
theorem dX5_accept_40 : decode cX5_accept 40 = .ok (.aload_n 0, 1) := by decide +kernel
theorem dX5_accept_41 : decode cX5_accept 41 = .ok (.getfield 29, 3) := by decide +kernel
theorem dX5_accept_44 : decode cX5_accept 44 = .ok (.iload_n 1, 1) := by decide +kernel
theorem dX5_accept_45 : decode cX5_accept 45 = .ok (.iload_n 2, 1) := by decide +kernel
theorem dX5_accept_46 : decode cX5_accept 46 = .ok (.invokestatic 42, 3) := by decide +kernel
theorem dX5_accept_49 : decode cX5_accept 49 = .ok (.iastore, 1) := by decide +kernel
theorem dX5_accept_50 : decode cX5_accept 50 = .ok (.aload_n 0, 1) := by decide +kernel
theorem dX5_accept_51 : decode cX5_accept 51 = .ok (.dup, 1) := by decide +kernel
theorem dX5_accept_52 : decode cX5_accept 52 = .ok (.getfield 29, 3) := by decide +kernel
theorem dX5_accept_55 : decode cX5_accept 55 = .ok (.iconst 1, 1) := by decide +kernel
theorem dX5_accept_56 : decode cX5_accept 56 = .ok (.iadd, 1) := by decide +kernel
theorem dX5_accept_57 : decode cX5_accept 57 = .ok (.putfield 29, 3) := by decide +kernel
theorem dX5_accept_60 : decode cX5_accept 60 = .ok (.aload_n 0, 1) := by decide +kernel
theorem dX5_accept_61 : decode cX5_accept 61 = .ok (.getfield 18, 3) := by decide +kernel
theorem dX5_accept_64 : decode cX5_accept 64 = .ok (.iload_n 1, 1) := by decide +kernel
theorem dX5_accept_65 : decode cX5_accept 65 = .ok (.dup2, 1) := by decide +kernel
theorem dX5_accept_66 : decode cX5_accept 66 = .ok (.laload, 1) := by decide +kernel
theorem dX5_accept_67 : decode cX5_accept 67 = .ok (.lconst 1, 1) := by decide +kernel
theorem dX5_accept_68 : decode cX5_accept 68 = .ok (.iload_n 2, 1) := by decide +kernel
theorem dX5_accept_69 : decode cX5_accept 69 = .ok (.lshl, 1) := by decide +kernel
theorem dX5_accept_70 : decode cX5_accept 70 = .ok (.lor, 1) := by decide +kernel
theorem dX5_accept_71 : decode cX5_accept 71 = .ok (.lastore, 1) := by decide +kernel
theorem dX5_accept_72 : decode cX5_accept 72 = .ok (.aload_n 0, 1) := by decide +kernel
theorem dX5_accept_73 : decode cX5_accept 73 = .ok (.getfield 18, 3) := by decide +kernel
theorem dX5_accept_76 : decode cX5_accept 76 = .ok (.iload_n 2, 1) := by decide +kernel
theorem dX5_accept_77 : decode cX5_accept 77 = .ok (.dup2, 1) := by decide +kernel
theorem dX5_accept_78 : decode cX5_accept 78 = .ok (.laload, 1) := by decide +kernel
theorem dX5_accept_79 : decode cX5_accept 79 = .ok (.lconst 1, 1) := by decide +kernel
theorem dX5_accept_80 : decode cX5_accept 80 = .ok (.iload_n 1, 1) := by decide +kernel
theorem dX5_accept_81 : decode cX5_accept 81 = .ok (.lshl, 1) := by decide +kernel
theorem dX5_accept_82 : decode cX5_accept 82 = .ok (.lor, 1) := by decide +kernel
theorem dX5_accept_83 : decode cX5_accept 83 = .ok (.lastore, 1) := by decide +kernel
theorem dX5_accept_84 : decode cX5_accept 84 = .ok (.return_, 1) := by decide +kernel
theorem dX5_distance_0 : decode cX5_distance 0 = .ok (.lconst 1, 1) := by decide +kernel
theorem dX5_distance_1 : decode cX5_distance 1 = .ok (.iload_n 1, 1) := by decide +kernel
theorem dX5_distance_2 : decode cX5_distance 2 = .ok (.lshl, 1) := by decide +kernel
theorem dX5_distance_3 : decode cX5_distance 3 = .ok (.lstore 4, 2) := by decide +kernel
theorem dX5_distance_5 : decode cX5_distance 5 = .ok (.lload 4, 2) := by decide +kernel
theorem dX5_distance_7 : decode cX5_distance 7 = .ok (.lstore 6, 2) := by decide +kernel
theorem dX5_distance_9 : decode cX5_distance 9 = .ok (.iconst 0, 1) := by decide +kernel
theorem dX5_distance_10 : decode cX5_distance 10 = .ok (.istore 8, 2) := by decide +kernel
theorem dX5_distance_12 : decode cX5_distance 12 = .ok (.iload 8, 2) := by decide +kernel
theorem dX5_distance_14 : decode cX5_distance 14 = .ok (.iload_n 3, 1) := by decide +kernel
theorem dX5_distance_15 : decode cX5_distance 15 = .ok (.if_icmp .gt 50, 3) := by decide +kernel
theorem dX5_distance_18 : decode cX5_distance 18 = .ok (.lload 6, 2) := by decide +kernel
theorem dX5_distance_20 : decode cX5_distance 20 = .ok (.lconst 0, 1) := by decide +kernel
theorem dX5_distance_21 : decode cX5_distance 21 = .ok (.lcmp, 1) := by decide +kernel
theorem dX5_distance_22 : decode cX5_distance 22 = .ok (.ifCond .eq 43, 3) := by decide +kernel
theorem dX5_distance_25 : decode cX5_distance 25 = .ok (.lload 6, 2) := by decide +kernel
theorem dX5_distance_27 : decode cX5_distance 27 = .ok (.iload_n 2, 1) := by decide +kernel
theorem dX5_distance_28 : decode cX5_distance 28 = .ok (.invokestatic 46, 3) := by decide +kernel
theorem dX5_distance_31 : decode cX5_distance 31 = .ok (.ifCond .eq 6, 3) := by decide +kernel
theorem dX5_distance_34 : decode cX5_distance 34 = .ok (.iload 8, 2) := by decide +kernel
theorem dX5_distance_36 : decode cX5_distance 36 = .ok (.ireturn, 1) := by decide +kernel
theorem dX5_distance_37 : decode cX5_distance 37 = .ok (.aload_n 0, 1) := by decide +kernel
theorem dX5_distance_38 : decode cX5_distance 38 = .ok (.lload 6, 2) := by decide +kernel
theorem dX5_distance_40 : decode cX5_distance 40 = .ok (.invokevirtual 50, 3) := by decide +kernel
theorem dX5_distance_43 : decode cX5_distance 43 = .ok (.lload 4, 2) := by decide +kernel
theorem dX5_distance_45 : decode cX5_distance 45 = .ok (.ldc2_w 54, 3) := by decide +kernel
theorem dX5_distance_48 : decode cX5_distance 48 = .ok (.lxor, 1) := by decide +kernel
theorem dX5_distance_49 : decode cX5_distance 49 = .ok (.land, 1) := by decide +kernel
theorem dX5_distance_50 : decode cX5_distance 50 = .ok (.lstore 6, 2) := by decide +kernel
theorem dX5_distance_52 : decode cX5_distance 52 = .ok (.lload 4, 2) := by decide +kernel
theorem dX5_distance_54 : decode cX5_distance 54 = .ok (.lload 6, 2) := by decide +kernel
theorem dX5_distance_56 : decode cX5_distance 56 = .ok (.lor, 1) := by decide +kernel
theorem dX5_distance_57 : decode cX5_distance 57 = .ok (.lstore 4, 2) := by decide +kernel
theorem dX5_distance_59 : decode cX5_distance 59 = .ok (.iinc 8 1, 3) := by decide +kernel
theorem dX5_distance_62 : decode cX5_distance 62 = .ok (.goto (-50), 3) := by decide +kernel
theorem dX5_distance_65 : decode cX5_distance 65 = .ok (.bipush (-2), 2) := by decide +kernel
theorem dX5_distance_67 : decode cX5_distance 67 = .ok (.ireturn, 1) := by decide +kernel
theorem dX5_neighboursOf_0 : decode cX5_neighboursOf 0 = .ok (.lconst 0, 1) := by decide +kernel
theorem dX5_neighboursOf_1 : decode cX5_neighboursOf 1 = .ok (.lstore_n 3, 1) := by decide +kernel
theorem dX5_neighboursOf_2 : decode cX5_neighboursOf 2 = .ok (.iconst 0, 1) := by decide +kernel
theorem dX5_neighboursOf_3 : decode cX5_neighboursOf 3 = .ok (.istore 5, 2) := by decide +kernel
theorem dX5_neighboursOf_5 : decode cX5_neighboursOf 5 = .ok (.iload 5, 2) := by decide +kernel
theorem dX5_neighboursOf_7 : decode cX5_neighboursOf 7 = .ok (.aload_n 0, 1) := by decide +kernel
theorem dX5_neighboursOf_8 : decode cX5_neighboursOf 8 = .ok (.getfield 22, 3) := by decide +kernel
theorem dX5_neighboursOf_11 : decode cX5_neighboursOf 11 = .ok (.if_icmp .ge 28, 3) := by decide +kernel
theorem dX5_neighboursOf_14 : decode cX5_neighboursOf 14 = .ok (.lload_n 1, 1) := by decide +kernel
theorem dX5_neighboursOf_15 : decode cX5_neighboursOf 15 = .ok (.iload 5, 2) := by decide +kernel
theorem dX5_neighboursOf_17 : decode cX5_neighboursOf 17 = .ok (.invokestatic 46, 3) := by decide +kernel
theorem dX5_neighboursOf_20 : decode cX5_neighboursOf 20 = .ok (.ifCond .eq 13, 3) := by decide +kernel
theorem dX5_neighboursOf_23 : decode cX5_neighboursOf 23 = .ok (.lload_n 3, 1) := by decide +kernel
theorem dX5_neighboursOf_24 : decode cX5_neighboursOf 24 = .ok (.aload_n 0, 1) := by decide +kernel
theorem dX5_neighboursOf_25 : decode cX5_neighboursOf 25 = .ok (.getfield 18, 3) := by decide +kernel
theorem dX5_neighboursOf_28 : decode cX5_neighboursOf 28 = .ok (.iload 5, 2) := by decide +kernel
theorem dX5_neighboursOf_30 : decode cX5_neighboursOf 30 = .ok (.laload, 1) := by decide +kernel
theorem dX5_neighboursOf_31 : decode cX5_neighboursOf 31 = .ok (.lor, 1) := by decide +kernel
theorem dX5_neighboursOf_32 : decode cX5_neighboursOf 32 = .ok (.lstore_n 3, 1) := by decide +kernel
theorem dX5_neighboursOf_33 : decode cX5_neighboursOf 33 = .ok (.iinc 5 1, 3) := by decide +kernel
theorem dX5_neighboursOf_36 : decode cX5_neighboursOf 36 = .ok (.goto (-31), 3) := by decide +kernel
theorem dX5_neighboursOf_39 : decode cX5_neighboursOf 39 = .ok (.lload_n 3, 1) := by decide +kernel
theorem dX5_neighboursOf_40 : decode cX5_neighboursOf 40 = .ok (.lreturn, 1) := by decide +kernel
theorem dX6_init_0 : decode cX6_init 0 = .ok (.aload_n 0, 1) := by decide +kernel
theorem dX6_init_1 : decode cX6_init 1 = .ok (.invokespecial 1, 3) := by decide +kernel
theorem dX6_init_4 : decode cX6_init 4 = .ok (.aload_n 0, 1) := by decide +kernel
theorem dX6_init_5 : decode cX6_init 5 = .ok (.iconst 3, 1) := by decide +kernel
theorem dX6_init_6 : decode cX6_init 6 = .ok (.anewarray 9, 3) := by decide +kernel
theorem dX6_init_9 : decode cX6_init 9 = .ok (.putfield 11, 3) := by decide +kernel
theorem dX6_init_12 : decode cX6_init 12 = .ok (.iconst 0, 1) := by decide +kernel
theorem dX6_init_13 : decode cX6_init 13 = .ok (.istore_n 1, 1) := by decide +kernel
theorem dX6_init_14 : decode cX6_init 14 = .ok (.iload_n 1, 1) := by decide +kernel
theorem dX6_init_15 : decode cX6_init 15 = .ok (.iconst 3, 1) := by decide +kernel
theorem dX6_init_16 : decode cX6_init 16 = .ok (.if_icmp .ge 22, 3) := by decide +kernel
theorem dX6_init_19 : decode cX6_init 19 = .ok (.aload_n 0, 1) := by decide +kernel
theorem dX6_init_20 : decode cX6_init 20 = .ok (.getfield 11, 3) := by decide +kernel
theorem dX6_init_23 : decode cX6_init 23 = .ok (.iload_n 1, 1) := by decide +kernel
theorem dX6_init_24 : decode cX6_init 24 = .ok (.new 9, 3) := by decide +kernel
theorem dX6_init_27 : decode cX6_init 27 = .ok (.dup, 1) := by decide +kernel
theorem dX6_init_28 : decode cX6_init 28 = .ok (.invokespecial 15, 3) := by decide +kernel
theorem dX6_init_31 : decode cX6_init 31 = .ok (.aastore, 1) := by decide +kernel
theorem dX6_init_32 : decode cX6_init 32 = .ok (.iinc 1 1, 3) := by decide +kernel
theorem dX6_init_35 : decode cX6_init 35 = .ok (.goto (-21), 3) := by decide +kernel
theorem dX6_init_38 : decode cX6_init 38 = .ok (.aload_n 0, 1) := by decide +kernel
theorem dX6_init_39 : decode cX6_init 39 = .ok (.bipush (-2), 2) := by decide +kernel
theorem dX6_init_41 : decode cX6_init 41 = .ok (.putfield 16, 3) := by decide +kernel
theorem dX6_init_44 : decode cX6_init 44 = .ok (.return_, 1) := by decide +kernel
theorem dX6_begin_0 : decode cX6_begin 0 = .ok (.iload_n 1, 1) := by decide +kernel
theorem dX6_begin_1 : decode cX6_begin 1 = .ok (.invokestatic 20, 3) := by decide +kernel
theorem dX6_begin_4 : decode cX6_begin 4 = .ok (.ifCond .ne 14, 3) := by decide +kernel
theorem dX6_begin_7 : decode cX6_begin 7 = .ok (.iload_n 2, 1) := by decide +kernel
theorem dX6_begin_8 : decode cX6_begin 8 = .ok (.iconst 2, 1) := by decide +kernel
theorem dX6_begin_9 : decode cX6_begin 9 = .ok (.if_icmp .lt 9, 3) := by decide +kernel
theorem dX6_begin_12 : decode cX6_begin 12 = .ok (.iload_n 2, 1) := by decide +kernel
theorem dX6_begin_13 : decode cX6_begin 13 = .ok (.bipush 64, 2) := by decide +kernel
theorem dX6_begin_15 : decode cX6_begin 15 = .ok (.if_icmp .le 5, 3) := by decide +kernel
theorem dX6_begin_18 : decode cX6_begin 18 = .ok (.iconst (-1), 1) := by decide +kernel
theorem dX6_begin_19 : decode cX6_begin 19 = .ok (.ireturn, 1) := by decide +kernel
theorem dX6_begin_20 : decode cX6_begin 20 = .ok (.iload_n 3, 1) := by decide +kernel
theorem dX6_begin_21 : decode cX6_begin 21 = .ok (.iconst 1, 1) := by decide +kernel
theorem dX6_begin_22 : decode cX6_begin 22 = .ok (.if_icmp .lt 17, 3) := by decide +kernel
theorem dX6_begin_25 : decode cX6_begin 25 = .ok (.iload_n 3, 1) := by decide +kernel
theorem dX6_begin_26 : decode cX6_begin 26 = .ok (.bipush 16, 2) := by decide +kernel
theorem dX6_begin_28 : decode cX6_begin 28 = .ok (.if_icmp .gt 11, 3) := by decide +kernel
theorem dX6_begin_31 : decode cX6_begin 31 = .ok (.iload 4, 2) := by decide +kernel
theorem dX6_begin_33 : decode cX6_begin 33 = .ok (.invokestatic 24, 3) := by decide +kernel
theorem dX6_begin_36 : decode cX6_begin 36 = .ok (.ifCond .ne 5, 3) := by decide +kernel
theorem dX6_begin_39 : decode cX6_begin 39 = .ok (.iconst (-1), 1) := by decide +kernel
theorem dX6_begin_40 : decode cX6_begin 40 = .ok (.ireturn, 1) := by decide +kernel
theorem dX6_begin_41 : decode cX6_begin 41 = .ok (.aload_n 0, 1) := by decide +kernel
theorem dX6_begin_42 : decode cX6_begin 42 = .ok (.getfield 11, 3) := by decide +kernel
theorem dX6_begin_45 : decode cX6_begin 45 = .ok (.iload_n 1, 1) := by decide +kernel
theorem dX6_begin_46 : decode cX6_begin 46 = .ok (.aaload, 1) := by decide +kernel
theorem dX6_begin_47 : decode cX6_begin 47 = .ok (.getfield 27, 3) := by decide +kernel
theorem dX6_begin_50 : decode cX6_begin 50 = .ok (.istore 7, 2) := by decide +kernel
theorem dX6_begin_52 : decode cX6_begin 52 = .ok (.aload_n 0, 1) := by decide +kernel
theorem dX6_begin_53 : decode cX6_begin 53 = .ok (.getfield 11, 3) := by decide +kernel
theorem dX6_begin_56 : decode cX6_begin 56 = .ok (.iload_n 1, 1) := by decide +kernel
theorem dX6_begin_57 : decode cX6_begin 57 = .ok (.aaload, 1) := by decide +kernel
theorem dX6_begin_58 : decode cX6_begin 58 = .ok (.iload_n 2, 1) := by decide +kernel
theorem dX6_begin_59 : decode cX6_begin 59 = .ok (.iload_n 3, 1) := by decide +kernel
theorem dX6_begin_60 : decode cX6_begin 60 = .ok (.iload 4, 2) := by decide +kernel
theorem dX6_begin_62 : decode cX6_begin 62 = .ok (.lload 5, 2) := by decide +kernel
theorem dX6_begin_64 : decode cX6_begin 64 = .ok (.invokevirtual 30, 3) := by decide +kernel
theorem dX6_begin_67 : decode cX6_begin 67 = .ok (.iload 7, 2) := by decide +kernel
theorem dX6_begin_69 : decode cX6_begin 69 = .ok (.ireturn, 1) := by decide +kernel
theorem dX6_add_0 : decode cX6_add 0 = .ok (.aload_n 0, 1) := by decide +kernel
theorem dX6_add_1 : decode cX6_add 1 = .ok (.iload_n 1, 1) := by decide +kernel
theorem dX6_add_2 : decode cX6_add 2 = .ok (.iload_n 2, 1) := by decide +kernel
theorem dX6_add_3 : decode cX6_add 3 = .ok (.iload_n 3, 1) := by decide +kernel
theorem dX6_add_4 : decode cX6_add 4 = .ok (.invokevirtual 34, 3) := by decide +kernel
theorem dX6_add_7 : decode cX6_add 7 = .ok (.ifCond .eq 5, 3) := by decide +kernel
theorem dX6_add_10 : decode cX6_add 10 = .ok (.iconst (-1), 1) := by decide +kernel
theorem dX6_add_11 : decode cX6_add 11 = .ok (.ireturn, 1) := by decide +kernel
theorem dX6_add_12 : decode cX6_add 12 = .ok (.aload_n 0, 1) := by decide +kernel
theorem dX6_add_13 : decode cX6_add 13 = .ok (.getfield 11, 3) := by decide +kernel
theorem dX6_add_16 : decode cX6_add 16 = .ok (.iload_n 1, 1) := by decide +kernel
theorem dX6_add_17 : decode cX6_add 17 = .ok (.aaload, 1) := by decide +kernel
theorem dX6_add_18 : decode cX6_add 18 = .ok (.iload_n 2, 1) := by decide +kernel
theorem dX6_add_19 : decode cX6_add 19 = .ok (.iload_n 3, 1) := by decide +kernel
theorem dX6_add_20 : decode cX6_add 20 = .ok (.invokevirtual 38, 3) := by decide +kernel
theorem dX6_add_23 : decode cX6_add 23 = .ok (.ireturn, 1) := by decide +kernel
theorem dX6_take_0 : decode cX6_take 0 = .ok (.aload_n 0, 1) := by decide +kernel
theorem dX6_take_1 : decode cX6_take 1 = .ok (.iload_n 1, 1) := by decide +kernel
theorem dX6_take_2 : decode cX6_take 2 = .ok (.iload_n 2, 1) := by decide +kernel
theorem dX6_take_3 : decode cX6_take 3 = .ok (.iload_n 3, 1) := by decide +kernel
theorem dX6_take_4 : decode cX6_take 4 = .ok (.invokevirtual 34, 3) := by decide +kernel
theorem dX6_take_7 : decode cX6_take 7 = .ok (.ifCond .eq 5, 3) := by decide +kernel
theorem dX6_take_10 : decode cX6_take 10 = .ok (.iconst (-1), 1) := by decide +kernel
theorem dX6_take_11 : decode cX6_take 11 = .ok (.ireturn, 1) := by decide +kernel
theorem dX6_take_12 : decode cX6_take 12 = .ok (.aload_n 0, 1) := by decide +kernel
theorem dX6_take_13 : decode cX6_take 13 = .ok (.getfield 11, 3) := by decide +kernel
theorem dX6_take_16 : decode cX6_take 16 = .ok (.iload_n 1, 1) := by decide +kernel
theorem dX6_take_17 : decode cX6_take 17 = .ok (.aaload, 1) := by decide +kernel
theorem dX6_take_18 : decode cX6_take 18 = .ok (.getfield 42, 3) := by decide +kernel
theorem dX6_take_21 : decode cX6_take 21 = .ok (.iload_n 2, 1) := by decide +kernel
theorem dX6_take_22 : decode cX6_take 22 = .ok (.iload_n 3, 1) := by decide +kernel
theorem dX6_take_23 : decode cX6_take 23 = .ok (.invokestatic 46, 3) := by decide +kernel
theorem dX6_take_26 : decode cX6_take 26 = .ok (.iload_n 2, 1) := by decide +kernel
theorem dX6_take_27 : decode cX6_take 27 = .ok (.iload_n 3, 1) := by decide +kernel
theorem dX6_take_28 : decode cX6_take 28 = .ok (.invokestatic 51, 3) := by decide +kernel
theorem dX6_take_31 : decode cX6_take 31 = .ok (.iconst (-1), 1) := by decide +kernel
theorem dX6_take_32 : decode cX6_take 32 = .ok (.invokevirtual 54, 3) := by decide +kernel
theorem dX6_take_35 : decode cX6_take 35 = .ok (.ireturn, 1) := by decide +kernel
theorem dX6_merge_0 : decode cX6_merge 0 = .ok (.iload_n 1, 1) := by decide +kernel
theorem dX6_merge_1 : decode cX6_merge 1 = .ok (.invokestatic 20, 3) := by decide +kernel
theorem dX6_merge_4 : decode cX6_merge 4 = .ok (.ifCond .ne 15, 3) := by decide +kernel
theorem dX6_merge_7 : decode cX6_merge 7 = .ok (.iload_n 2, 1) := by decide +kernel
theorem dX6_merge_8 : decode cX6_merge 8 = .ok (.invokestatic 20, 3) := by decide +kernel
theorem dX6_merge_11 : decode cX6_merge 11 = .ok (.ifCond .ne 8, 3) := by decide +kernel
theorem dX6_merge_14 : decode cX6_merge 14 = .ok (.iload_n 1, 1) := by decide +kernel
theorem dX6_merge_15 : decode cX6_merge 15 = .ok (.iload_n 2, 1) := by decide +kernel
theorem dX6_merge_16 : decode cX6_merge 16 = .ok (.if_icmp .ne 5, 3) := by decide +kernel
theorem dX6_merge_19 : decode cX6_merge 19 = .ok (.iconst (-1), 1) := by decide +kernel
theorem dX6_merge_20 : decode cX6_merge 20 = .ok (.ireturn, 1) := by decide +kernel
theorem dX6_merge_21 : decode cX6_merge 21 = .ok (.aload_n 0, 1) := by decide +kernel
theorem dX6_merge_22 : decode cX6_merge 22 = .ok (.getfield 11, 3) := by decide +kernel
theorem dX6_merge_25 : decode cX6_merge 25 = .ok (.iload_n 1, 1) := by decide +kernel
theorem dX6_merge_26 : decode cX6_merge 26 = .ok (.aaload, 1) := by decide +kernel
theorem dX6_merge_27 : decode cX6_merge 27 = .ok (.astore_n 3, 1) := by decide +kernel
theorem dX6_merge_28 : decode cX6_merge 28 = .ok (.aload_n 0, 1) := by decide +kernel
theorem dX6_merge_29 : decode cX6_merge 29 = .ok (.getfield 11, 3) := by decide +kernel
theorem dX6_merge_32 : decode cX6_merge 32 = .ok (.iload_n 2, 1) := by decide +kernel
theorem dX6_merge_33 : decode cX6_merge 33 = .ok (.aaload, 1) := by decide +kernel
theorem dX6_merge_34 : decode cX6_merge 34 = .ok (.astore 4, 2) := by decide +kernel
theorem dX6_merge_36 : decode cX6_merge 36 = .ok (.aload_n 3, 1) := by decide +kernel
theorem dX6_merge_37 : decode cX6_merge 37 = .ok (.aload 4, 2) := by decide +kernel
theorem dX6_merge_39 : decode cX6_merge 39 = .ok (.invokevirtual 60, 3) := by decide +kernel
theorem dX6_merge_42 : decode cX6_merge 42 = .ok (.ifCond .eq 6, 3) := by decide +kernel
theorem dX6_merge_45 : decode cX6_merge 45 = .ok (.bipush (-3), 2) := by decide +kernel
theorem dX6_merge_47 : decode cX6_merge 47 = .ok (.ireturn, 1) := by decide +kernel
theorem dX6_merge_48 : decode cX6_merge 48 = .ok (.aload_n 3, 1) := by decide +kernel
theorem dX6_merge_49 : decode cX6_merge 49 = .ok (.getfield 64, 3) := by decide +kernel
theorem dX6_merge_52 : decode cX6_merge 52 = .ok (.aload 4, 2) := by decide +kernel
theorem dX6_merge_54 : decode cX6_merge 54 = .ok (.getfield 64, 3) := by decide +kernel
theorem dX6_merge_57 : decode cX6_merge 57 = .ok (.invokevirtual 68, 3) := by decide +kernel
theorem dX6_merge_60 : decode cX6_merge 60 = .ok (.ifCond .ne 6, 3) := by decide +kernel
theorem dX6_merge_63 : decode cX6_merge 63 = .ok (.bipush (-6), 2) := by decide +kernel
theorem dX6_merge_65 : decode cX6_merge 65 = .ok (.ireturn, 1) := by decide +kernel
theorem dX6_merge_66 : decode cX6_merge 66 = .ok (.aload_n 3, 1) := by decide +kernel
theorem dX6_merge_67 : decode cX6_merge 67 = .ok (.getfield 42, 3) := by decide +kernel
theorem dX6_merge_70 : decode cX6_merge 70 = .ok (.aload 4, 2) := by decide +kernel
theorem dX6_merge_72 : decode cX6_merge 72 = .ok (.getfield 42, 3) := by decide +kernel
theorem dX6_merge_75 : decode cX6_merge 75 = .ok (.invokevirtual 74, 3) := by decide +kernel
theorem dX6_merge_78 : decode cX6_merge 78 = .ok (.aload_n 3, 1) := by decide +kernel
theorem dX6_merge_79 : decode cX6_merge 79 = .ok (.getfield 64, 3) := by decide +kernel
theorem dX6_merge_82 : decode cX6_merge 82 = .ok (.getfield 77, 3) := by decide +kernel
theorem dX6_merge_85 : decode cX6_merge 85 = .ok (.ireturn, 1) := by decide +kernel
theorem dX6_told_0 : decode cX6_told 0 = .ok (.iload_n 1, 1) := by decide +kernel
theorem dX6_told_1 : decode cX6_told 1 = .ok (.invokestatic 20, 3) := by decide +kernel
theorem dX6_told_4 : decode cX6_told 4 = .ok (.ifCond .eq 5, 3) := by decide +kernel
theorem dX6_told_7 : decode cX6_told 7 = .ok (.iconst (-1), 1) := by decide +kernel
theorem dX6_told_8 : decode cX6_told 8 = .ok (.ireturn, 1) := by decide +kernel
theorem dX6_told_9 : decode cX6_told 9 = .ok (.aload_n 0, 1) := by decide +kernel
theorem dX6_told_10 : decode cX6_told 10 = .ok (.getfield 11, 3) := by decide +kernel
theorem dX6_told_13 : decode cX6_told 13 = .ok (.iload_n 1, 1) := by decide +kernel
theorem dX6_told_14 : decode cX6_told 14 = .ok (.aaload, 1) := by decide +kernel
theorem dX6_told_15 : decode cX6_told 15 = .ok (.astore_n 3, 1) := by decide +kernel
theorem dX6_told_16 : decode cX6_told 16 = .ok (.iload_n 2, 1) := by decide +kernel
theorem dX6_told_17 : decode cX6_told 17 = .ok (.tableswitch 111 0 8 #[51, 56, 64, 72, 80, 88, 96, 101, 106], 51) := by decide +kernel
theorem dX6_told_68 : decode cX6_told 68 = .ok (.aload_n 3, 1) := by decide +kernel
theorem dX6_told_69 : decode cX6_told 69 = .ok (.getfield 27, 3) := by decide +kernel
theorem dX6_told_72 : decode cX6_told 72 = .ok (.ireturn, 1) := by decide +kernel
theorem dX6_told_73 : decode cX6_told 73 = .ok (.aload_n 3, 1) := by decide +kernel
theorem dX6_told_74 : decode cX6_told 74 = .ok (.getfield 64, 3) := by decide +kernel
theorem dX6_told_77 : decode cX6_told 77 = .ok (.getfield 77, 3) := by decide +kernel
theorem dX6_told_80 : decode cX6_told 80 = .ok (.ireturn, 1) := by decide +kernel
theorem dX6_told_81 : decode cX6_told 81 = .ok (.aload_n 3, 1) := by decide +kernel
theorem dX6_told_82 : decode cX6_told 82 = .ok (.getfield 64, 3) := by decide +kernel
theorem dX6_told_85 : decode cX6_told 85 = .ok (.getfield 80, 3) := by decide +kernel
theorem dX6_told_88 : decode cX6_told 88 = .ok (.ireturn, 1) := by decide +kernel
theorem dX6_told_89 : decode cX6_told 89 = .ok (.aload_n 3, 1) := by decide +kernel
theorem dX6_told_90 : decode cX6_told 90 = .ok (.getfield 83, 3) := by decide +kernel
theorem dX6_told_93 : decode cX6_told 93 = .ok (.getfield 87, 3) := by decide +kernel
theorem dX6_told_96 : decode cX6_told 96 = .ok (.ireturn, 1) := by decide +kernel
theorem dX6_told_97 : decode cX6_told 97 = .ok (.aload_n 3, 1) := by decide +kernel
theorem dX6_told_98 : decode cX6_told 98 = .ok (.getfield 92, 3) := by decide +kernel
theorem dX6_told_101 : decode cX6_told 101 = .ok (.getfield 96, 3) := by decide +kernel
theorem dX6_told_104 : decode cX6_told 104 = .ok (.ireturn, 1) := by decide +kernel
theorem dX6_told_105 : decode cX6_told 105 = .ok (.aload_n 3, 1) := by decide +kernel
theorem dX6_told_106 : decode cX6_told 106 = .ok (.getfield 99, 3) := by decide +kernel
theorem dX6_told_109 : decode cX6_told 109 = .ok (.getfield 103, 3) := by decide +kernel
theorem dX6_told_112 : decode cX6_told 112 = .ok (.ireturn, 1) := by decide +kernel
theorem dX6_told_113 : decode cX6_told 113 = .ok (.aload_n 3, 1) := by decide +kernel
theorem dX6_told_114 : decode cX6_told 114 = .ok (.getfield 108, 3) := by decide +kernel
theorem dX6_told_117 : decode cX6_told 117 = .ok (.ireturn, 1) := by decide +kernel
theorem dX6_told_118 : decode cX6_told 118 = .ok (.aload_n 3, 1) := by decide +kernel
theorem dX6_told_119 : decode cX6_told 119 = .ok (.getfield 111, 3) := by decide +kernel
theorem dX6_told_122 : decode cX6_told 122 = .ok (.ireturn, 1) := by decide +kernel
theorem dX6_told_123 : decode cX6_told 123 = .ok (.aload_n 3, 1) := by decide +kernel
theorem dX6_told_124 : decode cX6_told 124 = .ok (.getfield 114, 3) := by decide +kernel
theorem dX6_told_127 : decode cX6_told 127 = .ok (.ireturn, 1) := by decide +kernel
theorem dX6_told_128 : decode cX6_told 128 = .ok (.iconst (-1), 1) := by decide +kernel
theorem dX6_told_129 : decode cX6_told 129 = .ok (.ireturn, 1) := by decide +kernel
theorem dX6_span_0 : decode cX6_span 0 = .ok (.aload_n 0, 1) := by decide +kernel
theorem dX6_span_1 : decode cX6_span 1 = .ok (.iload_n 1, 1) := by decide +kernel
theorem dX6_span_2 : decode cX6_span 2 = .ok (.iload_n 2, 1) := by decide +kernel
theorem dX6_span_3 : decode cX6_span 3 = .ok (.invokevirtual 117, 3) := by decide +kernel
theorem dX6_span_6 : decode cX6_span 6 = .ok (.ifCond .ne 12, 3) := by decide +kernel
theorem dX6_span_9 : decode cX6_span 9 = .ok (.iload_n 3, 1) := by decide +kernel
theorem dX6_span_10 : decode cX6_span 10 = .ok (.ifCond .lt 8, 3) := by decide +kernel
theorem dX6_span_13 : decode cX6_span 13 = .ok (.iload_n 3, 1) := by decide +kernel
theorem dX6_span_14 : decode cX6_span 14 = .ok (.iconst 1, 1) := by decide +kernel
theorem dX6_span_15 : decode cX6_span 15 = .ok (.if_icmp .le 5, 3) := by decide +kernel
theorem dX6_span_18 : decode cX6_span 18 = .ok (.iconst (-1), 1) := by decide +kernel
theorem dX6_span_19 : decode cX6_span 19 = .ok (.ireturn, 1) := by decide +kernel
theorem dX6_span_20 : decode cX6_span 20 = .ok (.aload_n 0, 1) := by decide +kernel
theorem dX6_span_21 : decode cX6_span 21 = .ok (.getfield 11, 3) := by decide +kernel
theorem dX6_span_24 : decode cX6_span 24 = .ok (.iload_n 1, 1) := by decide +kernel
theorem dX6_span_25 : decode cX6_span 25 = .ok (.aaload, 1) := by decide +kernel
theorem dX6_span_26 : decode cX6_span 26 = .ok (.getfield 64, 3) := by decide +kernel
theorem dX6_span_29 : decode cX6_span 29 = .ok (.astore 4, 2) := by decide +kernel
theorem dX6_span_31 : decode cX6_span 31 = .ok (.iload_n 3, 1) := by decide +kernel
theorem dX6_span_32 : decode cX6_span 32 = .ok (.ifCond .ne 13, 3) := by decide +kernel
theorem dX6_span_35 : decode cX6_span 35 = .ok (.aload 4, 2) := by decide +kernel
theorem dX6_span_37 : decode cX6_span 37 = .ok (.getfield 121, 3) := by decide +kernel
theorem dX6_span_40 : decode cX6_span 40 = .ok (.iload_n 2, 1) := by decide +kernel
theorem dX6_span_41 : decode cX6_span 41 = .ok (.iaload, 1) := by decide +kernel
theorem dX6_span_42 : decode cX6_span 42 = .ok (.goto 16, 3) := by decide +kernel
theorem dX6_span_45 : decode cX6_span 45 = .ok (.aload 4, 2) := by decide +kernel
theorem dX6_span_47 : decode cX6_span 47 = .ok (.getfield 121, 3) := by decide +kernel
theorem dX6_span_50 : decode cX6_span 50 = .ok (.iload_n 2, 1) := by decide +kernel
theorem dX6_span_51 : decode cX6_span 51 = .ok (.iaload, 1) := by decide +kernel
theorem dX6_span_52 : decode cX6_span 52 = .ok (.aload 4, 2) := by decide +kernel
theorem dX6_span_54 : decode cX6_span 54 = .ok (.getfield 80, 3) := by decide +kernel
theorem dX6_span_57 : decode cX6_span 57 = .ok (.iadd, 1) := by decide +kernel
theorem dX6_span_58 : decode cX6_span 58 = .ok (.ireturn, 1) := by decide +kernel
theorem dX6_slot_0 : decode cX6_slot 0 = .ok (.iload_n 1, 1) := by decide +kernel
theorem dX6_slot_1 : decode cX6_slot 1 = .ok (.invokestatic 20, 3) := by decide +kernel
theorem dX6_slot_4 : decode cX6_slot 4 = .ok (.ifCond .ne 12, 3) := by decide +kernel
theorem dX6_slot_7 : decode cX6_slot 7 = .ok (.iload_n 3, 1) := by decide +kernel
theorem dX6_slot_8 : decode cX6_slot 8 = .ok (.ifCond .lt 8, 3) := by decide +kernel
theorem dX6_slot_11 : decode cX6_slot 11 = .ok (.iload_n 3, 1) := by decide +kernel
theorem dX6_slot_12 : decode cX6_slot 12 = .ok (.iconst 1, 1) := by decide +kernel
theorem dX6_slot_13 : decode cX6_slot 13 = .ok (.if_icmp .le 5, 3) := by decide +kernel
theorem dX6_slot_16 : decode cX6_slot 16 = .ok (.iconst (-1), 1) := by decide +kernel
theorem dX6_slot_17 : decode cX6_slot 17 = .ok (.ireturn, 1) := by decide +kernel
theorem dX6_slot_18 : decode cX6_slot 18 = .ok (.aload_n 0, 1) := by decide +kernel
theorem dX6_slot_19 : decode cX6_slot 19 = .ok (.getfield 11, 3) := by decide +kernel
theorem dX6_slot_22 : decode cX6_slot 22 = .ok (.iload_n 1, 1) := by decide +kernel
theorem dX6_slot_23 : decode cX6_slot 23 = .ok (.aaload, 1) := by decide +kernel
theorem dX6_slot_24 : decode cX6_slot 24 = .ok (.getfield 64, 3) := by decide +kernel
theorem dX6_slot_27 : decode cX6_slot 27 = .ok (.astore 4, 2) := by decide +kernel
theorem dX6_slot_29 : decode cX6_slot 29 = .ok (.iload_n 2, 1) := by decide +kernel
theorem dX6_slot_30 : decode cX6_slot 30 = .ok (.ifCond .lt 12, 3) := by decide +kernel
theorem dX6_slot_33 : decode cX6_slot 33 = .ok (.iload_n 2, 1) := by decide +kernel
theorem dX6_slot_34 : decode cX6_slot 34 = .ok (.aload 4, 2) := by decide +kernel
theorem dX6_slot_36 : decode cX6_slot 36 = .ok (.getfield 77, 3) := by decide +kernel
theorem dX6_slot_39 : decode cX6_slot 39 = .ok (.if_icmp .lt 5, 3) := by decide +kernel
theorem dX6_slot_42 : decode cX6_slot 42 = .ok (.iconst (-1), 1) := by decide +kernel
theorem dX6_slot_43 : decode cX6_slot 43 = .ok (.ireturn, 1) := by decide +kernel
theorem dX6_slot_44 : decode cX6_slot 44 = .ok (.aload 4, 2) := by decide +kernel
theorem dX6_slot_46 : decode cX6_slot 46 = .ok (.aload 4, 2) := by decide +kernel
theorem dX6_slot_48 : decode cX6_slot 48 = .ok (.getfield 121, 3) := by decide +kernel
theorem dX6_slot_51 : decode cX6_slot 51 = .ok (.iload_n 2, 1) := by decide +kernel
theorem dX6_slot_52 : decode cX6_slot 52 = .ok (.invokevirtual 125, 3) := by decide +kernel
theorem dX6_slot_55 : decode cX6_slot 55 = .ok (.istore 5, 2) := by decide +kernel
theorem dX6_slot_57 : decode cX6_slot 57 = .ok (.iload 5, 2) := by decide +kernel
theorem dX6_slot_59 : decode cX6_slot 59 = .ok (.bipush (-2), 2) := by decide +kernel
theorem dX6_slot_61 : decode cX6_slot 61 = .ok (.if_icmp .ne 5, 3) := by decide +kernel
theorem dX6_slot_64 : decode cX6_slot 64 = .ok (.iconst (-1), 1) := by decide +kernel
theorem dX6_slot_65 : decode cX6_slot 65 = .ok (.ireturn, 1) := by decide +kernel
theorem dX6_slot_66 : decode cX6_slot 66 = .ok (.iload_n 3, 1) := by decide +kernel
theorem dX6_slot_67 : decode cX6_slot 67 = .ok (.ifCond .ne 8, 3) := by decide +kernel
theorem dX6_slot_70 : decode cX6_slot 70 = .ok (.iload 5, 2) := by decide +kernel
theorem dX6_slot_72 : decode cX6_slot 72 = .ok (.goto 11, 3) := by decide +kernel
theorem dX6_slot_75 : decode cX6_slot 75 = .ok (.aload 4, 2) := by decide +kernel
theorem dX6_slot_77 : decode cX6_slot 77 = .ok (.getfield 121, 3) := by decide +kernel
theorem dX6_slot_80 : decode cX6_slot 80 = .ok (.iload 5, 2) := by decide +kernel
theorem dX6_slot_82 : decode cX6_slot 82 = .ok (.iaload, 1) := by decide +kernel
theorem dX6_slot_83 : decode cX6_slot 83 = .ok (.ireturn, 1) := by decide +kernel
theorem dX6_parts_0 : decode cX6_parts 0 = .ok (.iload_n 1, 1) := by decide +kernel
theorem dX6_parts_1 : decode cX6_parts 1 = .ok (.invokestatic 20, 3) := by decide +kernel
theorem dX6_parts_4 : decode cX6_parts 4 = .ok (.ifCond .ne 7, 3) := by decide +kernel
theorem dX6_parts_7 : decode cX6_parts 7 = .ok (.iload_n 2, 1) := by decide +kernel
theorem dX6_parts_8 : decode cX6_parts 8 = .ok (.ifCond .ge 5, 3) := by decide +kernel
theorem dX6_parts_11 : decode cX6_parts 11 = .ok (.iconst (-1), 1) := by decide +kernel
theorem dX6_parts_12 : decode cX6_parts 12 = .ok (.ireturn, 1) := by decide +kernel
theorem dX6_parts_13 : decode cX6_parts 13 = .ok (.aload_n 0, 1) := by decide +kernel
theorem dX6_parts_14 : decode cX6_parts 14 = .ok (.getfield 11, 3) := by decide +kernel
theorem dX6_parts_17 : decode cX6_parts 17 = .ok (.iload_n 1, 1) := by decide +kernel
theorem dX6_parts_18 : decode cX6_parts 18 = .ok (.aaload, 1) := by decide +kernel
theorem dX6_parts_19 : decode cX6_parts 19 = .ok (.astore_n 3, 1) := by decide +kernel
theorem dX6_parts_20 : decode cX6_parts 20 = .ok (.aload_n 3, 1) := by decide +kernel
theorem dX6_parts_21 : decode cX6_parts 21 = .ok (.getfield 108, 3) := by decide +kernel
theorem dX6_parts_24 : decode cX6_parts 24 = .ok (.aload_n 3, 1) := by decide +kernel
theorem dX6_parts_25 : decode cX6_parts 25 = .ok (.getfield 83, 3) := by decide +kernel
theorem dX6_parts_28 : decode cX6_parts 28 = .ok (.aload_n 3, 1) := by decide +kernel
theorem dX6_parts_29 : decode cX6_parts 29 = .ok (.getfield 27, 3) := by decide +kernel
theorem dX6_parts_32 : decode cX6_parts 32 = .ok (.iload_n 2, 1) := by decide +kernel
theorem dX6_parts_33 : decode cX6_parts 33 = .ok (.isub, 1) := by decide +kernel
theorem dX6_parts_34 : decode cX6_parts 34 = .ok (.invokevirtual 129, 3) := by decide +kernel
theorem dX6_parts_37 : decode cX6_parts 37 = .ok (.isub, 1) := by decide +kernel
theorem dX6_parts_38 : decode cX6_parts 38 = .ok (.ireturn, 1) := by decide +kernel
theorem dX6_part_0 : decode cX6_part 0 = .ok (.aload_n 0, 1) := by decide +kernel
theorem dX6_part_1 : decode cX6_part 1 = .ok (.iload_n 1, 1) := by decide +kernel
theorem dX6_part_2 : decode cX6_part 2 = .ok (.iload_n 3, 1) := by decide +kernel
theorem dX6_part_3 : decode cX6_part 3 = .ok (.invokevirtual 117, 3) := by decide +kernel
theorem dX6_part_6 : decode cX6_part 6 = .ok (.ifCond .ne 7, 3) := by decide +kernel
theorem dX6_part_9 : decode cX6_part 9 = .ok (.iload_n 2, 1) := by decide +kernel
theorem dX6_part_10 : decode cX6_part 10 = .ok (.ifCond .ge 5, 3) := by decide +kernel
theorem dX6_part_13 : decode cX6_part 13 = .ok (.iconst (-1), 1) := by decide +kernel
theorem dX6_part_14 : decode cX6_part 14 = .ok (.ireturn, 1) := by decide +kernel
theorem dX6_part_15 : decode cX6_part 15 = .ok (.aload_n 0, 1) := by decide +kernel
theorem dX6_part_16 : decode cX6_part 16 = .ok (.getfield 11, 3) := by decide +kernel
theorem dX6_part_19 : decode cX6_part 19 = .ok (.iload_n 1, 1) := by decide +kernel
theorem dX6_part_20 : decode cX6_part 20 = .ok (.aaload, 1) := by decide +kernel
theorem dX6_part_21 : decode cX6_part 21 = .ok (.astore 4, 2) := by decide +kernel
theorem dX6_part_23 : decode cX6_part 23 = .ok (.aload 4, 2) := by decide +kernel
theorem dX6_part_25 : decode cX6_part 25 = .ok (.getfield 83, 3) := by decide +kernel
theorem dX6_part_28 : decode cX6_part 28 = .ok (.aload 4, 2) := by decide +kernel
theorem dX6_part_30 : decode cX6_part 30 = .ok (.getfield 27, 3) := by decide +kernel
theorem dX6_part_33 : decode cX6_part 33 = .ok (.iload_n 2, 1) := by decide +kernel
theorem dX6_part_34 : decode cX6_part 34 = .ok (.isub, 1) := by decide +kernel
theorem dX6_part_35 : decode cX6_part 35 = .ok (.iload_n 3, 1) := by decide +kernel
theorem dX6_part_36 : decode cX6_part 36 = .ok (.invokevirtual 133, 3) := by decide +kernel
theorem dX6_part_39 : decode cX6_part 39 = .ok (.ireturn, 1) := by decide +kernel
theorem dX6_tree_0 : decode cX6_tree 0 = .ok (.iload_n 1, 1) := by decide +kernel
theorem dX6_tree_1 : decode cX6_tree 1 = .ok (.invokestatic 20, 3) := by decide +kernel
theorem dX6_tree_4 : decode cX6_tree 4 = .ok (.ifCond .ne 12, 3) := by decide +kernel
theorem dX6_tree_7 : decode cX6_tree 7 = .ok (.iload_n 3, 1) := by decide +kernel
theorem dX6_tree_8 : decode cX6_tree 8 = .ok (.ifCond .lt 8, 3) := by decide +kernel
theorem dX6_tree_11 : decode cX6_tree 11 = .ok (.iload_n 3, 1) := by decide +kernel
theorem dX6_tree_12 : decode cX6_tree 12 = .ok (.iconst 2, 1) := by decide +kernel
theorem dX6_tree_13 : decode cX6_tree 13 = .ok (.if_icmp .le 5, 3) := by decide +kernel
theorem dX6_tree_16 : decode cX6_tree 16 = .ok (.iconst (-1), 1) := by decide +kernel
theorem dX6_tree_17 : decode cX6_tree 17 = .ok (.ireturn, 1) := by decide +kernel
theorem dX6_tree_18 : decode cX6_tree 18 = .ok (.aload_n 0, 1) := by decide +kernel
theorem dX6_tree_19 : decode cX6_tree 19 = .ok (.getfield 11, 3) := by decide +kernel
theorem dX6_tree_22 : decode cX6_tree 22 = .ok (.iload_n 1, 1) := by decide +kernel
theorem dX6_tree_23 : decode cX6_tree 23 = .ok (.aaload, 1) := by decide +kernel
theorem dX6_tree_24 : decode cX6_tree 24 = .ok (.getfield 83, 3) := by decide +kernel
theorem dX6_tree_27 : decode cX6_tree 27 = .ok (.astore 4, 2) := by decide +kernel
theorem dX6_tree_29 : decode cX6_tree 29 = .ok (.iload_n 2, 1) := by decide +kernel
theorem dX6_tree_30 : decode cX6_tree 30 = .ok (.ifCond .lt 12, 3) := by decide +kernel
theorem dX6_tree_33 : decode cX6_tree 33 = .ok (.iload_n 2, 1) := by decide +kernel
theorem dX6_tree_34 : decode cX6_tree 34 = .ok (.aload 4, 2) := by decide +kernel
theorem dX6_tree_36 : decode cX6_tree 36 = .ok (.getfield 87, 3) := by decide +kernel
theorem dX6_tree_39 : decode cX6_tree 39 = .ok (.if_icmp .lt 5, 3) := by decide +kernel
theorem dX6_tree_42 : decode cX6_tree 42 = .ok (.iconst (-1), 1) := by decide +kernel
theorem dX6_tree_43 : decode cX6_tree 43 = .ok (.ireturn, 1) := by decide +kernel
theorem dX6_tree_44 : decode cX6_tree 44 = .ok (.iload_n 3, 1) := by decide +kernel
theorem dX6_tree_45 : decode cX6_tree 45 = .ok (.ifCond .ne 11, 3) := by decide +kernel
theorem dX6_tree_48 : decode cX6_tree 48 = .ok (.aload 4, 2) := by decide +kernel
theorem dX6_tree_50 : decode cX6_tree 50 = .ok (.getfield 136, 3) := by decide +kernel
theorem dX6_tree_53 : decode cX6_tree 53 = .ok (.iload_n 2, 1) := by decide +kernel
theorem dX6_tree_54 : decode cX6_tree 54 = .ok (.iaload, 1) := by decide +kernel
theorem dX6_tree_55 : decode cX6_tree 55 = .ok (.ireturn, 1) := by decide +kernel
theorem dX6_tree_56 : decode cX6_tree 56 = .ok (.iload_n 3, 1) := by decide +kernel
theorem dX6_tree_57 : decode cX6_tree 57 = .ok (.iconst 1, 1) := by decide +kernel
theorem dX6_tree_58 : decode cX6_tree 58 = .ok (.if_icmp .ne 16, 3) := by decide +kernel
theorem dX6_tree_61 : decode cX6_tree 61 = .ok (.aload 4, 2) := by decide +kernel
theorem dX6_tree_63 : decode cX6_tree 63 = .ok (.getfield 139, 3) := by decide +kernel
theorem dX6_tree_66 : decode cX6_tree 66 = .ok (.iload_n 2, 1) := by decide +kernel
theorem dX6_tree_67 : decode cX6_tree 67 = .ok (.iaload, 1) := by decide +kernel
theorem dX6_tree_68 : decode cX6_tree 68 = .ok (.invokestatic 142, 3) := by decide +kernel
theorem dX6_tree_71 : decode cX6_tree 71 = .ok (.goto 13, 3) := by decide +kernel
theorem dX6_tree_74 : decode cX6_tree 74 = .ok (.aload 4, 2) := by decide +kernel
theorem dX6_tree_76 : decode cX6_tree 76 = .ok (.getfield 139, 3) := by decide +kernel
theorem dX6_tree_79 : decode cX6_tree 79 = .ok (.iload_n 2, 1) := by decide +kernel
theorem dX6_tree_80 : decode cX6_tree 80 = .ok (.iaload, 1) := by decide +kernel
theorem dX6_tree_81 : decode cX6_tree 81 = .ok (.invokestatic 145, 3) := by decide +kernel
theorem dX6_tree_84 : decode cX6_tree 84 = .ok (.ireturn, 1) := by decide +kernel
theorem dX6_since_0 : decode cX6_since 0 = .ok (.aload_n 0, 1) := by decide +kernel
theorem dX6_since_1 : decode cX6_since 1 = .ok (.iload_n 1, 1) := by decide +kernel
theorem dX6_since_2 : decode cX6_since 2 = .ok (.iload_n 2, 1) := by decide +kernel
theorem dX6_since_3 : decode cX6_since 3 = .ok (.invokevirtual 117, 3) := by decide +kernel
theorem dX6_since_6 : decode cX6_since 6 = .ok (.ifCond .ne 12, 3) := by decide +kernel
theorem dX6_since_9 : decode cX6_since 9 = .ok (.aload_n 0, 1) := by decide +kernel
theorem dX6_since_10 : decode cX6_since 10 = .ok (.iload_n 1, 1) := by decide +kernel
theorem dX6_since_11 : decode cX6_since 11 = .ok (.iload_n 3, 1) := by decide +kernel
theorem dX6_since_12 : decode cX6_since 12 = .ok (.invokevirtual 117, 3) := by decide +kernel
theorem dX6_since_15 : decode cX6_since 15 = .ok (.ifCond .eq 5, 3) := by decide +kernel
theorem dX6_since_18 : decode cX6_since 18 = .ok (.iconst (-1), 1) := by decide +kernel
theorem dX6_since_19 : decode cX6_since 19 = .ok (.ireturn, 1) := by decide +kernel
theorem dX6_since_20 : decode cX6_since 20 = .ok (.iload_n 2, 1) := by decide +kernel
theorem dX6_since_21 : decode cX6_since 21 = .ok (.iload_n 3, 1) := by decide +kernel
theorem dX6_since_22 : decode cX6_since 22 = .ok (.if_icmp .ne 5, 3) := by decide +kernel
theorem dX6_since_25 : decode cX6_since 25 = .ok (.iconst 0, 1) := by decide +kernel
theorem dX6_since_26 : decode cX6_since 26 = .ok (.ireturn, 1) := by decide +kernel
theorem dX6_since_27 : decode cX6_since 27 = .ok (.aload_n 0, 1) := by decide +kernel
theorem dX6_since_28 : decode cX6_since 28 = .ok (.getfield 11, 3) := by decide +kernel
theorem dX6_since_31 : decode cX6_since 31 = .ok (.iload_n 1, 1) := by decide +kernel
theorem dX6_since_32 : decode cX6_since 32 = .ok (.aaload, 1) := by decide +kernel
theorem dX6_since_33 : decode cX6_since 33 = .ok (.astore 4, 2) := by decide +kernel
theorem dX6_since_35 : decode cX6_since 35 = .ok (.aload 4, 2) := by decide +kernel
theorem dX6_since_37 : decode cX6_since 37 = .ok (.getfield 83, 3) := by decide +kernel
theorem dX6_since_40 : decode cX6_since 40 = .ok (.iload_n 2, 1) := by decide +kernel
theorem dX6_since_41 : decode cX6_since 41 = .ok (.iload_n 3, 1) := by decide +kernel
theorem dX6_since_42 : decode cX6_since 42 = .ok (.invokevirtual 148, 3) := by decide +kernel
theorem dX6_since_45 : decode cX6_since 45 = .ok (.istore 5, 2) := by decide +kernel
theorem dX6_since_47 : decode cX6_since 47 = .ok (.iload 5, 2) := by decide +kernel
theorem dX6_since_49 : decode cX6_since 49 = .ok (.bipush (-2), 2) := by decide +kernel
theorem dX6_since_51 : decode cX6_since 51 = .ok (.if_icmp .ne 6, 3) := by decide +kernel
theorem dX6_since_54 : decode cX6_since 54 = .ok (.bipush (-2), 2) := by decide +kernel
theorem dX6_since_56 : decode cX6_since 56 = .ok (.ireturn, 1) := by decide +kernel
theorem dX6_since_57 : decode cX6_since 57 = .ok (.aload 4, 2) := by decide +kernel
theorem dX6_since_59 : decode cX6_since 59 = .ok (.getfield 27, 3) := by decide +kernel
theorem dX6_since_62 : decode cX6_since 62 = .ok (.aload 4, 2) := by decide +kernel
theorem dX6_since_64 : decode cX6_since 64 = .ok (.getfield 83, 3) := by decide +kernel
theorem dX6_since_67 : decode cX6_since 67 = .ok (.getfield 136, 3) := by decide +kernel
theorem dX6_since_70 : decode cX6_since 70 = .ok (.iload 5, 2) := by decide +kernel
theorem dX6_since_72 : decode cX6_since 72 = .ok (.iaload, 1) := by decide +kernel
theorem dX6_since_73 : decode cX6_since 73 = .ok (.isub, 1) := by decide +kernel
theorem dX6_since_74 : decode cX6_since 74 = .ok (.iconst 1, 1) := by decide +kernel
theorem dX6_since_75 : decode cX6_since 75 = .ok (.iadd, 1) := by decide +kernel
theorem dX6_since_76 : decode cX6_since 76 = .ok (.ireturn, 1) := by decide +kernel
theorem dX6_far_0 : decode cX6_far 0 = .ok (.aload_n 0, 1) := by decide +kernel
theorem dX6_far_1 : decode cX6_far 1 = .ok (.iload_n 1, 1) := by decide +kernel
theorem dX6_far_2 : decode cX6_far 2 = .ok (.iload_n 2, 1) := by decide +kernel
theorem dX6_far_3 : decode cX6_far 3 = .ok (.invokevirtual 117, 3) := by decide +kernel
theorem dX6_far_6 : decode cX6_far 6 = .ok (.ifCond .ne 12, 3) := by decide +kernel
theorem dX6_far_9 : decode cX6_far 9 = .ok (.aload_n 0, 1) := by decide +kernel
theorem dX6_far_10 : decode cX6_far 10 = .ok (.iload_n 1, 1) := by decide +kernel
theorem dX6_far_11 : decode cX6_far 11 = .ok (.iload_n 3, 1) := by decide +kernel
theorem dX6_far_12 : decode cX6_far 12 = .ok (.invokevirtual 117, 3) := by decide +kernel
theorem dX6_far_15 : decode cX6_far 15 = .ok (.ifCond .eq 5, 3) := by decide +kernel
theorem dX6_far_18 : decode cX6_far 18 = .ok (.iconst (-1), 1) := by decide +kernel
theorem dX6_far_19 : decode cX6_far 19 = .ok (.ireturn, 1) := by decide +kernel
theorem dX6_far_20 : decode cX6_far 20 = .ok (.aload_n 0, 1) := by decide +kernel
theorem dX6_far_21 : decode cX6_far 21 = .ok (.getfield 11, 3) := by decide +kernel
theorem dX6_far_24 : decode cX6_far 24 = .ok (.iload_n 1, 1) := by decide +kernel
theorem dX6_far_25 : decode cX6_far 25 = .ok (.aaload, 1) := by decide +kernel
theorem dX6_far_26 : decode cX6_far 26 = .ok (.getfield 92, 3) := by decide +kernel
theorem dX6_far_29 : decode cX6_far 29 = .ok (.iload_n 2, 1) := by decide +kernel
theorem dX6_far_30 : decode cX6_far 30 = .ok (.iload_n 3, 1) := by decide +kernel
theorem dX6_far_31 : decode cX6_far 31 = .ok (.bipush 64, 2) := by decide +kernel
theorem dX6_far_33 : decode cX6_far 33 = .ok (.invokevirtual 151, 3) := by decide +kernel
theorem dX6_far_36 : decode cX6_far 36 = .ok (.ireturn, 1) := by decide +kernel
theorem dX6_kept_0 : decode cX6_kept 0 = .ok (.iload_n 1, 1) := by decide +kernel
theorem dX6_kept_1 : decode cX6_kept 1 = .ok (.invokestatic 20, 3) := by decide +kernel
theorem dX6_kept_4 : decode cX6_kept 4 = .ok (.ifCond .ne 12, 3) := by decide +kernel
theorem dX6_kept_7 : decode cX6_kept 7 = .ok (.iload_n 3, 1) := by decide +kernel
theorem dX6_kept_8 : decode cX6_kept 8 = .ok (.ifCond .lt 8, 3) := by decide +kernel
theorem dX6_kept_11 : decode cX6_kept 11 = .ok (.iload_n 3, 1) := by decide +kernel
theorem dX6_kept_12 : decode cX6_kept 12 = .ok (.iconst 2, 1) := by decide +kernel
theorem dX6_kept_13 : decode cX6_kept 13 = .ok (.if_icmp .le 5, 3) := by decide +kernel
theorem dX6_kept_16 : decode cX6_kept 16 = .ok (.iconst (-1), 1) := by decide +kernel
theorem dX6_kept_17 : decode cX6_kept 17 = .ok (.ireturn, 1) := by decide +kernel
theorem dX6_kept_18 : decode cX6_kept 18 = .ok (.aload_n 0, 1) := by decide +kernel
theorem dX6_kept_19 : decode cX6_kept 19 = .ok (.getfield 11, 3) := by decide +kernel
theorem dX6_kept_22 : decode cX6_kept 22 = .ok (.iload_n 1, 1) := by decide +kernel
theorem dX6_kept_23 : decode cX6_kept 23 = .ok (.aaload, 1) := by decide +kernel
theorem dX6_kept_24 : decode cX6_kept 24 = .ok (.getfield 92, 3) := by decide +kernel
theorem dX6_kept_27 : decode cX6_kept 27 = .ok (.astore 4, 2) := by decide +kernel
theorem dX6_kept_29 : decode cX6_kept 29 = .ok (.iload_n 2, 1) := by decide +kernel
theorem dX6_kept_30 : decode cX6_kept 30 = .ok (.ifCond .lt 12, 3) := by decide +kernel
theorem dX6_kept_33 : decode cX6_kept 33 = .ok (.iload_n 2, 1) := by decide +kernel
theorem dX6_kept_34 : decode cX6_kept 34 = .ok (.aload 4, 2) := by decide +kernel
theorem dX6_kept_36 : decode cX6_kept 36 = .ok (.getfield 96, 3) := by decide +kernel
theorem dX6_kept_39 : decode cX6_kept 39 = .ok (.if_icmp .lt 5, 3) := by decide +kernel
theorem dX6_kept_42 : decode cX6_kept 42 = .ok (.iconst (-1), 1) := by decide +kernel
theorem dX6_kept_43 : decode cX6_kept 43 = .ok (.ireturn, 1) := by decide +kernel
theorem dX6_kept_44 : decode cX6_kept 44 = .ok (.iload_n 3, 1) := by decide +kernel
theorem dX6_kept_45 : decode cX6_kept 45 = .ok (.iconst 2, 1) := by decide +kernel
theorem dX6_kept_46 : decode cX6_kept 46 = .ok (.if_icmp .ne 11, 3) := by decide +kernel
theorem dX6_kept_49 : decode cX6_kept 49 = .ok (.aload 4, 2) := by decide +kernel
theorem dX6_kept_51 : decode cX6_kept 51 = .ok (.getfield 154, 3) := by decide +kernel
theorem dX6_kept_54 : decode cX6_kept 54 = .ok (.iload_n 2, 1) := by decide +kernel
theorem dX6_kept_55 : decode cX6_kept 55 = .ok (.iaload, 1) := by decide +kernel
theorem dX6_kept_56 : decode cX6_kept 56 = .ok (.ireturn, 1) := by decide +kernel
theorem dX6_kept_57 : decode cX6_kept 57 = .ok (.iload_n 3, 1) := by decide +kernel
theorem dX6_kept_58 : decode cX6_kept 58 = .ok (.ifCond .ne 16, 3) := by decide +kernel
theorem dX6_kept_61 : decode cX6_kept 61 = .ok (.aload 4, 2) := by decide +kernel
theorem dX6_kept_63 : decode cX6_kept 63 = .ok (.getfield 155, 3) := by decide +kernel
theorem dX6_kept_66 : decode cX6_kept 66 = .ok (.iload_n 2, 1) := by decide +kernel
theorem dX6_kept_67 : decode cX6_kept 67 = .ok (.iaload, 1) := by decide +kernel
theorem dX6_kept_68 : decode cX6_kept 68 = .ok (.invokestatic 142, 3) := by decide +kernel
theorem dX6_kept_71 : decode cX6_kept 71 = .ok (.goto 13, 3) := by decide +kernel
theorem dX6_kept_74 : decode cX6_kept 74 = .ok (.aload 4, 2) := by decide +kernel
theorem dX6_kept_76 : decode cX6_kept 76 = .ok (.getfield 155, 3) := by decide +kernel
theorem dX6_kept_79 : decode cX6_kept 79 = .ok (.iload_n 2, 1) := by decide +kernel
theorem dX6_kept_80 : decode cX6_kept 80 = .ok (.iaload, 1) := by decide +kernel
theorem dX6_kept_81 : decode cX6_kept 81 = .ok (.invokestatic 145, 3) := by decide +kernel
theorem dX6_kept_84 : decode cX6_kept 84 = .ok (.ireturn, 1) := by decide +kernel
theorem dX6_mate_0 : decode cX6_mate 0 = .ok (.aload_n 0, 1) := by decide +kernel
theorem dX6_mate_1 : decode cX6_mate 1 = .ok (.iload_n 1, 1) := by decide +kernel
theorem dX6_mate_2 : decode cX6_mate 2 = .ok (.iload_n 2, 1) := by decide +kernel
theorem dX6_mate_3 : decode cX6_mate 3 = .ok (.invokevirtual 117, 3) := by decide +kernel
theorem dX6_mate_6 : decode cX6_mate 6 = .ok (.ifCond .eq 5, 3) := by decide +kernel
theorem dX6_mate_9 : decode cX6_mate 9 = .ok (.iconst (-1), 1) := by decide +kernel
theorem dX6_mate_10 : decode cX6_mate 10 = .ok (.ireturn, 1) := by decide +kernel
theorem dX6_mate_11 : decode cX6_mate 11 = .ok (.aload_n 0, 1) := by decide +kernel
theorem dX6_mate_12 : decode cX6_mate 12 = .ok (.getfield 11, 3) := by decide +kernel
theorem dX6_mate_15 : decode cX6_mate 15 = .ok (.iload_n 1, 1) := by decide +kernel
theorem dX6_mate_16 : decode cX6_mate 16 = .ok (.aaload, 1) := by decide +kernel
theorem dX6_mate_17 : decode cX6_mate 17 = .ok (.getfield 99, 3) := by decide +kernel
theorem dX6_mate_20 : decode cX6_mate 20 = .ok (.getfield 156, 3) := by decide +kernel
theorem dX6_mate_23 : decode cX6_mate 23 = .ok (.iload_n 2, 1) := by decide +kernel
theorem dX6_mate_24 : decode cX6_mate 24 = .ok (.iaload, 1) := by decide +kernel
theorem dX6_mate_25 : decode cX6_mate 25 = .ok (.ireturn, 1) := by decide +kernel
theorem dX6_sum_0 : decode cX6_sum 0 = .ok (.aload_n 0, 1) := by decide +kernel
theorem dX6_sum_1 : decode cX6_sum 1 = .ok (.iload_n 1, 1) := by decide +kernel
theorem dX6_sum_2 : decode cX6_sum 2 = .ok (.iload_n 2, 1) := by decide +kernel
theorem dX6_sum_3 : decode cX6_sum 3 = .ok (.invokevirtual 117, 3) := by decide +kernel
theorem dX6_sum_6 : decode cX6_sum 6 = .ok (.ifCond .ne 24, 3) := by decide +kernel
theorem dX6_sum_9 : decode cX6_sum 9 = .ok (.iload_n 3, 1) := by decide +kernel
theorem dX6_sum_10 : decode cX6_sum 10 = .ok (.ifCond .lt 20, 3) := by decide +kernel
theorem dX6_sum_13 : decode cX6_sum 13 = .ok (.iload_n 3, 1) := by decide +kernel
theorem dX6_sum_14 : decode cX6_sum 14 = .ok (.bipush 10, 2) := by decide +kernel
theorem dX6_sum_16 : decode cX6_sum 16 = .ok (.if_icmp .ge 14, 3) := by decide +kernel
theorem dX6_sum_19 : decode cX6_sum 19 = .ok (.iload 4, 2) := by decide +kernel
theorem dX6_sum_21 : decode cX6_sum 21 = .ok (.ifCond .lt 9, 3) := by decide +kernel
theorem dX6_sum_24 : decode cX6_sum 24 = .ok (.iload 4, 2) := by decide +kernel
theorem dX6_sum_26 : decode cX6_sum 26 = .ok (.iconst 3, 1) := by decide +kernel
theorem dX6_sum_27 : decode cX6_sum 27 = .ok (.if_icmp .lt 5, 3) := by decide +kernel
theorem dX6_sum_30 : decode cX6_sum 30 = .ok (.lconst 0, 1) := by decide +kernel
theorem dX6_sum_31 : decode cX6_sum 31 = .ok (.lreturn, 1) := by decide +kernel
theorem dX6_sum_32 : decode cX6_sum 32 = .ok (.aload_n 0, 1) := by decide +kernel
theorem dX6_sum_33 : decode cX6_sum 33 = .ok (.getfield 11, 3) := by decide +kernel
theorem dX6_sum_36 : decode cX6_sum 36 = .ok (.iload_n 1, 1) := by decide +kernel
theorem dX6_sum_37 : decode cX6_sum 37 = .ok (.aaload, 1) := by decide +kernel
theorem dX6_sum_38 : decode cX6_sum 38 = .ok (.getfield 42, 3) := by decide +kernel
theorem dX6_sum_41 : decode cX6_sum 41 = .ok (.getfield 159, 3) := by decide +kernel
theorem dX6_sum_44 : decode cX6_sum 44 = .ok (.iload_n 2, 1) := by decide +kernel
theorem dX6_sum_45 : decode cX6_sum 45 = .ok (.iload_n 3, 1) := by decide +kernel
theorem dX6_sum_46 : decode cX6_sum 46 = .ok (.invokestatic 163, 3) := by decide +kernel
theorem dX6_sum_49 : decode cX6_sum 49 = .ok (.iload 4, 2) := by decide +kernel
theorem dX6_sum_51 : decode cX6_sum 51 = .ok (.iadd, 1) := by decide +kernel
theorem dX6_sum_52 : decode cX6_sum 52 = .ok (.laload, 1) := by decide +kernel
theorem dX6_sum_53 : decode cX6_sum 53 = .ok (.lreturn, 1) := by decide +kernel
theorem dX6_out_0 : decode cX6_out 0 = .ok (.iload_n 1, 1) := by decide +kernel
theorem dX6_out_1 : decode cX6_out 1 = .ok (.invokestatic 20, 3) := by decide +kernel
theorem dX6_out_4 : decode cX6_out 4 = .ok (.ifCond .eq 5, 3) := by decide +kernel
theorem dX6_out_7 : decode cX6_out 7 = .ok (.iconst (-1), 1) := by decide +kernel
theorem dX6_out_8 : decode cX6_out 8 = .ok (.ireturn, 1) := by decide +kernel
theorem dX6_out_9 : decode cX6_out 9 = .ok (.aload_n 0, 1) := by decide +kernel
theorem dX6_out_10 : decode cX6_out 10 = .ok (.getfield 11, 3) := by decide +kernel
theorem dX6_out_13 : decode cX6_out 13 = .ok (.iload_n 1, 1) := by decide +kernel
theorem dX6_out_14 : decode cX6_out 14 = .ok (.aaload, 1) := by decide +kernel
theorem dX6_out_15 : decode cX6_out 15 = .ok (.getfield 42, 3) := by decide +kernel
theorem dX6_out_18 : decode cX6_out 18 = .ok (.astore 4, 2) := by decide +kernel
theorem dX6_out_20 : decode cX6_out 20 = .ok (.aload_n 0, 1) := by decide +kernel
theorem dX6_out_21 : decode cX6_out 21 = .ok (.bipush (-2), 2) := by decide +kernel
theorem dX6_out_23 : decode cX6_out 23 = .ok (.putfield 16, 3) := by decide +kernel
theorem dX6_out_26 : decode cX6_out 26 = .ok (.bipush 9, 2) := by decide +kernel
theorem dX6_out_28 : decode cX6_out 28 = .ok (.istore 5, 2) := by decide +kernel
theorem dX6_out_30 : decode cX6_out 30 = .ok (.iload 5, 2) := by decide +kernel
theorem dX6_out_32 : decode cX6_out 32 = .ok (.ifCond .lt 35, 3) := by decide +kernel
theorem dX6_out_35 : decode cX6_out 35 = .ok (.aload 4, 2) := by decide +kernel
theorem dX6_out_37 : decode cX6_out 37 = .ok (.lload_n 2, 1) := by decide +kernel
theorem dX6_out_38 : decode cX6_out 38 = .ok (.iload 5, 2) := by decide +kernel
theorem dX6_out_40 : decode cX6_out 40 = .ok (.invokevirtual 166, 3) := by decide +kernel
theorem dX6_out_43 : decode cX6_out 43 = .ok (.istore 6, 2) := by decide +kernel
theorem dX6_out_45 : decode cX6_out 45 = .ok (.iload 6, 2) := by decide +kernel
theorem dX6_out_47 : decode cX6_out 47 = .ok (.bipush (-2), 2) := by decide +kernel
theorem dX6_out_49 : decode cX6_out 49 = .ok (.if_icmp .eq 12, 3) := by decide +kernel
theorem dX6_out_52 : decode cX6_out 52 = .ok (.aload_n 0, 1) := by decide +kernel
theorem dX6_out_53 : decode cX6_out 53 = .ok (.iload 5, 2) := by decide +kernel
theorem dX6_out_55 : decode cX6_out 55 = .ok (.putfield 16, 3) := by decide +kernel
theorem dX6_out_58 : decode cX6_out 58 = .ok (.iload 6, 2) := by decide +kernel
theorem dX6_out_60 : decode cX6_out 60 = .ok (.ireturn, 1) := by decide +kernel
theorem dX6_out_61 : decode cX6_out 61 = .ok (.iinc 5 (-1), 3) := by decide +kernel
theorem dX6_out_64 : decode cX6_out 64 = .ok (.goto (-34), 3) := by decide +kernel
theorem dX6_out_67 : decode cX6_out 67 = .ok (.aload 4, 2) := by decide +kernel
theorem dX6_out_69 : decode cX6_out 69 = .ok (.lload_n 2, 1) := by decide +kernel
theorem dX6_out_70 : decode cX6_out 70 = .ok (.invokevirtual 170, 3) := by decide +kernel
theorem dX6_out_73 : decode cX6_out 73 = .ok (.ifCond .eq 8, 3) := by decide +kernel
theorem dX6_out_76 : decode cX6_out 76 = .ok (.bipush (-4), 2) := by decide +kernel
theorem dX6_out_78 : decode cX6_out 78 = .ok (.goto 5, 3) := by decide +kernel
theorem dX6_out_81 : decode cX6_out 81 = .ok (.bipush (-5), 2) := by decide +kernel
theorem dX6_out_83 : decode cX6_out 83 = .ok (.ireturn, 1) := by decide +kernel
theorem dX6_level_0 : decode cX6_level 0 = .ok (.aload_n 0, 1) := by decide +kernel
theorem dX6_level_1 : decode cX6_level 1 = .ok (.getfield 16, 3) := by decide +kernel
theorem dX6_level_4 : decode cX6_level 4 = .ok (.ireturn, 1) := by decide +kernel
theorem dX6_same_0 : decode cX6_same 0 = .ok (.iload_n 1, 1) := by decide +kernel
theorem dX6_same_1 : decode cX6_same 1 = .ok (.invokestatic 20, 3) := by decide +kernel
theorem dX6_same_4 : decode cX6_same 4 = .ok (.ifCond .ne 10, 3) := by decide +kernel
theorem dX6_same_7 : decode cX6_same 7 = .ok (.iload_n 2, 1) := by decide +kernel
theorem dX6_same_8 : decode cX6_same 8 = .ok (.invokestatic 20, 3) := by decide +kernel
theorem dX6_same_11 : decode cX6_same 11 = .ok (.ifCond .eq 5, 3) := by decide +kernel
theorem dX6_same_14 : decode cX6_same 14 = .ok (.iconst (-1), 1) := by decide +kernel
theorem dX6_same_15 : decode cX6_same 15 = .ok (.ireturn, 1) := by decide +kernel
theorem dX6_same_16 : decode cX6_same 16 = .ok (.aload_n 0, 1) := by decide +kernel
theorem dX6_same_17 : decode cX6_same 17 = .ok (.getfield 11, 3) := by decide +kernel
theorem dX6_same_20 : decode cX6_same 20 = .ok (.iload_n 1, 1) := by decide +kernel
theorem dX6_same_21 : decode cX6_same 21 = .ok (.aaload, 1) := by decide +kernel
theorem dX6_same_22 : decode cX6_same 22 = .ok (.astore_n 3, 1) := by decide +kernel
theorem dX6_same_23 : decode cX6_same 23 = .ok (.aload_n 0, 1) := by decide +kernel
theorem dX6_same_24 : decode cX6_same 24 = .ok (.getfield 11, 3) := by decide +kernel
theorem dX6_same_27 : decode cX6_same 27 = .ok (.iload_n 2, 1) := by decide +kernel
theorem dX6_same_28 : decode cX6_same 28 = .ok (.aaload, 1) := by decide +kernel
theorem dX6_same_29 : decode cX6_same 29 = .ok (.astore 4, 2) := by decide +kernel
theorem dX6_same_31 : decode cX6_same 31 = .ok (.aload_n 3, 1) := by decide +kernel
theorem dX6_same_32 : decode cX6_same 32 = .ok (.aload 4, 2) := by decide +kernel
theorem dX6_same_34 : decode cX6_same 34 = .ok (.invokevirtual 60, 3) := by decide +kernel
theorem dX6_same_37 : decode cX6_same 37 = .ok (.ifCond .eq 6, 3) := by decide +kernel
theorem dX6_same_40 : decode cX6_same 40 = .ok (.bipush (-3), 2) := by decide +kernel
theorem dX6_same_42 : decode cX6_same 42 = .ok (.ireturn, 1) := by decide +kernel
theorem dX6_same_43 : decode cX6_same 43 = .ok (.aload_n 3, 1) := by decide +kernel
theorem dX6_same_44 : decode cX6_same 44 = .ok (.getfield 42, 3) := by decide +kernel
theorem dX6_same_47 : decode cX6_same 47 = .ok (.aload 4, 2) := by decide +kernel
theorem dX6_same_49 : decode cX6_same 49 = .ok (.getfield 42, 3) := by decide +kernel
theorem dX6_same_52 : decode cX6_same 52 = .ok (.invokevirtual 174, 3) := by decide +kernel
theorem dX6_same_55 : decode cX6_same 55 = .ok (.ifCond .eq 7, 3) := by decide +kernel
theorem dX6_same_58 : decode cX6_same 58 = .ok (.iconst 1, 1) := by decide +kernel
theorem dX6_same_59 : decode cX6_same 59 = .ok (.goto 4, 3) := by decide +kernel
theorem dX6_same_62 : decode cX6_same 62 = .ok (.iconst 0, 1) := by decide +kernel
theorem dX6_same_63 : decode cX6_same 63 = .ok (.ireturn, 1) := by decide +kernel
theorem dX6_isStretch_0 : decode cX6_isStretch 0 = .ok (.iload_n 0, 1) := by decide +kernel
theorem dX6_isStretch_1 : decode cX6_isStretch 1 = .ok (.iconst 1, 1) := by decide +kernel
theorem dX6_isStretch_2 : decode cX6_isStretch 2 = .ok (.if_icmp .lt 20, 3) := by decide +kernel
theorem dX6_isStretch_5 : decode cX6_isStretch 5 = .ok (.iload_n 0, 1) := by decide +kernel
theorem dX6_isStretch_6 : decode cX6_isStretch 6 = .ok (.bipush 7, 2) := by decide +kernel
theorem dX6_isStretch_8 : decode cX6_isStretch 8 = .ok (.if_icmp .gt 14, 3) := by decide +kernel
theorem dX6_isStretch_11 : decode cX6_isStretch 11 = .ok (.iload_n 0, 1) := by decide +kernel
theorem dX6_isStretch_12 : decode cX6_isStretch 12 = .ok (.iconst 1, 1) := by decide +kernel
theorem dX6_isStretch_13 : decode cX6_isStretch 13 = .ok (.iand, 1) := by decide +kernel
theorem dX6_isStretch_14 : decode cX6_isStretch 14 = .ok (.iconst 1, 1) := by decide +kernel
theorem dX6_isStretch_15 : decode cX6_isStretch 15 = .ok (.if_icmp .ne 7, 3) := by decide +kernel
theorem dX6_isStretch_18 : decode cX6_isStretch 18 = .ok (.iconst 1, 1) := by decide +kernel
theorem dX6_isStretch_19 : decode cX6_isStretch 19 = .ok (.goto 4, 3) := by decide +kernel
theorem dX6_isStretch_22 : decode cX6_isStretch 22 = .ok (.iconst 0, 1) := by decide +kernel
theorem dX6_isStretch_23 : decode cX6_isStretch 23 = .ok (.ireturn, 1) := by decide +kernel
theorem dX6_noStream_0 : decode cX6_noStream 0 = .ok (.iload_n 0, 1) := by decide +kernel
theorem dX6_noStream_1 : decode cX6_noStream 1 = .ok (.ifCond .lt 8, 3) := by decide +kernel
theorem dX6_noStream_4 : decode cX6_noStream 4 = .ok (.iload_n 0, 1) := by decide +kernel
theorem dX6_noStream_5 : decode cX6_noStream 5 = .ok (.iconst 3, 1) := by decide +kernel
theorem dX6_noStream_6 : decode cX6_noStream 6 = .ok (.if_icmp .lt 7, 3) := by decide +kernel
theorem dX6_noStream_9 : decode cX6_noStream 9 = .ok (.iconst 1, 1) := by decide +kernel
theorem dX6_noStream_10 : decode cX6_noStream 10 = .ok (.goto 4, 3) := by decide +kernel
theorem dX6_noStream_13 : decode cX6_noStream 13 = .ok (.iconst 0, 1) := by decide +kernel
theorem dX6_noStream_14 : decode cX6_noStream 14 = .ok (.ireturn, 1) := by decide +kernel
theorem dX6_noNode_0 : decode cX6_noNode 0 = .ok (.iload_n 1, 1) := by decide +kernel
theorem dX6_noNode_1 : decode cX6_noNode 1 = .ok (.invokestatic 20, 3) := by decide +kernel
theorem dX6_noNode_4 : decode cX6_noNode 4 = .ok (.ifCond .ne 20, 3) := by decide +kernel
theorem dX6_noNode_7 : decode cX6_noNode 7 = .ok (.iload_n 2, 1) := by decide +kernel
theorem dX6_noNode_8 : decode cX6_noNode 8 = .ok (.ifCond .lt 16, 3) := by decide +kernel
theorem dX6_noNode_11 : decode cX6_noNode 11 = .ok (.iload_n 2, 1) := by decide +kernel
theorem dX6_noNode_12 : decode cX6_noNode 12 = .ok (.aload_n 0, 1) := by decide +kernel
theorem dX6_noNode_13 : decode cX6_noNode 13 = .ok (.getfield 11, 3) := by decide +kernel
theorem dX6_noNode_16 : decode cX6_noNode 16 = .ok (.iload_n 1, 1) := by decide +kernel
theorem dX6_noNode_17 : decode cX6_noNode 17 = .ok (.aaload, 1) := by decide +kernel
theorem dX6_noNode_18 : decode cX6_noNode 18 = .ok (.getfield 108, 3) := by decide +kernel
theorem dX6_noNode_21 : decode cX6_noNode 21 = .ok (.if_icmp .lt 7, 3) := by decide +kernel
theorem dX6_noNode_24 : decode cX6_noNode 24 = .ok (.iconst 1, 1) := by decide +kernel
theorem dX6_noNode_25 : decode cX6_noNode 25 = .ok (.goto 4, 3) := by decide +kernel
theorem dX6_noNode_28 : decode cX6_noNode 28 = .ok (.iconst 0, 1) := by decide +kernel
theorem dX6_noNode_29 : decode cX6_noNode 29 = .ok (.ireturn, 1) := by decide +kernel
theorem dX6_noArc_0 : decode cX6_noArc 0 = .ok (.aload_n 0, 1) := by decide +kernel
theorem dX6_noArc_1 : decode cX6_noArc 1 = .ok (.iload_n 1, 1) := by decide +kernel
theorem dX6_noArc_2 : decode cX6_noArc 2 = .ok (.iload_n 2, 1) := by decide +kernel
theorem dX6_noArc_3 : decode cX6_noArc 3 = .ok (.invokevirtual 117, 3) := by decide +kernel
theorem dX6_noArc_6 : decode cX6_noArc 6 = .ok (.ifCond .ne 17, 3) := by decide +kernel
theorem dX6_noArc_9 : decode cX6_noArc 9 = .ok (.aload_n 0, 1) := by decide +kernel
theorem dX6_noArc_10 : decode cX6_noArc 10 = .ok (.iload_n 1, 1) := by decide +kernel
theorem dX6_noArc_11 : decode cX6_noArc 11 = .ok (.iload_n 3, 1) := by decide +kernel
theorem dX6_noArc_12 : decode cX6_noArc 12 = .ok (.invokevirtual 117, 3) := by decide +kernel
theorem dX6_noArc_15 : decode cX6_noArc 15 = .ok (.ifCond .ne 8, 3) := by decide +kernel
theorem dX6_noArc_18 : decode cX6_noArc 18 = .ok (.iload_n 2, 1) := by decide +kernel
theorem dX6_noArc_19 : decode cX6_noArc 19 = .ok (.iload_n 3, 1) := by decide +kernel
theorem dX6_noArc_20 : decode cX6_noArc 20 = .ok (.if_icmp .ne 7, 3) := by decide +kernel
theorem dX6_noArc_23 : decode cX6_noArc 23 = .ok (.iconst 1, 1) := by decide +kernel
theorem dX6_noArc_24 : decode cX6_noArc 24 = .ok (.goto 4, 3) := by decide +kernel
theorem dX6_noArc_27 : decode cX6_noArc 27 = .ok (.iconst 0, 1) := by decide +kernel
theorem dX6_noArc_28 : decode cX6_noArc 28 = .ok (.ireturn, 1) := by decide +kernel
theorem dX6_keyOf_0 : decode cX6_keyOf 0 = .ok (.bipush 64, 2) := by decide +kernel
theorem dX6_keyOf_2 : decode cX6_keyOf 2 = .ok (.iload_n 0, 1) := by decide +kernel
theorem dX6_keyOf_3 : decode cX6_keyOf 3 = .ok (.imul, 1) := by decide +kernel
theorem dX6_keyOf_4 : decode cX6_keyOf 4 = .ok (.iload_n 1, 1) := by decide +kernel
theorem dX6_keyOf_5 : decode cX6_keyOf 5 = .ok (.iadd, 1) := by decide +kernel
theorem dX6_keyOf_6 : decode cX6_keyOf 6 = .ok (.ireturn, 1) := by decide +kernel
theorem dX6_lesserNode_0 : decode cX6_lesserNode 0 = .ok (.iload_n 0, 1) := by decide +kernel
theorem dX6_lesserNode_1 : decode cX6_lesserNode 1 = .ok (.bipush 64, 2) := by decide +kernel
theorem dX6_lesserNode_3 : decode cX6_lesserNode 3 = .ok (.idiv, 1) := by decide +kernel
theorem dX6_lesserNode_4 : decode cX6_lesserNode 4 = .ok (.ireturn, 1) := by decide +kernel
theorem dX6_greaterNode_0 : decode cX6_greaterNode 0 = .ok (.iload_n 0, 1) := by decide +kernel
theorem dX6_greaterNode_1 : decode cX6_greaterNode 1 = .ok (.bipush 64, 2) := by decide +kernel
theorem dX6_greaterNode_3 : decode cX6_greaterNode 3 = .ok (.irem, 1) := by decide +kernel
theorem dX6_greaterNode_4 : decode cX6_greaterNode 4 = .ok (.ireturn, 1) := by decide +kernel
theorem dX6_holds_0 : decode cX6_holds 0 = .ok (.lload_n 0, 1) := by decide +kernel
theorem dX6_holds_1 : decode cX6_holds 1 = .ok (.iload_n 2, 1) := by decide +kernel
theorem dX6_holds_2 : decode cX6_holds 2 = .ok (.lushr, 1) := by decide +kernel
theorem dX6_holds_3 : decode cX6_holds 3 = .ok (.lconst 1, 1) := by decide +kernel
theorem dX6_holds_4 : decode cX6_holds 4 = .ok (.land, 1) := by decide +kernel
theorem dX6_holds_5 : decode cX6_holds 5 = .ok (.lconst 1, 1) := by decide +kernel
theorem dX6_holds_6 : decode cX6_holds 6 = .ok (.lcmp, 1) := by decide +kernel
theorem dX6_holds_7 : decode cX6_holds 7 = .ok (.ifCond .ne 7, 3) := by decide +kernel
theorem dX6_holds_10 : decode cX6_holds 10 = .ok (.iconst 1, 1) := by decide +kernel
theorem dX6_holds_11 : decode cX6_holds 11 = .ok (.goto 4, 3) := by decide +kernel
theorem dX6_holds_14 : decode cX6_holds 14 = .ok (.iconst 0, 1) := by decide +kernel
theorem dX6_holds_15 : decode cX6_holds 15 = .ok (.ireturn, 1) := by decide +kernel
theorem dX7_init_0 : decode cX7_init 0 = .ok (.aload_n 0, 1) := by decide +kernel
theorem dX7_init_1 : decode cX7_init 1 = .ok (.invokespecial 1, 3) := by decide +kernel
theorem dX7_init_4 : decode cX7_init 4 = .ok (.aload_n 0, 1) := by decide +kernel
theorem dX7_init_5 : decode cX7_init 5 = .ok (.iconst 3, 1) := by decide +kernel
theorem dX7_init_6 : decode cX7_init 6 = .ok (.newarray .int, 2) := by decide +kernel
theorem dX7_init_8 : decode cX7_init 8 = .ok (.dup, 1) := by decide +kernel
theorem dX7_init_9 : decode cX7_init 9 = .ok (.iconst 0, 1) := by decide +kernel
theorem dX7_init_10 : decode cX7_init 10 = .ok (.iconst 2, 1) := by decide +kernel
theorem dX7_init_11 : decode cX7_init 11 = .ok (.iastore, 1) := by decide +kernel
theorem dX7_init_12 : decode cX7_init 12 = .ok (.dup, 1) := by decide +kernel
theorem dX7_init_13 : decode cX7_init 13 = .ok (.iconst 1, 1) := by decide +kernel
theorem dX7_init_14 : decode cX7_init 14 = .ok (.iconst 2, 1) := by decide +kernel
theorem dX7_init_15 : decode cX7_init 15 = .ok (.iastore, 1) := by decide +kernel
theorem dX7_init_16 : decode cX7_init 16 = .ok (.dup, 1) := by decide +kernel
theorem dX7_init_17 : decode cX7_init 17 = .ok (.iconst 2, 1) := by decide +kernel
theorem dX7_init_18 : decode cX7_init 18 = .ok (.iconst 2, 1) := by decide +kernel
theorem dX7_init_19 : decode cX7_init 19 = .ok (.iastore, 1) := by decide +kernel
theorem dX7_init_20 : decode cX7_init 20 = .ok (.putfield 7, 3) := by decide +kernel
theorem dX7_init_23 : decode cX7_init 23 = .ok (.aload_n 0, 1) := by decide +kernel
theorem dX7_init_24 : decode cX7_init 24 = .ok (.iconst 3, 1) := by decide +kernel
theorem dX7_init_25 : decode cX7_init 25 = .ok (.newarray .int, 2) := by decide +kernel
theorem dX7_init_27 : decode cX7_init 27 = .ok (.dup, 1) := by decide +kernel
theorem dX7_init_28 : decode cX7_init 28 = .ok (.iconst 0, 1) := by decide +kernel
theorem dX7_init_29 : decode cX7_init 29 = .ok (.iconst 1, 1) := by decide +kernel
theorem dX7_init_30 : decode cX7_init 30 = .ok (.iastore, 1) := by decide +kernel
theorem dX7_init_31 : decode cX7_init 31 = .ok (.dup, 1) := by decide +kernel
theorem dX7_init_32 : decode cX7_init 32 = .ok (.iconst 1, 1) := by decide +kernel
theorem dX7_init_33 : decode cX7_init 33 = .ok (.iconst 1, 1) := by decide +kernel
theorem dX7_init_34 : decode cX7_init 34 = .ok (.iastore, 1) := by decide +kernel
theorem dX7_init_35 : decode cX7_init 35 = .ok (.dup, 1) := by decide +kernel
theorem dX7_init_36 : decode cX7_init 36 = .ok (.iconst 2, 1) := by decide +kernel
theorem dX7_init_37 : decode cX7_init 37 = .ok (.iconst 1, 1) := by decide +kernel
theorem dX7_init_38 : decode cX7_init 38 = .ok (.iastore, 1) := by decide +kernel
theorem dX7_init_39 : decode cX7_init 39 = .ok (.putfield 13, 3) := by decide +kernel
theorem dX7_init_42 : decode cX7_init 42 = .ok (.aload_n 0, 1) := by decide +kernel
theorem dX7_init_43 : decode cX7_init 43 = .ok (.iconst 3, 1) := by decide +kernel
theorem dX7_init_44 : decode cX7_init 44 = .ok (.newarray .int, 2) := by decide +kernel
theorem dX7_init_46 : decode cX7_init 46 = .ok (.dup, 1) := by decide +kernel
theorem dX7_init_47 : decode cX7_init 47 = .ok (.iconst 0, 1) := by decide +kernel
theorem dX7_init_48 : decode cX7_init 48 = .ok (.iconst 1, 1) := by decide +kernel
theorem dX7_init_49 : decode cX7_init 49 = .ok (.iastore, 1) := by decide +kernel
theorem dX7_init_50 : decode cX7_init 50 = .ok (.dup, 1) := by decide +kernel
theorem dX7_init_51 : decode cX7_init 51 = .ok (.iconst 1, 1) := by decide +kernel
theorem dX7_init_52 : decode cX7_init 52 = .ok (.iconst 1, 1) := by decide +kernel
theorem dX7_init_53 : decode cX7_init 53 = .ok (.iastore, 1) := by decide +kernel
theorem dX7_init_54 : decode cX7_init 54 = .ok (.dup, 1) := by decide +kernel
theorem dX7_init_55 : decode cX7_init 55 = .ok (.iconst 2, 1) := by decide +kernel
theorem dX7_init_56 : decode cX7_init 56 = .ok (.iconst 1, 1) := by decide +kernel
theorem dX7_init_57 : decode cX7_init 57 = .ok (.iastore, 1) := by decide +kernel
theorem dX7_init_58 : decode cX7_init 58 = .ok (.putfield 16, 3) := by decide +kernel
theorem dX7_init_61 : decode cX7_init 61 = .ok (.aload_n 0, 1) := by decide +kernel
theorem dX7_init_62 : decode cX7_init 62 = .ok (.iconst 3, 1) := by decide +kernel
theorem dX7_init_63 : decode cX7_init 63 = .ok (.newarray .long, 2) := by decide +kernel
theorem dX7_init_65 : decode cX7_init 65 = .ok (.putfield 19, 3) := by decide +kernel
theorem dX7_init_68 : decode cX7_init 68 = .ok (.aload_n 0, 1) := by decide +kernel
theorem dX7_init_69 : decode cX7_init 69 = .ok (.iconst 3, 1) := by decide +kernel
theorem dX7_init_70 : decode cX7_init 70 = .ok (.newarray .int, 2) := by decide +kernel
theorem dX7_init_72 : decode cX7_init 72 = .ok (.putfield 23, 3) := by decide +kernel
theorem dX7_init_75 : decode cX7_init 75 = .ok (.aload_n 0, 1) := by decide +kernel
theorem dX7_init_76 : decode cX7_init 76 = .ok (.iconst 3, 1) := by decide +kernel
theorem dX7_init_77 : decode cX7_init 77 = .ok (.newarray .int, 2) := by decide +kernel
theorem dX7_init_79 : decode cX7_init 79 = .ok (.putfield 26, 3) := by decide +kernel
theorem dX7_init_82 : decode cX7_init 82 = .ok (.aload_n 0, 1) := by decide +kernel
theorem dX7_init_83 : decode cX7_init 83 = .ok (.sipush 12600, 3) := by decide +kernel
theorem dX7_init_86 : decode cX7_init 86 = .ok (.newarray .int, 2) := by decide +kernel
theorem dX7_init_88 : decode cX7_init 88 = .ok (.putfield 29, 3) := by decide +kernel
theorem dX7_init_91 : decode cX7_init 91 = .ok (.aload_n 0, 1) := by decide +kernel
theorem dX7_init_92 : decode cX7_init 92 = .ok (.sipush 12600, 3) := by decide +kernel
theorem dX7_init_95 : decode cX7_init 95 = .ok (.newarray .int, 2) := by decide +kernel
theorem dX7_init_97 : decode cX7_init 97 = .ok (.putfield 32, 3) := by decide +kernel
theorem dX7_init_100 : decode cX7_init 100 = .ok (.aload_n 0, 1) := by decide +kernel
theorem dX7_init_101 : decode cX7_init 101 = .ok (.sipush 192, 3) := by decide +kernel
theorem dX7_init_104 : decode cX7_init 104 = .ok (.newarray .int, 2) := by decide +kernel
theorem dX7_init_106 : decode cX7_init 106 = .ok (.putfield 35, 3) := by decide +kernel
theorem dX7_init_109 : decode cX7_init 109 = .ok (.aload_n 0, 1) := by decide +kernel
theorem dX7_init_110 : decode cX7_init 110 = .ok (.sipush 192, 3) := by decide +kernel
theorem dX7_init_113 : decode cX7_init 113 = .ok (.newarray .int, 2) := by decide +kernel
theorem dX7_init_115 : decode cX7_init 115 = .ok (.putfield 38, 3) := by decide +kernel
theorem dX7_init_118 : decode cX7_init 118 = .ok (.aload_n 0, 1) := by decide +kernel
theorem dX7_init_119 : decode cX7_init 119 = .ok (.sipush 5760, 3) := by decide +kernel
theorem dX7_init_122 : decode cX7_init 122 = .ok (.newarray .long, 2) := by decide +kernel
theorem dX7_init_124 : decode cX7_init 124 = .ok (.putfield 41, 3) := by decide +kernel
theorem dX7_init_127 : decode cX7_init 127 = .ok (.aload_n 0, 1) := by decide +kernel
theorem dX7_init_128 : decode cX7_init 128 = .ok (.sipush 12600, 3) := by decide +kernel
theorem dX7_init_131 : decode cX7_init 131 = .ok (.newarray .int, 2) := by decide +kernel
theorem dX7_init_133 : decode cX7_init 133 = .ok (.putfield 44, 3) := by decide +kernel
theorem dX7_init_136 : decode cX7_init 136 = .ok (.aload_n 0, 1) := by decide +kernel
theorem dX7_init_137 : decode cX7_init 137 = .ok (.iconst 3, 1) := by decide +kernel
theorem dX7_init_138 : decode cX7_init 138 = .ok (.newarray .int, 2) := by decide +kernel
theorem dX7_init_140 : decode cX7_init 140 = .ok (.putfield 47, 3) := by decide +kernel
theorem dX7_init_143 : decode cX7_init 143 = .ok (.aload_n 0, 1) := by decide +kernel
theorem dX7_init_144 : decode cX7_init 144 = .ok (.bipush (-2), 2) := by decide +kernel
theorem dX7_init_146 : decode cX7_init 146 = .ok (.putfield 50, 3) := by decide +kernel
theorem dX7_init_149 : decode cX7_init 149 = .ok (.aload_n 0, 1) := by decide +kernel
theorem dX7_init_150 : decode cX7_init 150 = .ok (.bipush 64, 2) := by decide +kernel
theorem dX7_init_152 : decode cX7_init 152 = .ok (.newarray .int, 2) := by decide +kernel
theorem dX7_init_154 : decode cX7_init 154 = .ok (.putfield 54, 3) := by decide +kernel
theorem dX7_init_157 : decode cX7_init 157 = .ok (.aload_n 0, 1) := by decide +kernel
theorem dX7_init_158 : decode cX7_init 158 = .ok (.sipush 4200, 3) := by decide +kernel
theorem dX7_init_161 : decode cX7_init 161 = .ok (.newarray .boolean, 2) := by decide +kernel
theorem dX7_init_163 : decode cX7_init 163 = .ok (.putfield 57, 3) := by decide +kernel
theorem dX7_init_166 : decode cX7_init 166 = .ok (.aload_n 0, 1) := by decide +kernel
theorem dX7_init_167 : decode cX7_init 167 = .ok (.bipush 64, 2) := by decide +kernel
theorem dX7_init_169 : decode cX7_init 169 = .ok (.newarray .int, 2) := by decide +kernel
theorem dX7_init_171 : decode cX7_init 171 = .ok (.putfield 61, 3) := by decide +kernel
theorem dX7_init_174 : decode cX7_init 174 = .ok (.return_, 1) := by decide +kernel
theorem dX7_isStream_0 : decode cX7_isStream 0 = .ok (.iload_n 0, 1) := by decide +kernel
theorem dX7_isStream_1 : decode cX7_isStream 1 = .ok (.ifCond .lt 12, 3) := by decide +kernel
theorem dX7_isStream_4 : decode cX7_isStream 4 = .ok (.iload_n 0, 1) := by decide +kernel
theorem dX7_isStream_5 : decode cX7_isStream 5 = .ok (.iconst 3, 1) := by decide +kernel
theorem dX7_isStream_6 : decode cX7_isStream 6 = .ok (.if_icmp .ge 7, 3) := by decide +kernel
theorem dX7_isStream_9 : decode cX7_isStream 9 = .ok (.iconst 1, 1) := by decide +kernel
theorem dX7_isStream_10 : decode cX7_isStream 10 = .ok (.goto 4, 3) := by decide +kernel
theorem dX7_isStream_13 : decode cX7_isStream 13 = .ok (.iconst 0, 1) := by decide +kernel
theorem dX7_isStream_14 : decode cX7_isStream 14 = .ok (.ireturn, 1) := by decide +kernel
theorem dX7_isNode_0 : decode cX7_isNode 0 = .ok (.iload_n 1, 1) := by decide +kernel
theorem dX7_isNode_1 : decode cX7_isNode 1 = .ok (.invokestatic 64, 3) := by decide +kernel
theorem dX7_isNode_4 : decode cX7_isNode 4 = .ok (.ifCond .eq 21, 3) := by decide +kernel
theorem dX7_isNode_7 : decode cX7_isNode 7 = .ok (.iload_n 2, 1) := by decide +kernel
theorem dX7_isNode_8 : decode cX7_isNode 8 = .ok (.ifCond .lt 17, 3) := by decide +kernel
theorem dX7_isNode_11 : decode cX7_isNode 11 = .ok (.iload_n 2, 1) := by decide +kernel
theorem dX7_isNode_12 : decode cX7_isNode 12 = .ok (.aload_n 0, 1) := by decide +kernel
theorem dX7_isNode_13 : decode cX7_isNode 13 = .ok (.getfield 7, 3) := by decide +kernel
theorem dX7_isNode_16 : decode cX7_isNode 16 = .ok (.iload_n 1, 1) := by decide +kernel
theorem dX7_isNode_17 : decode cX7_isNode 17 = .ok (.iaload, 1) := by decide +kernel
theorem dX7_isNode_18 : decode cX7_isNode 18 = .ok (.if_icmp .ge 7, 3) := by decide +kernel
theorem dX7_isNode_21 : decode cX7_isNode 21 = .ok (.iconst 1, 1) := by decide +kernel
theorem dX7_isNode_22 : decode cX7_isNode 22 = .ok (.goto 4, 3) := by decide +kernel
theorem dX7_isNode_25 : decode cX7_isNode 25 = .ok (.iconst 0, 1) := by decide +kernel
theorem dX7_isNode_26 : decode cX7_isNode 26 = .ok (.ireturn, 1) := by decide +kernel
theorem dX7_begin_0 : decode cX7_begin 0 = .ok (.iload_n 1, 1) := by decide +kernel
theorem dX7_begin_1 : decode cX7_begin 1 = .ok (.invokestatic 64, 3) := by decide +kernel
theorem dX7_begin_4 : decode cX7_begin 4 = .ok (.ifCond .eq 54, 3) := by decide +kernel
theorem dX7_begin_7 : decode cX7_begin 7 = .ok (.iload_n 2, 1) := by decide +kernel
theorem dX7_begin_8 : decode cX7_begin 8 = .ok (.iconst 2, 1) := by decide +kernel
theorem dX7_begin_9 : decode cX7_begin 9 = .ok (.if_icmp .lt 49, 3) := by decide +kernel
theorem dX7_begin_12 : decode cX7_begin 12 = .ok (.iload_n 2, 1) := by decide +kernel
theorem dX7_begin_13 : decode cX7_begin 13 = .ok (.bipush 64, 2) := by decide +kernel
theorem dX7_begin_15 : decode cX7_begin 15 = .ok (.if_icmp .gt 43, 3) := by decide +kernel
theorem dX7_begin_18 : decode cX7_begin 18 = .ok (.iload_n 3, 1) := by decide +kernel
theorem dX7_begin_19 : decode cX7_begin 19 = .ok (.iconst 1, 1) := by decide +kernel
theorem dX7_begin_20 : decode cX7_begin 20 = .ok (.if_icmp .lt 38, 3) := by decide +kernel
theorem dX7_begin_23 : decode cX7_begin 23 = .ok (.iload_n 3, 1) := by decide +kernel
theorem dX7_begin_24 : decode cX7_begin 24 = .ok (.bipush 16, 2) := by decide +kernel
theorem dX7_begin_26 : decode cX7_begin 26 = .ok (.if_icmp .gt 32, 3) := by decide +kernel
theorem dX7_begin_29 : decode cX7_begin 29 = .ok (.iload 4, 2) := by decide +kernel
theorem dX7_begin_31 : decode cX7_begin 31 = .ok (.iconst 1, 1) := by decide +kernel
theorem dX7_begin_32 : decode cX7_begin 32 = .ok (.if_icmp .eq 22, 3) := by decide +kernel
theorem dX7_begin_35 : decode cX7_begin 35 = .ok (.iload 4, 2) := by decide +kernel
theorem dX7_begin_37 : decode cX7_begin 37 = .ok (.iconst 3, 1) := by decide +kernel
theorem dX7_begin_38 : decode cX7_begin 38 = .ok (.if_icmp .eq 16, 3) := by decide +kernel
theorem dX7_begin_41 : decode cX7_begin 41 = .ok (.iload 4, 2) := by decide +kernel
theorem dX7_begin_43 : decode cX7_begin 43 = .ok (.iconst 5, 1) := by decide +kernel
theorem dX7_begin_44 : decode cX7_begin 44 = .ok (.if_icmp .eq 10, 3) := by decide +kernel
theorem dX7_begin_47 : decode cX7_begin 47 = .ok (.iload 4, 2) := by decide +kernel
theorem dX7_begin_49 : decode cX7_begin 49 = .ok (.bipush 7, 2) := by decide +kernel
theorem dX7_begin_51 : decode cX7_begin 51 = .ok (.if_icmp .ne 7, 3) := by decide +kernel
theorem dX7_begin_54 : decode cX7_begin 54 = .ok (.iconst 1, 1) := by decide +kernel
theorem dX7_begin_55 : decode cX7_begin 55 = .ok (.goto 4, 3) := by decide +kernel
theorem dX7_begin_58 : decode cX7_begin 58 = .ok (.iconst 0, 1) := by decide +kernel
theorem dX7_begin_59 : decode cX7_begin 59 = .ok (.istore 7, 2) := by decide +kernel
theorem dX7_begin_61 : decode cX7_begin 61 = .ok (.iload 7, 2) := by decide +kernel
theorem dX7_begin_63 : decode cX7_begin 63 = .ok (.ifCond .ne 5, 3) := by decide +kernel
theorem dX7_begin_66 : decode cX7_begin 66 = .ok (.iconst (-1), 1) := by decide +kernel
theorem dX7_begin_67 : decode cX7_begin 67 = .ok (.ireturn, 1) := by decide +kernel
theorem dX7_begin_68 : decode cX7_begin 68 = .ok (.aload_n 0, 1) := by decide +kernel
theorem dX7_begin_69 : decode cX7_begin 69 = .ok (.getfield 23, 3) := by decide +kernel
theorem dX7_begin_72 : decode cX7_begin 72 = .ok (.iload_n 1, 1) := by decide +kernel
theorem dX7_begin_73 : decode cX7_begin 73 = .ok (.iaload, 1) := by decide +kernel
theorem dX7_begin_74 : decode cX7_begin 74 = .ok (.istore 8, 2) := by decide +kernel
theorem dX7_begin_76 : decode cX7_begin 76 = .ok (.aload_n 0, 1) := by decide +kernel
theorem dX7_begin_77 : decode cX7_begin 77 = .ok (.getfield 7, 3) := by decide +kernel
theorem dX7_begin_80 : decode cX7_begin 80 = .ok (.iload_n 1, 1) := by decide +kernel
theorem dX7_begin_81 : decode cX7_begin 81 = .ok (.iload_n 2, 1) := by decide +kernel
theorem dX7_begin_82 : decode cX7_begin 82 = .ok (.iastore, 1) := by decide +kernel
theorem dX7_begin_83 : decode cX7_begin 83 = .ok (.aload_n 0, 1) := by decide +kernel
theorem dX7_begin_84 : decode cX7_begin 84 = .ok (.getfield 13, 3) := by decide +kernel
theorem dX7_begin_87 : decode cX7_begin 87 = .ok (.iload_n 1, 1) := by decide +kernel
theorem dX7_begin_88 : decode cX7_begin 88 = .ok (.iload_n 3, 1) := by decide +kernel
theorem dX7_begin_89 : decode cX7_begin 89 = .ok (.iastore, 1) := by decide +kernel
theorem dX7_begin_90 : decode cX7_begin 90 = .ok (.aload_n 0, 1) := by decide +kernel
theorem dX7_begin_91 : decode cX7_begin 91 = .ok (.getfield 16, 3) := by decide +kernel
theorem dX7_begin_94 : decode cX7_begin 94 = .ok (.iload_n 1, 1) := by decide +kernel
theorem dX7_begin_95 : decode cX7_begin 95 = .ok (.iload 4, 2) := by decide +kernel
theorem dX7_begin_97 : decode cX7_begin 97 = .ok (.iastore, 1) := by decide +kernel
theorem dX7_begin_98 : decode cX7_begin 98 = .ok (.aload_n 0, 1) := by decide +kernel
theorem dX7_begin_99 : decode cX7_begin 99 = .ok (.getfield 19, 3) := by decide +kernel
theorem dX7_begin_102 : decode cX7_begin 102 = .ok (.iload_n 1, 1) := by decide +kernel
theorem dX7_begin_103 : decode cX7_begin 103 = .ok (.lload 5, 2) := by decide +kernel
theorem dX7_begin_105 : decode cX7_begin 105 = .ok (.lastore, 1) := by decide +kernel
theorem dX7_begin_106 : decode cX7_begin 106 = .ok (.aload_n 0, 1) := by decide +kernel
theorem dX7_begin_107 : decode cX7_begin 107 = .ok (.getfield 23, 3) := by decide +kernel
theorem dX7_begin_110 : decode cX7_begin 110 = .ok (.iload_n 1, 1) := by decide +kernel
theorem dX7_begin_111 : decode cX7_begin 111 = .ok (.iconst 0, 1) := by decide +kernel
theorem dX7_begin_112 : decode cX7_begin 112 = .ok (.iastore, 1) := by decide +kernel
theorem dX7_begin_113 : decode cX7_begin 113 = .ok (.aload_n 0, 1) := by decide +kernel
theorem dX7_begin_114 : decode cX7_begin 114 = .ok (.getfield 26, 3) := by decide +kernel
theorem dX7_begin_117 : decode cX7_begin 117 = .ok (.iload_n 1, 1) := by decide +kernel
theorem dX7_begin_118 : decode cX7_begin 118 = .ok (.iconst 0, 1) := by decide +kernel
theorem dX7_begin_119 : decode cX7_begin 119 = .ok (.iastore, 1) := by decide +kernel
theorem dX7_begin_120 : decode cX7_begin 120 = .ok (.aload_n 0, 1) := by decide +kernel
theorem dX7_begin_121 : decode cX7_begin 121 = .ok (.getfield 47, 3) := by decide +kernel
theorem dX7_begin_124 : decode cX7_begin 124 = .ok (.iload_n 1, 1) := by decide +kernel
theorem dX7_begin_125 : decode cX7_begin 125 = .ok (.iconst 0, 1) := by decide +kernel
theorem dX7_begin_126 : decode cX7_begin 126 = .ok (.iastore, 1) := by decide +kernel
theorem dX7_begin_127 : decode cX7_begin 127 = .ok (.iconst 0, 1) := by decide +kernel
theorem dX7_begin_128 : decode cX7_begin 128 = .ok (.istore 9, 2) := by decide +kernel
theorem dX7_begin_130 : decode cX7_begin 130 = .ok (.iload 9, 2) := by decide +kernel
theorem dX7_begin_132 : decode cX7_begin 132 = .ok (.bipush 64, 2) := by decide +kernel
theorem dX7_begin_134 : decode cX7_begin 134 = .ok (.if_icmp .ge 35, 3) := by decide +kernel
theorem dX7_begin_137 : decode cX7_begin 137 = .ok (.aload_n 0, 1) := by decide +kernel
theorem dX7_begin_138 : decode cX7_begin 138 = .ok (.getfield 35, 3) := by decide +kernel
theorem dX7_begin_141 : decode cX7_begin 141 = .ok (.bipush 64, 2) := by decide +kernel
theorem dX7_begin_143 : decode cX7_begin 143 = .ok (.iload_n 1, 1) := by decide +kernel
theorem dX7_begin_144 : decode cX7_begin 144 = .ok (.imul, 1) := by decide +kernel
theorem dX7_begin_145 : decode cX7_begin 145 = .ok (.iload 9, 2) := by decide +kernel
theorem dX7_begin_147 : decode cX7_begin 147 = .ok (.iadd, 1) := by decide +kernel
theorem dX7_begin_148 : decode cX7_begin 148 = .ok (.iconst 0, 1) := by decide +kernel
theorem dX7_begin_149 : decode cX7_begin 149 = .ok (.iastore, 1) := by decide +kernel
theorem dX7_begin_150 : decode cX7_begin 150 = .ok (.aload_n 0, 1) := by decide +kernel
theorem dX7_begin_151 : decode cX7_begin 151 = .ok (.getfield 38, 3) := by decide +kernel
theorem dX7_begin_154 : decode cX7_begin 154 = .ok (.bipush 64, 2) := by decide +kernel
theorem dX7_begin_156 : decode cX7_begin 156 = .ok (.iload_n 1, 1) := by decide +kernel
theorem dX7_begin_157 : decode cX7_begin 157 = .ok (.imul, 1) := by decide +kernel
theorem dX7_begin_158 : decode cX7_begin 158 = .ok (.iload 9, 2) := by decide +kernel
theorem dX7_begin_160 : decode cX7_begin 160 = .ok (.iadd, 1) := by decide +kernel
theorem dX7_begin_161 : decode cX7_begin 161 = .ok (.iconst 0, 1) := by decide +kernel
theorem dX7_begin_162 : decode cX7_begin 162 = .ok (.iastore, 1) := by decide +kernel
theorem dX7_begin_163 : decode cX7_begin 163 = .ok (.iinc 9 1, 3) := by decide +kernel
theorem dX7_begin_166 : decode cX7_begin 166 = .ok (.goto (-36), 3) := by decide +kernel
theorem dX7_begin_169 : decode cX7_begin 169 = .ok (.iconst 0, 1) := by decide +kernel
theorem dX7_begin_170 : decode cX7_begin 170 = .ok (.istore 9, 2) := by decide +kernel
theorem dX7_begin_172 : decode cX7_begin 172 = .ok (.iload 9, 2) := by decide +kernel
theorem dX7_begin_174 : decode cX7_begin 174 = .ok (.sipush 1920, 3) := by decide +kernel
theorem dX7_begin_177 : decode cX7_begin 177 = .ok (.if_icmp .ge 23, 3) := by decide +kernel
theorem dX7_begin_180 : decode cX7_begin 180 = .ok (.aload_n 0, 1) := by decide +kernel
theorem dX7_begin_181 : decode cX7_begin 181 = .ok (.getfield 41, 3) := by decide +kernel
theorem dX7_begin_184 : decode cX7_begin 184 = .ok (.sipush 1920, 3) := by decide +kernel
theorem dX7_begin_187 : decode cX7_begin 187 = .ok (.iload_n 1, 1) := by decide +kernel
theorem dX7_begin_188 : decode cX7_begin 188 = .ok (.imul, 1) := by decide +kernel
theorem dX7_begin_189 : decode cX7_begin 189 = .ok (.iload 9, 2) := by decide +kernel
theorem dX7_begin_191 : decode cX7_begin 191 = .ok (.iadd, 1) := by decide +kernel
theorem dX7_begin_192 : decode cX7_begin 192 = .ok (.lconst 0, 1) := by decide +kernel
theorem dX7_begin_193 : decode cX7_begin 193 = .ok (.lastore, 1) := by decide +kernel
theorem dX7_begin_194 : decode cX7_begin 194 = .ok (.iinc 9 1, 3) := by decide +kernel
theorem dX7_begin_197 : decode cX7_begin 197 = .ok (.goto (-25), 3) := by decide +kernel
theorem dX7_begin_200 : decode cX7_begin 200 = .ok (.iload 8, 2) := by decide +kernel
theorem dX7_begin_202 : decode cX7_begin 202 = .ok (.ireturn, 1) := by decide +kernel
theorem dX7_taken_0 : decode cX7_taken 0 = .ok (.iconst 0, 1) := by decide +kernel
theorem dX7_taken_1 : decode cX7_taken 1 = .ok (.istore_n 2, 1) := by decide +kernel
theorem dX7_taken_2 : decode cX7_taken 2 = .ok (.iconst 0, 1) := by decide +kernel
theorem dX7_taken_3 : decode cX7_taken 3 = .ok (.istore_n 3, 1) := by decide +kernel
theorem dX7_taken_4 : decode cX7_taken 4 = .ok (.iload_n 3, 1) := by decide +kernel
theorem dX7_taken_5 : decode cX7_taken 5 = .ok (.bipush 64, 2) := by decide +kernel
theorem dX7_taken_7 : decode cX7_taken 7 = .ok (.if_icmp .ge 31, 3) := by decide +kernel
theorem dX7_taken_10 : decode cX7_taken 10 = .ok (.iload_n 2, 1) := by decide +kernel
theorem dX7_taken_11 : decode cX7_taken 11 = .ok (.aload_n 0, 1) := by decide +kernel
theorem dX7_taken_12 : decode cX7_taken 12 = .ok (.getfield 35, 3) := by decide +kernel
theorem dX7_taken_15 : decode cX7_taken 15 = .ok (.bipush 64, 2) := by decide +kernel
theorem dX7_taken_17 : decode cX7_taken 17 = .ok (.iload_n 1, 1) := by decide +kernel
theorem dX7_taken_18 : decode cX7_taken 18 = .ok (.imul, 1) := by decide +kernel
theorem dX7_taken_19 : decode cX7_taken 19 = .ok (.iload_n 3, 1) := by decide +kernel
theorem dX7_taken_20 : decode cX7_taken 20 = .ok (.iadd, 1) := by decide +kernel
theorem dX7_taken_21 : decode cX7_taken 21 = .ok (.iaload, 1) := by decide +kernel
theorem dX7_taken_22 : decode cX7_taken 22 = .ok (.ifCond .le 7, 3) := by decide +kernel
theorem dX7_taken_25 : decode cX7_taken 25 = .ok (.iconst 1, 1) := by decide +kernel
theorem dX7_taken_26 : decode cX7_taken 26 = .ok (.goto 4, 3) := by decide +kernel
theorem dX7_taken_29 : decode cX7_taken 29 = .ok (.iconst 0, 1) := by decide +kernel
theorem dX7_taken_30 : decode cX7_taken 30 = .ok (.iadd, 1) := by decide +kernel
theorem dX7_taken_31 : decode cX7_taken 31 = .ok (.istore_n 2, 1) := by decide +kernel
theorem dX7_taken_32 : decode cX7_taken 32 = .ok (.iinc 3 1, 3) := by decide +kernel
theorem dX7_taken_35 : decode cX7_taken 35 = .ok (.goto (-31), 3) := by decide +kernel
theorem dX7_taken_38 : decode cX7_taken 38 = .ok (.iload_n 2, 1) := by decide +kernel
theorem dX7_taken_39 : decode cX7_taken 39 = .ok (.ireturn, 1) := by decide +kernel
theorem dX7_less_0 : decode cX7_less 0 = .ok (.iconst 0, 1) := by decide +kernel
theorem dX7_less_1 : decode cX7_less 1 = .ok (.istore_n 3, 1) := by decide +kernel
theorem dX7_less_2 : decode cX7_less 2 = .ok (.iload_n 3, 1) := by decide +kernel
theorem dX7_less_3 : decode cX7_less 3 = .ok (.bipush 64, 2) := by decide +kernel
theorem dX7_less_5 : decode cX7_less 5 = .ok (.if_icmp .ge 46, 3) := by decide +kernel
theorem dX7_less_8 : decode cX7_less 8 = .ok (.aload_n 0, 1) := by decide +kernel
theorem dX7_less_9 : decode cX7_less 9 = .ok (.getfield 35, 3) := by decide +kernel
theorem dX7_less_12 : decode cX7_less 12 = .ok (.bipush 64, 2) := by decide +kernel
theorem dX7_less_14 : decode cX7_less 14 = .ok (.iload_n 1, 1) := by decide +kernel
theorem dX7_less_15 : decode cX7_less 15 = .ok (.imul, 1) := by decide +kernel
theorem dX7_less_16 : decode cX7_less 16 = .ok (.iload_n 3, 1) := by decide +kernel
theorem dX7_less_17 : decode cX7_less 17 = .ok (.iadd, 1) := by decide +kernel
theorem dX7_less_18 : decode cX7_less 18 = .ok (.iaload, 1) := by decide +kernel
theorem dX7_less_19 : decode cX7_less 19 = .ok (.iload_n 2, 1) := by decide +kernel
theorem dX7_less_20 : decode cX7_less 20 = .ok (.isub, 1) := by decide +kernel
theorem dX7_less_21 : decode cX7_less 21 = .ok (.istore 4, 2) := by decide +kernel
theorem dX7_less_23 : decode cX7_less 23 = .ok (.aload_n 0, 1) := by decide +kernel
theorem dX7_less_24 : decode cX7_less 24 = .ok (.getfield 35, 3) := by decide +kernel
theorem dX7_less_27 : decode cX7_less 27 = .ok (.bipush 64, 2) := by decide +kernel
theorem dX7_less_29 : decode cX7_less 29 = .ok (.iload_n 1, 1) := by decide +kernel
theorem dX7_less_30 : decode cX7_less 30 = .ok (.imul, 1) := by decide +kernel
theorem dX7_less_31 : decode cX7_less 31 = .ok (.iload_n 3, 1) := by decide +kernel
theorem dX7_less_32 : decode cX7_less 32 = .ok (.iadd, 1) := by decide +kernel
theorem dX7_less_33 : decode cX7_less 33 = .ok (.iload 4, 2) := by decide +kernel
theorem dX7_less_35 : decode cX7_less 35 = .ok (.ifCond .le 8, 3) := by decide +kernel
theorem dX7_less_38 : decode cX7_less 38 = .ok (.iload 4, 2) := by decide +kernel
theorem dX7_less_40 : decode cX7_less 40 = .ok (.goto 4, 3) := by decide +kernel
theorem dX7_less_43 : decode cX7_less 43 = .ok (.iconst 0, 1) := by decide +kernel
theorem dX7_less_44 : decode cX7_less 44 = .ok (.iastore, 1) := by decide +kernel
theorem dX7_less_45 : decode cX7_less 45 = .ok (.iinc 3 1, 3) := by decide +kernel
theorem dX7_less_48 : decode cX7_less 48 = .ok (.goto (-46), 3) := by decide +kernel
theorem dX7_less_51 : decode cX7_less 51 = .ok (.aload_n 0, 1) := by decide +kernel
theorem dX7_less_52 : decode cX7_less 52 = .ok (.getfield 26, 3) := by decide +kernel
theorem dX7_less_55 : decode cX7_less 55 = .ok (.iload_n 1, 1) := by decide +kernel
theorem dX7_less_56 : decode cX7_less 56 = .ok (.dup2, 1) := by decide +kernel
theorem dX7_less_57 : decode cX7_less 57 = .ok (.iaload, 1) := by decide +kernel
theorem dX7_less_58 : decode cX7_less 58 = .ok (.iload_n 2, 1) := by decide +kernel
theorem dX7_less_59 : decode cX7_less 59 = .ok (.iadd, 1) := by decide +kernel
theorem dX7_less_60 : decode cX7_less 60 = .ok (.iastore, 1) := by decide +kernel
theorem dX7_less_61 : decode cX7_less 61 = .ok (.return_, 1) := by decide +kernel
theorem dX7_count_0 : decode cX7_count 0 = .ok (.aload_n 0, 1) := by decide +kernel
theorem dX7_count_1 : decode cX7_count 1 = .ok (.getfield 35, 3) := by decide +kernel
theorem dX7_count_4 : decode cX7_count 4 = .ok (.bipush 64, 2) := by decide +kernel
theorem dX7_count_6 : decode cX7_count 6 = .ok (.iload_n 1, 1) := by decide +kernel
theorem dX7_count_7 : decode cX7_count 7 = .ok (.imul, 1) := by decide +kernel
theorem dX7_count_8 : decode cX7_count 8 = .ok (.iload_n 2, 1) := by decide +kernel
theorem dX7_count_9 : decode cX7_count 9 = .ok (.iadd, 1) := by decide +kernel
theorem dX7_count_10 : decode cX7_count 10 = .ok (.iaload, 1) := by decide +kernel
theorem dX7_count_11 : decode cX7_count 11 = .ok (.ifCond .gt 17, 3) := by decide +kernel
theorem dX7_count_14 : decode cX7_count 14 = .ok (.aload_n 0, 1) := by decide +kernel
theorem dX7_count_15 : decode cX7_count 15 = .ok (.iload_n 1, 1) := by decide +kernel
theorem dX7_count_16 : decode cX7_count 16 = .ok (.invokevirtual 68, 3) := by decide +kernel
theorem dX7_count_19 : decode cX7_count 19 = .ok (.aload_n 0, 1) := by decide +kernel
theorem dX7_count_20 : decode cX7_count 20 = .ok (.getfield 13, 3) := by decide +kernel
theorem dX7_count_23 : decode cX7_count 23 = .ok (.iload_n 1, 1) := by decide +kernel
theorem dX7_count_24 : decode cX7_count 24 = .ok (.iaload, 1) := by decide +kernel
theorem dX7_count_25 : decode cX7_count 25 = .ok (.if_icmp .ge 21, 3) := by decide +kernel
theorem dX7_count_28 : decode cX7_count 28 = .ok (.aload_n 0, 1) := by decide +kernel
theorem dX7_count_29 : decode cX7_count 29 = .ok (.getfield 35, 3) := by decide +kernel
theorem dX7_count_32 : decode cX7_count 32 = .ok (.bipush 64, 2) := by decide +kernel
theorem dX7_count_34 : decode cX7_count 34 = .ok (.iload_n 1, 1) := by decide +kernel
theorem dX7_count_35 : decode cX7_count 35 = .ok (.imul, 1) := by decide +kernel
theorem dX7_count_36 : decode cX7_count 36 = .ok (.iload_n 2, 1) := by decide +kernel
theorem dX7_count_37 : decode cX7_count 37 = .ok (.iadd, 1) := by decide +kernel
theorem dX7_count_38 : decode cX7_count 38 = .ok (.dup2, 1) := by decide +kernel
theorem dX7_count_39 : decode cX7_count 39 = .ok (.iaload, 1) := by decide +kernel
theorem dX7_count_40 : decode cX7_count 40 = .ok (.iconst 1, 1) := by decide +kernel
theorem dX7_count_41 : decode cX7_count 41 = .ok (.iadd, 1) := by decide +kernel
theorem dX7_count_42 : decode cX7_count 42 = .ok (.iastore, 1) := by decide +kernel
theorem dX7_count_43 : decode cX7_count 43 = .ok (.goto 9, 3) := by decide +kernel
theorem dX7_count_46 : decode cX7_count 46 = .ok (.aload_n 0, 1) := by decide +kernel
theorem dX7_count_47 : decode cX7_count 47 = .ok (.iload_n 1, 1) := by decide +kernel
theorem dX7_count_48 : decode cX7_count 48 = .ok (.iconst 1, 1) := by decide +kernel
theorem dX7_count_49 : decode cX7_count 49 = .ok (.invokevirtual 72, 3) := by decide +kernel
theorem dX7_count_52 : decode cX7_count 52 = .ok (.return_, 1) := by decide +kernel
theorem dX7_add_0 : decode cX7_add 0 = .ok (.aload_n 0, 1) := by decide +kernel
theorem dX7_add_1 : decode cX7_add 1 = .ok (.iload_n 1, 1) := by decide +kernel
theorem dX7_add_2 : decode cX7_add 2 = .ok (.iload_n 2, 1) := by decide +kernel
theorem dX7_add_3 : decode cX7_add 3 = .ok (.invokevirtual 76, 3) := by decide +kernel
theorem dX7_add_6 : decode cX7_add 6 = .ok (.ifCond .eq 17, 3) := by decide +kernel
theorem dX7_add_9 : decode cX7_add 9 = .ok (.aload_n 0, 1) := by decide +kernel
theorem dX7_add_10 : decode cX7_add 10 = .ok (.iload_n 1, 1) := by decide +kernel
theorem dX7_add_11 : decode cX7_add 11 = .ok (.iload_n 3, 1) := by decide +kernel
theorem dX7_add_12 : decode cX7_add 12 = .ok (.invokevirtual 76, 3) := by decide +kernel
theorem dX7_add_15 : decode cX7_add 15 = .ok (.ifCond .eq 8, 3) := by decide +kernel
theorem dX7_add_18 : decode cX7_add 18 = .ok (.iload_n 2, 1) := by decide +kernel
theorem dX7_add_19 : decode cX7_add 19 = .ok (.iload_n 3, 1) := by decide +kernel
theorem dX7_add_20 : decode cX7_add 20 = .ok (.if_icmp .ne 5, 3) := by decide +kernel
theorem dX7_add_23 : decode cX7_add 23 = .ok (.iconst (-1), 1) := by decide +kernel
theorem dX7_add_24 : decode cX7_add 24 = .ok (.ireturn, 1) := by decide +kernel
theorem dX7_add_25 : decode cX7_add 25 = .ok (.aload_n 0, 1) := by decide +kernel
theorem dX7_add_26 : decode cX7_add 26 = .ok (.iload_n 1, 1) := by decide +kernel
theorem dX7_add_27 : decode cX7_add 27 = .ok (.iload_n 2, 1) := by decide +kernel
theorem dX7_add_28 : decode cX7_add 28 = .ok (.invokevirtual 80, 3) := by decide +kernel
theorem dX7_add_31 : decode cX7_add 31 = .ok (.aload_n 0, 1) := by decide +kernel
theorem dX7_add_32 : decode cX7_add 32 = .ok (.iload_n 1, 1) := by decide +kernel
theorem dX7_add_33 : decode cX7_add 33 = .ok (.iload_n 3, 1) := by decide +kernel
theorem dX7_add_34 : decode cX7_add 34 = .ok (.invokevirtual 80, 3) := by decide +kernel
theorem dX7_add_37 : decode cX7_add 37 = .ok (.sipush 4200, 3) := by decide +kernel
theorem dX7_add_40 : decode cX7_add 40 = .ok (.iload_n 1, 1) := by decide +kernel
theorem dX7_add_41 : decode cX7_add 41 = .ok (.imul, 1) := by decide +kernel
theorem dX7_add_42 : decode cX7_add 42 = .ok (.aload_n 0, 1) := by decide +kernel
theorem dX7_add_43 : decode cX7_add 43 = .ok (.getfield 23, 3) := by decide +kernel
theorem dX7_add_46 : decode cX7_add 46 = .ok (.iload_n 1, 1) := by decide +kernel
theorem dX7_add_47 : decode cX7_add 47 = .ok (.iaload, 1) := by decide +kernel
theorem dX7_add_48 : decode cX7_add 48 = .ok (.iadd, 1) := by decide +kernel
theorem dX7_add_49 : decode cX7_add 49 = .ok (.istore 4, 2) := by decide +kernel
theorem dX7_add_51 : decode cX7_add 51 = .ok (.aload_n 0, 1) := by decide +kernel
theorem dX7_add_52 : decode cX7_add 52 = .ok (.getfield 29, 3) := by decide +kernel
theorem dX7_add_55 : decode cX7_add 55 = .ok (.iload 4, 2) := by decide +kernel
theorem dX7_add_57 : decode cX7_add 57 = .ok (.iload_n 2, 1) := by decide +kernel
theorem dX7_add_58 : decode cX7_add 58 = .ok (.iload_n 3, 1) := by decide +kernel
theorem dX7_add_59 : decode cX7_add 59 = .ok (.if_icmp .ge 7, 3) := by decide +kernel
theorem dX7_add_62 : decode cX7_add 62 = .ok (.iload_n 2, 1) := by decide +kernel
theorem dX7_add_63 : decode cX7_add 63 = .ok (.goto 4, 3) := by decide +kernel
theorem dX7_add_66 : decode cX7_add 66 = .ok (.iload_n 3, 1) := by decide +kernel
theorem dX7_add_67 : decode cX7_add 67 = .ok (.iastore, 1) := by decide +kernel
theorem dX7_add_68 : decode cX7_add 68 = .ok (.aload_n 0, 1) := by decide +kernel
theorem dX7_add_69 : decode cX7_add 69 = .ok (.getfield 32, 3) := by decide +kernel
theorem dX7_add_72 : decode cX7_add 72 = .ok (.iload 4, 2) := by decide +kernel
theorem dX7_add_74 : decode cX7_add 74 = .ok (.iload_n 2, 1) := by decide +kernel
theorem dX7_add_75 : decode cX7_add 75 = .ok (.iload_n 3, 1) := by decide +kernel
theorem dX7_add_76 : decode cX7_add 76 = .ok (.if_icmp .ge 7, 3) := by decide +kernel
theorem dX7_add_79 : decode cX7_add 79 = .ok (.iload_n 3, 1) := by decide +kernel
theorem dX7_add_80 : decode cX7_add 80 = .ok (.goto 4, 3) := by decide +kernel
theorem dX7_add_83 : decode cX7_add 83 = .ok (.iload_n 2, 1) := by decide +kernel
theorem dX7_add_84 : decode cX7_add 84 = .ok (.iastore, 1) := by decide +kernel
theorem dX7_add_85 : decode cX7_add 85 = .ok (.aload_n 0, 1) := by decide +kernel
theorem dX7_add_86 : decode cX7_add 86 = .ok (.getfield 23, 3) := by decide +kernel
theorem dX7_add_89 : decode cX7_add 89 = .ok (.iload_n 1, 1) := by decide +kernel
theorem dX7_add_90 : decode cX7_add 90 = .ok (.dup2, 1) := by decide +kernel
theorem dX7_add_91 : decode cX7_add 91 = .ok (.iaload, 1) := by decide +kernel
theorem dX7_add_92 : decode cX7_add 92 = .ok (.iconst 1, 1) := by decide +kernel
theorem dX7_add_93 : decode cX7_add 93 = .ok (.iadd, 1) := by decide +kernel
theorem dX7_add_94 : decode cX7_add 94 = .ok (.iastore, 1) := by decide +kernel
theorem dX7_add_95 : decode cX7_add 95 = .ok (.aload_n 0, 1) := by decide +kernel
theorem dX7_add_96 : decode cX7_add 96 = .ok (.iload_n 1, 1) := by decide +kernel
theorem dX7_add_97 : decode cX7_add 97 = .ok (.iload_n 2, 1) := by decide +kernel
theorem dX7_add_98 : decode cX7_add 98 = .ok (.iload_n 3, 1) := by decide +kernel
theorem dX7_add_99 : decode cX7_add 99 = .ok (.invokevirtual 83, 3) := by decide +kernel
theorem dX7_add_102 : decode cX7_add 102 = .ok (.istore 5, 2) := by decide +kernel
theorem dX7_add_104 : decode cX7_add 104 = .ok (.iload 5, 2) := by decide +kernel
theorem dX7_add_106 : decode cX7_add 106 = .ok (.ifCond .lt 14, 3) := by decide +kernel
theorem dX7_add_109 : decode cX7_add 109 = .ok (.iload 5, 2) := by decide +kernel
theorem dX7_add_111 : decode cX7_add 111 = .ok (.aload_n 0, 1) := by decide +kernel
theorem dX7_add_112 : decode cX7_add 112 = .ok (.getfield 16, 3) := by decide +kernel
theorem dX7_add_115 : decode cX7_add 115 = .ok (.iload_n 1, 1) := by decide +kernel
theorem dX7_add_116 : decode cX7_add 116 = .ok (.iaload, 1) := by decide +kernel
theorem dX7_add_117 : decode cX7_add 117 = .ok (.if_icmp .le 32, 3) := by decide +kernel
theorem dX7_add_120 : decode cX7_add 120 = .ok (.aload_n 0, 1) := by decide +kernel
theorem dX7_add_121 : decode cX7_add 121 = .ok (.getfield 44, 3) := by decide +kernel
theorem dX7_add_124 : decode cX7_add 124 = .ok (.sipush 4200, 3) := by decide +kernel
theorem dX7_add_127 : decode cX7_add 127 = .ok (.iload_n 1, 1) := by decide +kernel
theorem dX7_add_128 : decode cX7_add 128 = .ok (.imul, 1) := by decide +kernel
theorem dX7_add_129 : decode cX7_add 129 = .ok (.aload_n 0, 1) := by decide +kernel
theorem dX7_add_130 : decode cX7_add 130 = .ok (.getfield 47, 3) := by decide +kernel
theorem dX7_add_133 : decode cX7_add 133 = .ok (.iload_n 1, 1) := by decide +kernel
theorem dX7_add_134 : decode cX7_add 134 = .ok (.iaload, 1) := by decide +kernel
theorem dX7_add_135 : decode cX7_add 135 = .ok (.iadd, 1) := by decide +kernel
theorem dX7_add_136 : decode cX7_add 136 = .ok (.iload 4, 2) := by decide +kernel
theorem dX7_add_138 : decode cX7_add 138 = .ok (.iastore, 1) := by decide +kernel
theorem dX7_add_139 : decode cX7_add 139 = .ok (.aload_n 0, 1) := by decide +kernel
theorem dX7_add_140 : decode cX7_add 140 = .ok (.getfield 47, 3) := by decide +kernel
theorem dX7_add_143 : decode cX7_add 143 = .ok (.iload_n 1, 1) := by decide +kernel
theorem dX7_add_144 : decode cX7_add 144 = .ok (.dup2, 1) := by decide +kernel
theorem dX7_add_145 : decode cX7_add 145 = .ok (.iaload, 1) := by decide +kernel
theorem dX7_add_146 : decode cX7_add 146 = .ok (.iconst 1, 1) := by decide +kernel
theorem dX7_add_147 : decode cX7_add 147 = .ok (.iadd, 1) := by decide +kernel
theorem dX7_add_148 : decode cX7_add 148 = .ok (.iastore, 1) := by decide +kernel
theorem dX7_add_149 : decode cX7_add 149 = .ok (.aload_n 0, 1) := by decide +kernel
theorem dX7_add_150 : decode cX7_add 150 = .ok (.getfield 38, 3) := by decide +kernel
theorem dX7_add_153 : decode cX7_add 153 = .ok (.bipush 64, 2) := by decide +kernel
theorem dX7_add_155 : decode cX7_add 155 = .ok (.iload_n 1, 1) := by decide +kernel
theorem dX7_add_156 : decode cX7_add 156 = .ok (.imul, 1) := by decide +kernel
theorem dX7_add_157 : decode cX7_add 157 = .ok (.iload_n 2, 1) := by decide +kernel
theorem dX7_add_158 : decode cX7_add 158 = .ok (.iadd, 1) := by decide +kernel
theorem dX7_add_159 : decode cX7_add 159 = .ok (.iaload, 1) := by decide +kernel
theorem dX7_add_160 : decode cX7_add 160 = .ok (.ifCond .ne 45, 3) := by decide +kernel
theorem dX7_add_163 : decode cX7_add 163 = .ok (.aload_n 0, 1) := by decide +kernel
theorem dX7_add_164 : decode cX7_add 164 = .ok (.getfield 38, 3) := by decide +kernel
theorem dX7_add_167 : decode cX7_add 167 = .ok (.bipush 64, 2) := by decide +kernel
theorem dX7_add_169 : decode cX7_add 169 = .ok (.iload_n 1, 1) := by decide +kernel
theorem dX7_add_170 : decode cX7_add 170 = .ok (.imul, 1) := by decide +kernel
theorem dX7_add_171 : decode cX7_add 171 = .ok (.iload_n 3, 1) := by decide +kernel
theorem dX7_add_172 : decode cX7_add 172 = .ok (.iadd, 1) := by decide +kernel
theorem dX7_add_173 : decode cX7_add 173 = .ok (.iaload, 1) := by decide +kernel
theorem dX7_add_174 : decode cX7_add 174 = .ok (.ifCond .ne 31, 3) := by decide +kernel
theorem dX7_add_177 : decode cX7_add 177 = .ok (.aload_n 0, 1) := by decide +kernel
theorem dX7_add_178 : decode cX7_add 178 = .ok (.getfield 38, 3) := by decide +kernel
theorem dX7_add_181 : decode cX7_add 181 = .ok (.bipush 64, 2) := by decide +kernel
theorem dX7_add_183 : decode cX7_add 183 = .ok (.iload_n 1, 1) := by decide +kernel
theorem dX7_add_184 : decode cX7_add 184 = .ok (.imul, 1) := by decide +kernel
theorem dX7_add_185 : decode cX7_add 185 = .ok (.iload_n 2, 1) := by decide +kernel
theorem dX7_add_186 : decode cX7_add 186 = .ok (.iadd, 1) := by decide +kernel
theorem dX7_add_187 : decode cX7_add 187 = .ok (.iload_n 3, 1) := by decide +kernel
theorem dX7_add_188 : decode cX7_add 188 = .ok (.iconst 1, 1) := by decide +kernel
theorem dX7_add_189 : decode cX7_add 189 = .ok (.iadd, 1) := by decide +kernel
theorem dX7_add_190 : decode cX7_add 190 = .ok (.iastore, 1) := by decide +kernel
theorem dX7_add_191 : decode cX7_add 191 = .ok (.aload_n 0, 1) := by decide +kernel
theorem dX7_add_192 : decode cX7_add 192 = .ok (.getfield 38, 3) := by decide +kernel
theorem dX7_add_195 : decode cX7_add 195 = .ok (.bipush 64, 2) := by decide +kernel
theorem dX7_add_197 : decode cX7_add 197 = .ok (.iload_n 1, 1) := by decide +kernel
theorem dX7_add_198 : decode cX7_add 198 = .ok (.imul, 1) := by decide +kernel
theorem dX7_add_199 : decode cX7_add 199 = .ok (.iload_n 3, 1) := by decide +kernel
theorem dX7_add_200 : decode cX7_add 200 = .ok (.iadd, 1) := by decide +kernel
theorem dX7_add_201 : decode cX7_add 201 = .ok (.iload_n 2, 1) := by decide +kernel
theorem dX7_add_202 : decode cX7_add 202 = .ok (.iconst 1, 1) := by decide +kernel
theorem dX7_add_203 : decode cX7_add 203 = .ok (.iadd, 1) := by decide +kernel
theorem dX7_add_204 : decode cX7_add 204 = .ok (.iastore, 1) := by decide +kernel
theorem dX7_add_205 : decode cX7_add 205 = .ok (.aload_n 0, 1) := by decide +kernel
theorem dX7_add_206 : decode cX7_add 206 = .ok (.iload_n 1, 1) := by decide +kernel
theorem dX7_add_207 : decode cX7_add 207 = .ok (.iload_n 2, 1) := by decide +kernel
theorem dX7_add_208 : decode cX7_add 208 = .ok (.iload_n 3, 1) := by decide +kernel
theorem dX7_add_209 : decode cX7_add 209 = .ok (.lconst 1, 1) := by decide +kernel
theorem dX7_add_210 : decode cX7_add 210 = .ok (.invokevirtual 87, 3) := by decide +kernel
theorem dX7_add_213 : decode cX7_add 213 = .ok (.istore 6, 2) := by decide +kernel
theorem dX7_add_215 : decode cX7_add 215 = .ok (.aload_n 0, 1) := by decide +kernel
theorem dX7_add_216 : decode cX7_add 216 = .ok (.getfield 23, 3) := by decide +kernel
theorem dX7_add_219 : decode cX7_add 219 = .ok (.iload_n 1, 1) := by decide +kernel
theorem dX7_add_220 : decode cX7_add 220 = .ok (.iaload, 1) := by decide +kernel
theorem dX7_add_221 : decode cX7_add 221 = .ok (.ireturn, 1) := by decide +kernel
theorem dX7_levelOf_0 : decode cX7_levelOf 0 = .ok (.aload_n 0, 1) := by decide +kernel
theorem dX7_levelOf_1 : decode cX7_levelOf 1 = .ok (.getfield 19, 3) := by decide +kernel
theorem dX7_levelOf_4 : decode cX7_levelOf 4 = .ok (.iload_n 1, 1) := by decide +kernel
theorem dX7_levelOf_5 : decode cX7_levelOf 5 = .ok (.laload, 1) := by decide +kernel
theorem dX7_levelOf_6 : decode cX7_levelOf 6 = .ok (.lload_n 2, 1) := by decide +kernel
theorem dX7_levelOf_7 : decode cX7_levelOf 7 = .ok (.lconst 1, 1) := by decide +kernel
theorem dX7_levelOf_8 : decode cX7_levelOf 8 = .ok (.ladd, 1) := by decide +kernel
theorem dX7_levelOf_9 : decode cX7_levelOf 9 = .ok (.ldc2_w 91, 3) := by decide +kernel
theorem dX7_levelOf_12 : decode cX7_levelOf 12 = .ok (.lmul, 1) := by decide +kernel
theorem dX7_levelOf_13 : decode cX7_levelOf 13 = .ok (.ladd, 1) := by decide +kernel
theorem dX7_levelOf_14 : decode cX7_levelOf 14 = .ok (.lstore 4, 2) := by decide +kernel
theorem dX7_levelOf_16 : decode cX7_levelOf 16 = .ok (.lload 4, 2) := by decide +kernel
theorem dX7_levelOf_18 : decode cX7_levelOf 18 = .ok (.lload 4, 2) := by decide +kernel
theorem dX7_levelOf_20 : decode cX7_levelOf 20 = .ok (.bipush 30, 2) := by decide +kernel
theorem dX7_levelOf_22 : decode cX7_levelOf 22 = .ok (.lushr, 1) := by decide +kernel
theorem dX7_levelOf_23 : decode cX7_levelOf 23 = .ok (.lxor, 1) := by decide +kernel
theorem dX7_levelOf_24 : decode cX7_levelOf 24 = .ok (.ldc2_w 93, 3) := by decide +kernel
theorem dX7_levelOf_27 : decode cX7_levelOf 27 = .ok (.lmul, 1) := by decide +kernel
theorem dX7_levelOf_28 : decode cX7_levelOf 28 = .ok (.lstore 4, 2) := by decide +kernel
theorem dX7_levelOf_30 : decode cX7_levelOf 30 = .ok (.lload 4, 2) := by decide +kernel
theorem dX7_levelOf_32 : decode cX7_levelOf 32 = .ok (.lload 4, 2) := by decide +kernel
theorem dX7_levelOf_34 : decode cX7_levelOf 34 = .ok (.bipush 27, 2) := by decide +kernel
theorem dX7_levelOf_36 : decode cX7_levelOf 36 = .ok (.lushr, 1) := by decide +kernel
theorem dX7_levelOf_37 : decode cX7_levelOf 37 = .ok (.lxor, 1) := by decide +kernel
theorem dX7_levelOf_38 : decode cX7_levelOf 38 = .ok (.ldc2_w 95, 3) := by decide +kernel
theorem dX7_levelOf_41 : decode cX7_levelOf 41 = .ok (.lmul, 1) := by decide +kernel
theorem dX7_levelOf_42 : decode cX7_levelOf 42 = .ok (.lstore 4, 2) := by decide +kernel
theorem dX7_levelOf_44 : decode cX7_levelOf 44 = .ok (.lload 4, 2) := by decide +kernel
theorem dX7_levelOf_46 : decode cX7_levelOf 46 = .ok (.lload 4, 2) := by decide +kernel
theorem dX7_levelOf_48 : decode cX7_levelOf 48 = .ok (.bipush 31, 2) := by decide +kernel
theorem dX7_levelOf_50 : decode cX7_levelOf 50 = .ok (.lushr, 1) := by decide +kernel
theorem dX7_levelOf_51 : decode cX7_levelOf 51 = .ok (.lxor, 1) := by decide +kernel
theorem dX7_levelOf_52 : decode cX7_levelOf 52 = .ok (.lstore 4, 2) := by decide +kernel
theorem dX7_levelOf_54 : decode cX7_levelOf 54 = .ok (.iconst 0, 1) := by decide +kernel
theorem dX7_levelOf_55 : decode cX7_levelOf 55 = .ok (.istore 6, 2) := by decide +kernel
theorem dX7_levelOf_57 : decode cX7_levelOf 57 = .ok (.iload 6, 2) := by decide +kernel
theorem dX7_levelOf_59 : decode cX7_levelOf 59 = .ok (.bipush 9, 2) := by decide +kernel
theorem dX7_levelOf_61 : decode cX7_levelOf 61 = .ok (.if_icmp .ge 21, 3) := by decide +kernel
theorem dX7_levelOf_64 : decode cX7_levelOf 64 = .ok (.lload 4, 2) := by decide +kernel
theorem dX7_levelOf_66 : decode cX7_levelOf 66 = .ok (.iload 6, 2) := by decide +kernel
theorem dX7_levelOf_68 : decode cX7_levelOf 68 = .ok (.lshr, 1) := by decide +kernel
theorem dX7_levelOf_69 : decode cX7_levelOf 69 = .ok (.lconst 1, 1) := by decide +kernel
theorem dX7_levelOf_70 : decode cX7_levelOf 70 = .ok (.land, 1) := by decide +kernel
theorem dX7_levelOf_71 : decode cX7_levelOf 71 = .ok (.lconst 0, 1) := by decide +kernel
theorem dX7_levelOf_72 : decode cX7_levelOf 72 = .ok (.lcmp, 1) := by decide +kernel
theorem dX7_levelOf_73 : decode cX7_levelOf 73 = .ok (.ifCond .ne 9, 3) := by decide +kernel
theorem dX7_levelOf_76 : decode cX7_levelOf 76 = .ok (.iinc 6 1, 3) := by decide +kernel
theorem dX7_levelOf_79 : decode cX7_levelOf 79 = .ok (.goto (-22), 3) := by decide +kernel
theorem dX7_levelOf_82 : decode cX7_levelOf 82 = .ok (.iload 6, 2) := by decide +kernel
theorem dX7_levelOf_84 : decode cX7_levelOf 84 = .ok (.ireturn, 1) := by decide +kernel
theorem dX7_change_0 : decode cX7_change 0 = .ok (.iload_n 2, 1) := by decide +kernel
theorem dX7_change_1 : decode cX7_change 1 = .ok (.iload_n 3, 1) := by decide +kernel
theorem dX7_change_2 : decode cX7_change 2 = .ok (.if_icmp .ge 7, 3) := by decide +kernel
theorem dX7_change_5 : decode cX7_change 5 = .ok (.iload_n 2, 1) := by decide +kernel
theorem dX7_change_6 : decode cX7_change 6 = .ok (.goto 4, 3) := by decide +kernel
theorem dX7_change_9 : decode cX7_change 9 = .ok (.iload_n 3, 1) := by decide +kernel
theorem dX7_change_10 : decode cX7_change 10 = .ok (.istore 6, 2) := by decide +kernel
theorem dX7_change_12 : decode cX7_change 12 = .ok (.iload_n 2, 1) := by decide +kernel
theorem dX7_change_13 : decode cX7_change 13 = .ok (.iload_n 3, 1) := by decide +kernel
theorem dX7_change_14 : decode cX7_change 14 = .ok (.if_icmp .ge 7, 3) := by decide +kernel
theorem dX7_change_17 : decode cX7_change 17 = .ok (.iload_n 3, 1) := by decide +kernel
theorem dX7_change_18 : decode cX7_change 18 = .ok (.goto 4, 3) := by decide +kernel
theorem dX7_change_21 : decode cX7_change 21 = .ok (.iload_n 2, 1) := by decide +kernel
theorem dX7_change_22 : decode cX7_change 22 = .ok (.istore 7, 2) := by decide +kernel
theorem dX7_change_24 : decode cX7_change 24 = .ok (.ldc2_w 97, 3) := by decide +kernel
theorem dX7_change_27 : decode cX7_change 27 = .ok (.iload 6, 2) := by decide +kernel
theorem dX7_change_29 : decode cX7_change 29 = .ok (.i2l, 1) := by decide +kernel
theorem dX7_change_30 : decode cX7_change 30 = .ok (.lmul, 1) := by decide +kernel
theorem dX7_change_31 : decode cX7_change 31 = .ok (.iload 7, 2) := by decide +kernel
theorem dX7_change_33 : decode cX7_change 33 = .ok (.i2l, 1) := by decide +kernel
theorem dX7_change_34 : decode cX7_change 34 = .ok (.ladd, 1) := by decide +kernel
theorem dX7_change_35 : decode cX7_change 35 = .ok (.lstore 8, 2) := by decide +kernel
theorem dX7_change_37 : decode cX7_change 37 = .ok (.aload_n 0, 1) := by decide +kernel
theorem dX7_change_38 : decode cX7_change 38 = .ok (.iload_n 1, 1) := by decide +kernel
theorem dX7_change_39 : decode cX7_change 39 = .ok (.lload 8, 2) := by decide +kernel
theorem dX7_change_41 : decode cX7_change 41 = .ok (.invokevirtual 99, 3) := by decide +kernel
theorem dX7_change_44 : decode cX7_change 44 = .ok (.istore 10, 2) := by decide +kernel
theorem dX7_change_46 : decode cX7_change 46 = .ok (.iconst 0, 1) := by decide +kernel
theorem dX7_change_47 : decode cX7_change 47 = .ok (.istore 11, 2) := by decide +kernel
theorem dX7_change_49 : decode cX7_change 49 = .ok (.iload 11, 2) := by decide +kernel
theorem dX7_change_51 : decode cX7_change 51 = .ok (.iload 10, 2) := by decide +kernel
theorem dX7_change_53 : decode cX7_change 53 = .ok (.if_icmp .gt 143, 3) := by decide +kernel
theorem dX7_change_56 : decode cX7_change 56 = .ok (.sipush 1920, 3) := by decide +kernel
theorem dX7_change_59 : decode cX7_change 59 = .ok (.iload_n 1, 1) := by decide +kernel
theorem dX7_change_60 : decode cX7_change 60 = .ok (.imul, 1) := by decide +kernel
theorem dX7_change_61 : decode cX7_change 61 = .ok (.bipush 30, 2) := by decide +kernel
theorem dX7_change_63 : decode cX7_change 63 = .ok (.iload 6, 2) := by decide +kernel
theorem dX7_change_65 : decode cX7_change 65 = .ok (.imul, 1) := by decide +kernel
theorem dX7_change_66 : decode cX7_change 66 = .ok (.iadd, 1) := by decide +kernel
theorem dX7_change_67 : decode cX7_change 67 = .ok (.iconst 3, 1) := by decide +kernel
theorem dX7_change_68 : decode cX7_change 68 = .ok (.iload 11, 2) := by decide +kernel
theorem dX7_change_70 : decode cX7_change 70 = .ok (.imul, 1) := by decide +kernel
theorem dX7_change_71 : decode cX7_change 71 = .ok (.iadd, 1) := by decide +kernel
theorem dX7_change_72 : decode cX7_change 72 = .ok (.istore 12, 2) := by decide +kernel
theorem dX7_change_74 : decode cX7_change 74 = .ok (.sipush 1920, 3) := by decide +kernel
theorem dX7_change_77 : decode cX7_change 77 = .ok (.iload_n 1, 1) := by decide +kernel
theorem dX7_change_78 : decode cX7_change 78 = .ok (.imul, 1) := by decide +kernel
theorem dX7_change_79 : decode cX7_change 79 = .ok (.bipush 30, 2) := by decide +kernel
theorem dX7_change_81 : decode cX7_change 81 = .ok (.iload 7, 2) := by decide +kernel
theorem dX7_change_83 : decode cX7_change 83 = .ok (.imul, 1) := by decide +kernel
theorem dX7_change_84 : decode cX7_change 84 = .ok (.iadd, 1) := by decide +kernel
theorem dX7_change_85 : decode cX7_change 85 = .ok (.iconst 3, 1) := by decide +kernel
theorem dX7_change_86 : decode cX7_change 86 = .ok (.iload 11, 2) := by decide +kernel
theorem dX7_change_88 : decode cX7_change 88 = .ok (.imul, 1) := by decide +kernel
theorem dX7_change_89 : decode cX7_change 89 = .ok (.iadd, 1) := by decide +kernel
theorem dX7_change_90 : decode cX7_change 90 = .ok (.istore 13, 2) := by decide +kernel
theorem dX7_change_92 : decode cX7_change 92 = .ok (.aload_n 0, 1) := by decide +kernel
theorem dX7_change_93 : decode cX7_change 93 = .ok (.getfield 41, 3) := by decide +kernel
theorem dX7_change_96 : decode cX7_change 96 = .ok (.iload 12, 2) := by decide +kernel
theorem dX7_change_98 : decode cX7_change 98 = .ok (.dup2, 1) := by decide +kernel
theorem dX7_change_99 : decode cX7_change 99 = .ok (.laload, 1) := by decide +kernel
theorem dX7_change_100 : decode cX7_change 100 = .ok (.lload 4, 2) := by decide +kernel
theorem dX7_change_102 : decode cX7_change 102 = .ok (.ladd, 1) := by decide +kernel
theorem dX7_change_103 : decode cX7_change 103 = .ok (.lastore, 1) := by decide +kernel
theorem dX7_change_104 : decode cX7_change 104 = .ok (.aload_n 0, 1) := by decide +kernel
theorem dX7_change_105 : decode cX7_change 105 = .ok (.getfield 41, 3) := by decide +kernel
theorem dX7_change_108 : decode cX7_change 108 = .ok (.iload 12, 2) := by decide +kernel
theorem dX7_change_110 : decode cX7_change 110 = .ok (.iconst 1, 1) := by decide +kernel
theorem dX7_change_111 : decode cX7_change 111 = .ok (.iadd, 1) := by decide +kernel
theorem dX7_change_112 : decode cX7_change 112 = .ok (.dup2, 1) := by decide +kernel
theorem dX7_change_113 : decode cX7_change 113 = .ok (.laload, 1) := by decide +kernel
theorem dX7_change_114 : decode cX7_change 114 = .ok (.lload 4, 2) := by decide +kernel
theorem dX7_change_116 : decode cX7_change 116 = .ok (.lload 8, 2) := by decide +kernel
theorem dX7_change_118 : decode cX7_change 118 = .ok (.lmul, 1) := by decide +kernel
theorem dX7_change_119 : decode cX7_change 119 = .ok (.ladd, 1) := by decide +kernel
theorem dX7_change_120 : decode cX7_change 120 = .ok (.lastore, 1) := by decide +kernel
theorem dX7_change_121 : decode cX7_change 121 = .ok (.aload_n 0, 1) := by decide +kernel
theorem dX7_change_122 : decode cX7_change 122 = .ok (.getfield 41, 3) := by decide +kernel
theorem dX7_change_125 : decode cX7_change 125 = .ok (.iload 12, 2) := by decide +kernel
theorem dX7_change_127 : decode cX7_change 127 = .ok (.iconst 2, 1) := by decide +kernel
theorem dX7_change_128 : decode cX7_change 128 = .ok (.iadd, 1) := by decide +kernel
theorem dX7_change_129 : decode cX7_change 129 = .ok (.dup2, 1) := by decide +kernel
theorem dX7_change_130 : decode cX7_change 130 = .ok (.laload, 1) := by decide +kernel
theorem dX7_change_131 : decode cX7_change 131 = .ok (.lload 4, 2) := by decide +kernel
theorem dX7_change_133 : decode cX7_change 133 = .ok (.lload 8, 2) := by decide +kernel
theorem dX7_change_135 : decode cX7_change 135 = .ok (.lmul, 1) := by decide +kernel
theorem dX7_change_136 : decode cX7_change 136 = .ok (.lload 8, 2) := by decide +kernel
theorem dX7_change_138 : decode cX7_change 138 = .ok (.lmul, 1) := by decide +kernel
theorem dX7_change_139 : decode cX7_change 139 = .ok (.ladd, 1) := by decide +kernel
theorem dX7_change_140 : decode cX7_change 140 = .ok (.lastore, 1) := by decide +kernel
theorem dX7_change_141 : decode cX7_change 141 = .ok (.aload_n 0, 1) := by decide +kernel
theorem dX7_change_142 : decode cX7_change 142 = .ok (.getfield 41, 3) := by decide +kernel
theorem dX7_change_145 : decode cX7_change 145 = .ok (.iload 13, 2) := by decide +kernel
theorem dX7_change_147 : decode cX7_change 147 = .ok (.dup2, 1) := by decide +kernel
theorem dX7_change_148 : decode cX7_change 148 = .ok (.laload, 1) := by decide +kernel
theorem dX7_change_149 : decode cX7_change 149 = .ok (.lload 4, 2) := by decide +kernel
theorem dX7_change_151 : decode cX7_change 151 = .ok (.lsub, 1) := by decide +kernel
theorem dX7_change_152 : decode cX7_change 152 = .ok (.lastore, 1) := by decide +kernel
theorem dX7_change_153 : decode cX7_change 153 = .ok (.aload_n 0, 1) := by decide +kernel
theorem dX7_change_154 : decode cX7_change 154 = .ok (.getfield 41, 3) := by decide +kernel
theorem dX7_change_157 : decode cX7_change 157 = .ok (.iload 13, 2) := by decide +kernel
theorem dX7_change_159 : decode cX7_change 159 = .ok (.iconst 1, 1) := by decide +kernel
theorem dX7_change_160 : decode cX7_change 160 = .ok (.iadd, 1) := by decide +kernel
theorem dX7_change_161 : decode cX7_change 161 = .ok (.dup2, 1) := by decide +kernel
theorem dX7_change_162 : decode cX7_change 162 = .ok (.laload, 1) := by decide +kernel
theorem dX7_change_163 : decode cX7_change 163 = .ok (.lload 4, 2) := by decide +kernel
theorem dX7_change_165 : decode cX7_change 165 = .ok (.lload 8, 2) := by decide +kernel
theorem dX7_change_167 : decode cX7_change 167 = .ok (.lmul, 1) := by decide +kernel
theorem dX7_change_168 : decode cX7_change 168 = .ok (.lsub, 1) := by decide +kernel
theorem dX7_change_169 : decode cX7_change 169 = .ok (.lastore, 1) := by decide +kernel
theorem dX7_change_170 : decode cX7_change 170 = .ok (.aload_n 0, 1) := by decide +kernel
theorem dX7_change_171 : decode cX7_change 171 = .ok (.getfield 41, 3) := by decide +kernel
theorem dX7_change_174 : decode cX7_change 174 = .ok (.iload 13, 2) := by decide +kernel
theorem dX7_change_176 : decode cX7_change 176 = .ok (.iconst 2, 1) := by decide +kernel
theorem dX7_change_177 : decode cX7_change 177 = .ok (.iadd, 1) := by decide +kernel
theorem dX7_change_178 : decode cX7_change 178 = .ok (.dup2, 1) := by decide +kernel
theorem dX7_change_179 : decode cX7_change 179 = .ok (.laload, 1) := by decide +kernel
theorem dX7_change_180 : decode cX7_change 180 = .ok (.lload 4, 2) := by decide +kernel
theorem dX7_change_182 : decode cX7_change 182 = .ok (.lload 8, 2) := by decide +kernel
theorem dX7_change_184 : decode cX7_change 184 = .ok (.lmul, 1) := by decide +kernel
theorem dX7_change_185 : decode cX7_change 185 = .ok (.lload 8, 2) := by decide +kernel
theorem dX7_change_187 : decode cX7_change 187 = .ok (.lmul, 1) := by decide +kernel
theorem dX7_change_188 : decode cX7_change 188 = .ok (.lsub, 1) := by decide +kernel
theorem dX7_change_189 : decode cX7_change 189 = .ok (.lastore, 1) := by decide +kernel
theorem dX7_change_190 : decode cX7_change 190 = .ok (.iinc 11 1, 3) := by decide +kernel
theorem dX7_change_193 : decode cX7_change 193 = .ok (.goto (-144), 3) := by decide +kernel
theorem dX7_change_196 : decode cX7_change 196 = .ok (.iload 10, 2) := by decide +kernel
theorem dX7_change_198 : decode cX7_change 198 = .ok (.ireturn, 1) := by decide +kernel
theorem dX7_take_0 : decode cX7_take 0 = .ok (.aload_n 0, 1) := by decide +kernel
theorem dX7_take_1 : decode cX7_take 1 = .ok (.iload_n 1, 1) := by decide +kernel
theorem dX7_take_2 : decode cX7_take 2 = .ok (.iload_n 2, 1) := by decide +kernel
theorem dX7_take_3 : decode cX7_take 3 = .ok (.invokevirtual 76, 3) := by decide +kernel
theorem dX7_take_6 : decode cX7_take 6 = .ok (.ifCond .eq 17, 3) := by decide +kernel
theorem dX7_take_9 : decode cX7_take 9 = .ok (.aload_n 0, 1) := by decide +kernel
theorem dX7_take_10 : decode cX7_take 10 = .ok (.iload_n 1, 1) := by decide +kernel
theorem dX7_take_11 : decode cX7_take 11 = .ok (.iload_n 3, 1) := by decide +kernel
theorem dX7_take_12 : decode cX7_take 12 = .ok (.invokevirtual 76, 3) := by decide +kernel
theorem dX7_take_15 : decode cX7_take 15 = .ok (.ifCond .eq 8, 3) := by decide +kernel
theorem dX7_take_18 : decode cX7_take 18 = .ok (.iload_n 2, 1) := by decide +kernel
theorem dX7_take_19 : decode cX7_take 19 = .ok (.iload_n 3, 1) := by decide +kernel
theorem dX7_take_20 : decode cX7_take 20 = .ok (.if_icmp .ne 5, 3) := by decide +kernel
theorem dX7_take_23 : decode cX7_take 23 = .ok (.iconst (-1), 1) := by decide +kernel
theorem dX7_take_24 : decode cX7_take 24 = .ok (.ireturn, 1) := by decide +kernel
theorem dX7_take_25 : decode cX7_take 25 = .ok (.aload_n 0, 1) := by decide +kernel
theorem dX7_take_26 : decode cX7_take 26 = .ok (.iload_n 1, 1) := by decide +kernel
theorem dX7_take_27 : decode cX7_take 27 = .ok (.iload_n 2, 1) := by decide +kernel
theorem dX7_take_28 : decode cX7_take 28 = .ok (.iload_n 3, 1) := by decide +kernel
theorem dX7_take_29 : decode cX7_take 29 = .ok (.ldc2_w 103, 3) := by decide +kernel
theorem dX7_take_32 : decode cX7_take 32 = .ok (.invokevirtual 87, 3) := by decide +kernel
theorem dX7_take_35 : decode cX7_take 35 = .ok (.ireturn, 1) := by decide +kernel
theorem dX7_isApart_0 : decode cX7_isApart 0 = .ok (.aload_n 0, 1) := by decide +kernel
theorem dX7_isApart_1 : decode cX7_isApart 1 = .ok (.getfield 7, 3) := by decide +kernel
theorem dX7_isApart_4 : decode cX7_isApart 4 = .ok (.iload_n 1, 1) := by decide +kernel
theorem dX7_isApart_5 : decode cX7_isApart 5 = .ok (.iaload, 1) := by decide +kernel
theorem dX7_isApart_6 : decode cX7_isApart 6 = .ok (.aload_n 0, 1) := by decide +kernel
theorem dX7_isApart_7 : decode cX7_isApart 7 = .ok (.getfield 7, 3) := by decide +kernel
theorem dX7_isApart_10 : decode cX7_isApart 10 = .ok (.iload_n 2, 1) := by decide +kernel
theorem dX7_isApart_11 : decode cX7_isApart 11 = .ok (.iaload, 1) := by decide +kernel
theorem dX7_isApart_12 : decode cX7_isApart 12 = .ok (.if_icmp .ne 49, 3) := by decide +kernel
theorem dX7_isApart_15 : decode cX7_isApart 15 = .ok (.aload_n 0, 1) := by decide +kernel
theorem dX7_isApart_16 : decode cX7_isApart 16 = .ok (.getfield 13, 3) := by decide +kernel
theorem dX7_isApart_19 : decode cX7_isApart 19 = .ok (.iload_n 1, 1) := by decide +kernel
theorem dX7_isApart_20 : decode cX7_isApart 20 = .ok (.iaload, 1) := by decide +kernel
theorem dX7_isApart_21 : decode cX7_isApart 21 = .ok (.aload_n 0, 1) := by decide +kernel
theorem dX7_isApart_22 : decode cX7_isApart 22 = .ok (.getfield 13, 3) := by decide +kernel
theorem dX7_isApart_25 : decode cX7_isApart 25 = .ok (.iload_n 2, 1) := by decide +kernel
theorem dX7_isApart_26 : decode cX7_isApart 26 = .ok (.iaload, 1) := by decide +kernel
theorem dX7_isApart_27 : decode cX7_isApart 27 = .ok (.if_icmp .ne 34, 3) := by decide +kernel
theorem dX7_isApart_30 : decode cX7_isApart 30 = .ok (.aload_n 0, 1) := by decide +kernel
theorem dX7_isApart_31 : decode cX7_isApart 31 = .ok (.getfield 16, 3) := by decide +kernel
theorem dX7_isApart_34 : decode cX7_isApart 34 = .ok (.iload_n 1, 1) := by decide +kernel
theorem dX7_isApart_35 : decode cX7_isApart 35 = .ok (.iaload, 1) := by decide +kernel
theorem dX7_isApart_36 : decode cX7_isApart 36 = .ok (.aload_n 0, 1) := by decide +kernel
theorem dX7_isApart_37 : decode cX7_isApart 37 = .ok (.getfield 16, 3) := by decide +kernel
theorem dX7_isApart_40 : decode cX7_isApart 40 = .ok (.iload_n 2, 1) := by decide +kernel
theorem dX7_isApart_41 : decode cX7_isApart 41 = .ok (.iaload, 1) := by decide +kernel
theorem dX7_isApart_42 : decode cX7_isApart 42 = .ok (.if_icmp .ne 19, 3) := by decide +kernel
theorem dX7_isApart_45 : decode cX7_isApart 45 = .ok (.aload_n 0, 1) := by decide +kernel
theorem dX7_isApart_46 : decode cX7_isApart 46 = .ok (.getfield 19, 3) := by decide +kernel
theorem dX7_isApart_49 : decode cX7_isApart 49 = .ok (.iload_n 1, 1) := by decide +kernel
theorem dX7_isApart_50 : decode cX7_isApart 50 = .ok (.laload, 1) := by decide +kernel
theorem dX7_isApart_51 : decode cX7_isApart 51 = .ok (.aload_n 0, 1) := by decide +kernel
theorem dX7_isApart_52 : decode cX7_isApart 52 = .ok (.getfield 19, 3) := by decide +kernel
theorem dX7_isApart_55 : decode cX7_isApart 55 = .ok (.iload_n 2, 1) := by decide +kernel
theorem dX7_isApart_56 : decode cX7_isApart 56 = .ok (.laload, 1) := by decide +kernel
theorem dX7_isApart_57 : decode cX7_isApart 57 = .ok (.lcmp, 1) := by decide +kernel
theorem dX7_isApart_58 : decode cX7_isApart 58 = .ok (.ifCond .eq 7, 3) := by decide +kernel
theorem dX7_isApart_61 : decode cX7_isApart 61 = .ok (.iconst 1, 1) := by decide +kernel
theorem dX7_isApart_62 : decode cX7_isApart 62 = .ok (.goto 4, 3) := by decide +kernel
theorem dX7_isApart_65 : decode cX7_isApart 65 = .ok (.iconst 0, 1) := by decide +kernel
theorem dX7_isApart_66 : decode cX7_isApart 66 = .ok (.ireturn, 1) := by decide +kernel
theorem dX7_merge_0 : decode cX7_merge 0 = .ok (.iload_n 1, 1) := by decide +kernel
theorem dX7_merge_1 : decode cX7_merge 1 = .ok (.invokestatic 64, 3) := by decide +kernel
theorem dX7_merge_4 : decode cX7_merge 4 = .ok (.ifCond .eq 15, 3) := by decide +kernel
theorem dX7_merge_7 : decode cX7_merge 7 = .ok (.iload_n 2, 1) := by decide +kernel
theorem dX7_merge_8 : decode cX7_merge 8 = .ok (.invokestatic 64, 3) := by decide +kernel
theorem dX7_merge_11 : decode cX7_merge 11 = .ok (.ifCond .eq 8, 3) := by decide +kernel
theorem dX7_merge_14 : decode cX7_merge 14 = .ok (.iload_n 1, 1) := by decide +kernel
theorem dX7_merge_15 : decode cX7_merge 15 = .ok (.iload_n 2, 1) := by decide +kernel
theorem dX7_merge_16 : decode cX7_merge 16 = .ok (.if_icmp .ne 5, 3) := by decide +kernel
theorem dX7_merge_19 : decode cX7_merge 19 = .ok (.iconst (-1), 1) := by decide +kernel
theorem dX7_merge_20 : decode cX7_merge 20 = .ok (.ireturn, 1) := by decide +kernel
theorem dX7_merge_21 : decode cX7_merge 21 = .ok (.aload_n 0, 1) := by decide +kernel
theorem dX7_merge_22 : decode cX7_merge 22 = .ok (.iload_n 1, 1) := by decide +kernel
theorem dX7_merge_23 : decode cX7_merge 23 = .ok (.iload_n 2, 1) := by decide +kernel
theorem dX7_merge_24 : decode cX7_merge 24 = .ok (.invokevirtual 105, 3) := by decide +kernel
theorem dX7_merge_27 : decode cX7_merge 27 = .ok (.ifCond .eq 6, 3) := by decide +kernel
theorem dX7_merge_30 : decode cX7_merge 30 = .ok (.bipush (-3), 2) := by decide +kernel
theorem dX7_merge_32 : decode cX7_merge 32 = .ok (.ireturn, 1) := by decide +kernel
theorem dX7_merge_33 : decode cX7_merge 33 = .ok (.iconst 0, 1) := by decide +kernel
theorem dX7_merge_34 : decode cX7_merge 34 = .ok (.istore_n 3, 1) := by decide +kernel
theorem dX7_merge_35 : decode cX7_merge 35 = .ok (.iconst 0, 1) := by decide +kernel
theorem dX7_merge_36 : decode cX7_merge 36 = .ok (.istore 4, 2) := by decide +kernel
theorem dX7_merge_38 : decode cX7_merge 38 = .ok (.iload 4, 2) := by decide +kernel
theorem dX7_merge_40 : decode cX7_merge 40 = .ok (.bipush 64, 2) := by decide +kernel
theorem dX7_merge_42 : decode cX7_merge 42 = .ok (.if_icmp .ge 61, 3) := by decide +kernel
theorem dX7_merge_45 : decode cX7_merge 45 = .ok (.aload_n 0, 1) := by decide +kernel
theorem dX7_merge_46 : decode cX7_merge 46 = .ok (.getfield 35, 3) := by decide +kernel
theorem dX7_merge_49 : decode cX7_merge 49 = .ok (.bipush 64, 2) := by decide +kernel
theorem dX7_merge_51 : decode cX7_merge 51 = .ok (.iload_n 1, 1) := by decide +kernel
theorem dX7_merge_52 : decode cX7_merge 52 = .ok (.imul, 1) := by decide +kernel
theorem dX7_merge_53 : decode cX7_merge 53 = .ok (.iload 4, 2) := by decide +kernel
theorem dX7_merge_55 : decode cX7_merge 55 = .ok (.iadd, 1) := by decide +kernel
theorem dX7_merge_56 : decode cX7_merge 56 = .ok (.dup2, 1) := by decide +kernel
theorem dX7_merge_57 : decode cX7_merge 57 = .ok (.iaload, 1) := by decide +kernel
theorem dX7_merge_58 : decode cX7_merge 58 = .ok (.aload_n 0, 1) := by decide +kernel
theorem dX7_merge_59 : decode cX7_merge 59 = .ok (.getfield 35, 3) := by decide +kernel
theorem dX7_merge_62 : decode cX7_merge 62 = .ok (.bipush 64, 2) := by decide +kernel
theorem dX7_merge_64 : decode cX7_merge 64 = .ok (.iload_n 2, 1) := by decide +kernel
theorem dX7_merge_65 : decode cX7_merge 65 = .ok (.imul, 1) := by decide +kernel
theorem dX7_merge_66 : decode cX7_merge 66 = .ok (.iload 4, 2) := by decide +kernel
theorem dX7_merge_68 : decode cX7_merge 68 = .ok (.iadd, 1) := by decide +kernel
theorem dX7_merge_69 : decode cX7_merge 69 = .ok (.iaload, 1) := by decide +kernel
theorem dX7_merge_70 : decode cX7_merge 70 = .ok (.iadd, 1) := by decide +kernel
theorem dX7_merge_71 : decode cX7_merge 71 = .ok (.iastore, 1) := by decide +kernel
theorem dX7_merge_72 : decode cX7_merge 72 = .ok (.iload_n 3, 1) := by decide +kernel
theorem dX7_merge_73 : decode cX7_merge 73 = .ok (.aload_n 0, 1) := by decide +kernel
theorem dX7_merge_74 : decode cX7_merge 74 = .ok (.getfield 35, 3) := by decide +kernel
theorem dX7_merge_77 : decode cX7_merge 77 = .ok (.bipush 64, 2) := by decide +kernel
theorem dX7_merge_79 : decode cX7_merge 79 = .ok (.iload_n 1, 1) := by decide +kernel
theorem dX7_merge_80 : decode cX7_merge 80 = .ok (.imul, 1) := by decide +kernel
theorem dX7_merge_81 : decode cX7_merge 81 = .ok (.iload 4, 2) := by decide +kernel
theorem dX7_merge_83 : decode cX7_merge 83 = .ok (.iadd, 1) := by decide +kernel
theorem dX7_merge_84 : decode cX7_merge 84 = .ok (.iaload, 1) := by decide +kernel
theorem dX7_merge_85 : decode cX7_merge 85 = .ok (.ldc 108, 2) := by decide +kernel
theorem dX7_merge_87 : decode cX7_merge 87 = .ok (.if_icmp .le 7, 3) := by decide +kernel
theorem dX7_merge_90 : decode cX7_merge 90 = .ok (.iconst 1, 1) := by decide +kernel
theorem dX7_merge_91 : decode cX7_merge 91 = .ok (.goto 4, 3) := by decide +kernel
theorem dX7_merge_94 : decode cX7_merge 94 = .ok (.iconst 0, 1) := by decide +kernel
theorem dX7_merge_95 : decode cX7_merge 95 = .ok (.ior, 1) := by decide +kernel
theorem dX7_merge_96 : decode cX7_merge 96 = .ok (.istore_n 3, 1) := by decide +kernel
theorem dX7_merge_97 : decode cX7_merge 97 = .ok (.iinc 4 1, 3) := by decide +kernel
theorem dX7_merge_100 : decode cX7_merge 100 = .ok (.goto (-62), 3) := by decide +kernel
theorem dX7_merge_103 : decode cX7_merge 103 = .ok (.aload_n 0, 1) := by decide +kernel
theorem dX7_merge_104 : decode cX7_merge 104 = .ok (.iload_n 1, 1) := by decide +kernel
theorem dX7_merge_105 : decode cX7_merge 105 = .ok (.invokevirtual 68, 3) := by decide +kernel
theorem dX7_merge_108 : decode cX7_merge 108 = .ok (.aload_n 0, 1) := by decide +kernel
theorem dX7_merge_109 : decode cX7_merge 109 = .ok (.getfield 13, 3) := by decide +kernel
theorem dX7_merge_112 : decode cX7_merge 112 = .ok (.iload_n 1, 1) := by decide +kernel
theorem dX7_merge_113 : decode cX7_merge 113 = .ok (.iaload, 1) := by decide +kernel
theorem dX7_merge_114 : decode cX7_merge 114 = .ok (.if_icmp .le 27, 3) := by decide +kernel
theorem dX7_merge_117 : decode cX7_merge 117 = .ok (.aload_n 0, 1) := by decide +kernel
theorem dX7_merge_118 : decode cX7_merge 118 = .ok (.getfield 35, 3) := by decide +kernel
theorem dX7_merge_121 : decode cX7_merge 121 = .ok (.bipush 64, 2) := by decide +kernel
theorem dX7_merge_123 : decode cX7_merge 123 = .ok (.iload_n 1, 1) := by decide +kernel
theorem dX7_merge_124 : decode cX7_merge 124 = .ok (.imul, 1) := by decide +kernel
theorem dX7_merge_125 : decode cX7_merge 125 = .ok (.aload_n 0, 1) := by decide +kernel
theorem dX7_merge_126 : decode cX7_merge 126 = .ok (.iload_n 1, 1) := by decide +kernel
theorem dX7_merge_127 : decode cX7_merge 127 = .ok (.aload_n 0, 1) := by decide +kernel
theorem dX7_merge_128 : decode cX7_merge 128 = .ok (.getfield 13, 3) := by decide +kernel
theorem dX7_merge_131 : decode cX7_merge 131 = .ok (.iload_n 1, 1) := by decide +kernel
theorem dX7_merge_132 : decode cX7_merge 132 = .ok (.iaload, 1) := by decide +kernel
theorem dX7_merge_133 : decode cX7_merge 133 = .ok (.invokevirtual 109, 3) := by decide +kernel
theorem dX7_merge_136 : decode cX7_merge 136 = .ok (.iadd, 1) := by decide +kernel
theorem dX7_merge_137 : decode cX7_merge 137 = .ok (.iaload, 1) := by decide +kernel
theorem dX7_merge_138 : decode cX7_merge 138 = .ok (.goto 4, 3) := by decide +kernel
theorem dX7_merge_141 : decode cX7_merge 141 = .ok (.iconst 0, 1) := by decide +kernel
theorem dX7_merge_142 : decode cX7_merge 142 = .ok (.istore 4, 2) := by decide +kernel
theorem dX7_merge_144 : decode cX7_merge 144 = .ok (.iload_n 3, 1) := by decide +kernel
theorem dX7_merge_145 : decode cX7_merge 145 = .ok (.ifCond .ne 29, 3) := by decide +kernel
theorem dX7_merge_148 : decode cX7_merge 148 = .ok (.aload_n 0, 1) := by decide +kernel
theorem dX7_merge_149 : decode cX7_merge 149 = .ok (.getfield 26, 3) := by decide +kernel
theorem dX7_merge_152 : decode cX7_merge 152 = .ok (.iload_n 1, 1) := by decide +kernel
theorem dX7_merge_153 : decode cX7_merge 153 = .ok (.iaload, 1) := by decide +kernel
theorem dX7_merge_154 : decode cX7_merge 154 = .ok (.i2l, 1) := by decide +kernel
theorem dX7_merge_155 : decode cX7_merge 155 = .ok (.aload_n 0, 1) := by decide +kernel
theorem dX7_merge_156 : decode cX7_merge 156 = .ok (.getfield 26, 3) := by decide +kernel
theorem dX7_merge_159 : decode cX7_merge 159 = .ok (.iload_n 2, 1) := by decide +kernel
theorem dX7_merge_160 : decode cX7_merge 160 = .ok (.iaload, 1) := by decide +kernel
theorem dX7_merge_161 : decode cX7_merge 161 = .ok (.i2l, 1) := by decide +kernel
theorem dX7_merge_162 : decode cX7_merge 162 = .ok (.ladd, 1) := by decide +kernel
theorem dX7_merge_163 : decode cX7_merge 163 = .ok (.iload 4, 2) := by decide +kernel
theorem dX7_merge_165 : decode cX7_merge 165 = .ok (.i2l, 1) := by decide +kernel
theorem dX7_merge_166 : decode cX7_merge 166 = .ok (.ladd, 1) := by decide +kernel
theorem dX7_merge_167 : decode cX7_merge 167 = .ok (.ldc2_w 113, 3) := by decide +kernel
theorem dX7_merge_170 : decode cX7_merge 170 = .ok (.lcmp, 1) := by decide +kernel
theorem dX7_merge_171 : decode cX7_merge 171 = .ok (.ifCond .le 49, 3) := by decide +kernel
theorem dX7_merge_174 : decode cX7_merge 174 = .ok (.iconst 0, 1) := by decide +kernel
theorem dX7_merge_175 : decode cX7_merge 175 = .ok (.istore 5, 2) := by decide +kernel
theorem dX7_merge_177 : decode cX7_merge 177 = .ok (.iload 5, 2) := by decide +kernel
theorem dX7_merge_179 : decode cX7_merge 179 = .ok (.bipush 64, 2) := by decide +kernel
theorem dX7_merge_181 : decode cX7_merge 181 = .ok (.if_icmp .ge 36, 3) := by decide +kernel
theorem dX7_merge_184 : decode cX7_merge 184 = .ok (.aload_n 0, 1) := by decide +kernel
theorem dX7_merge_185 : decode cX7_merge 185 = .ok (.getfield 35, 3) := by decide +kernel
theorem dX7_merge_188 : decode cX7_merge 188 = .ok (.bipush 64, 2) := by decide +kernel
theorem dX7_merge_190 : decode cX7_merge 190 = .ok (.iload_n 1, 1) := by decide +kernel
theorem dX7_merge_191 : decode cX7_merge 191 = .ok (.imul, 1) := by decide +kernel
theorem dX7_merge_192 : decode cX7_merge 192 = .ok (.iload 5, 2) := by decide +kernel
theorem dX7_merge_194 : decode cX7_merge 194 = .ok (.iadd, 1) := by decide +kernel
theorem dX7_merge_195 : decode cX7_merge 195 = .ok (.dup2, 1) := by decide +kernel
theorem dX7_merge_196 : decode cX7_merge 196 = .ok (.iaload, 1) := by decide +kernel
theorem dX7_merge_197 : decode cX7_merge 197 = .ok (.aload_n 0, 1) := by decide +kernel
theorem dX7_merge_198 : decode cX7_merge 198 = .ok (.getfield 35, 3) := by decide +kernel
theorem dX7_merge_201 : decode cX7_merge 201 = .ok (.bipush 64, 2) := by decide +kernel
theorem dX7_merge_203 : decode cX7_merge 203 = .ok (.iload_n 2, 1) := by decide +kernel
theorem dX7_merge_204 : decode cX7_merge 204 = .ok (.imul, 1) := by decide +kernel
theorem dX7_merge_205 : decode cX7_merge 205 = .ok (.iload 5, 2) := by decide +kernel
theorem dX7_merge_207 : decode cX7_merge 207 = .ok (.iadd, 1) := by decide +kernel
theorem dX7_merge_208 : decode cX7_merge 208 = .ok (.iaload, 1) := by decide +kernel
theorem dX7_merge_209 : decode cX7_merge 209 = .ok (.isub, 1) := by decide +kernel
theorem dX7_merge_210 : decode cX7_merge 210 = .ok (.iastore, 1) := by decide +kernel
theorem dX7_merge_211 : decode cX7_merge 211 = .ok (.iinc 5 1, 3) := by decide +kernel
theorem dX7_merge_214 : decode cX7_merge 214 = .ok (.goto (-37), 3) := by decide +kernel
theorem dX7_merge_217 : decode cX7_merge 217 = .ok (.bipush (-6), 2) := by decide +kernel
theorem dX7_merge_219 : decode cX7_merge 219 = .ok (.ireturn, 1) := by decide +kernel
theorem dX7_merge_220 : decode cX7_merge 220 = .ok (.aload_n 0, 1) := by decide +kernel
theorem dX7_merge_221 : decode cX7_merge 221 = .ok (.getfield 26, 3) := by decide +kernel
theorem dX7_merge_224 : decode cX7_merge 224 = .ok (.iload_n 1, 1) := by decide +kernel
theorem dX7_merge_225 : decode cX7_merge 225 = .ok (.dup2, 1) := by decide +kernel
theorem dX7_merge_226 : decode cX7_merge 226 = .ok (.iaload, 1) := by decide +kernel
theorem dX7_merge_227 : decode cX7_merge 227 = .ok (.aload_n 0, 1) := by decide +kernel
theorem dX7_merge_228 : decode cX7_merge 228 = .ok (.getfield 26, 3) := by decide +kernel
theorem dX7_merge_231 : decode cX7_merge 231 = .ok (.iload_n 2, 1) := by decide +kernel
theorem dX7_merge_232 : decode cX7_merge 232 = .ok (.iaload, 1) := by decide +kernel
theorem dX7_merge_233 : decode cX7_merge 233 = .ok (.iadd, 1) := by decide +kernel
theorem dX7_merge_234 : decode cX7_merge 234 = .ok (.iastore, 1) := by decide +kernel
theorem dX7_merge_235 : decode cX7_merge 235 = .ok (.aload_n 0, 1) := by decide +kernel
theorem dX7_merge_236 : decode cX7_merge 236 = .ok (.iload_n 1, 1) := by decide +kernel
theorem dX7_merge_237 : decode cX7_merge 237 = .ok (.iload 4, 2) := by decide +kernel
theorem dX7_merge_239 : decode cX7_merge 239 = .ok (.invokevirtual 72, 3) := by decide +kernel
theorem dX7_merge_242 : decode cX7_merge 242 = .ok (.iconst 0, 1) := by decide +kernel
theorem dX7_merge_243 : decode cX7_merge 243 = .ok (.istore 5, 2) := by decide +kernel
theorem dX7_merge_245 : decode cX7_merge 245 = .ok (.iload 5, 2) := by decide +kernel
theorem dX7_merge_247 : decode cX7_merge 247 = .ok (.sipush 1920, 3) := by decide +kernel
theorem dX7_merge_250 : decode cX7_merge 250 = .ok (.if_icmp .ge 38, 3) := by decide +kernel
theorem dX7_merge_253 : decode cX7_merge 253 = .ok (.aload_n 0, 1) := by decide +kernel
theorem dX7_merge_254 : decode cX7_merge 254 = .ok (.getfield 41, 3) := by decide +kernel
theorem dX7_merge_257 : decode cX7_merge 257 = .ok (.sipush 1920, 3) := by decide +kernel
theorem dX7_merge_260 : decode cX7_merge 260 = .ok (.iload_n 1, 1) := by decide +kernel
theorem dX7_merge_261 : decode cX7_merge 261 = .ok (.imul, 1) := by decide +kernel
theorem dX7_merge_262 : decode cX7_merge 262 = .ok (.iload 5, 2) := by decide +kernel
theorem dX7_merge_264 : decode cX7_merge 264 = .ok (.iadd, 1) := by decide +kernel
theorem dX7_merge_265 : decode cX7_merge 265 = .ok (.dup2, 1) := by decide +kernel
theorem dX7_merge_266 : decode cX7_merge 266 = .ok (.laload, 1) := by decide +kernel
theorem dX7_merge_267 : decode cX7_merge 267 = .ok (.aload_n 0, 1) := by decide +kernel
theorem dX7_merge_268 : decode cX7_merge 268 = .ok (.getfield 41, 3) := by decide +kernel
theorem dX7_merge_271 : decode cX7_merge 271 = .ok (.sipush 1920, 3) := by decide +kernel
theorem dX7_merge_274 : decode cX7_merge 274 = .ok (.iload_n 2, 1) := by decide +kernel
theorem dX7_merge_275 : decode cX7_merge 275 = .ok (.imul, 1) := by decide +kernel
theorem dX7_merge_276 : decode cX7_merge 276 = .ok (.iload 5, 2) := by decide +kernel
theorem dX7_merge_278 : decode cX7_merge 278 = .ok (.iadd, 1) := by decide +kernel
theorem dX7_merge_279 : decode cX7_merge 279 = .ok (.laload, 1) := by decide +kernel
theorem dX7_merge_280 : decode cX7_merge 280 = .ok (.ladd, 1) := by decide +kernel
theorem dX7_merge_281 : decode cX7_merge 281 = .ok (.lastore, 1) := by decide +kernel
theorem dX7_merge_282 : decode cX7_merge 282 = .ok (.iinc 5 1, 3) := by decide +kernel
theorem dX7_merge_285 : decode cX7_merge 285 = .ok (.goto (-40), 3) := by decide +kernel
theorem dX7_merge_288 : decode cX7_merge 288 = .ok (.aload_n 0, 1) := by decide +kernel
theorem dX7_merge_289 : decode cX7_merge 289 = .ok (.iload_n 1, 1) := by decide +kernel
theorem dX7_merge_290 : decode cX7_merge 290 = .ok (.invokevirtual 68, 3) := by decide +kernel
theorem dX7_merge_293 : decode cX7_merge 293 = .ok (.ireturn, 1) := by decide +kernel
theorem dX7_ranked_0 : decode cX7_ranked 0 = .ok (.iconst 0, 1) := by decide +kernel
theorem dX7_ranked_1 : decode cX7_ranked 1 = .ok (.istore_n 3, 1) := by decide +kernel
theorem dX7_ranked_2 : decode cX7_ranked 2 = .ok (.iload_n 3, 1) := by decide +kernel
theorem dX7_ranked_3 : decode cX7_ranked 3 = .ok (.bipush 64, 2) := by decide +kernel
theorem dX7_ranked_5 : decode cX7_ranked 5 = .ok (.if_icmp .ge 93, 3) := by decide +kernel
theorem dX7_ranked_8 : decode cX7_ranked 8 = .ok (.iconst 0, 1) := by decide +kernel
theorem dX7_ranked_9 : decode cX7_ranked 9 = .ok (.istore 4, 2) := by decide +kernel
theorem dX7_ranked_11 : decode cX7_ranked 11 = .ok (.iconst 0, 1) := by decide +kernel
theorem dX7_ranked_12 : decode cX7_ranked 12 = .ok (.istore 5, 2) := by decide +kernel
theorem dX7_ranked_14 : decode cX7_ranked 14 = .ok (.iload 5, 2) := by decide +kernel
theorem dX7_ranked_16 : decode cX7_ranked 16 = .ok (.bipush 64, 2) := by decide +kernel
theorem dX7_ranked_18 : decode cX7_ranked 18 = .ok (.if_icmp .ge 66, 3) := by decide +kernel
theorem dX7_ranked_21 : decode cX7_ranked 21 = .ok (.aload_n 0, 1) := by decide +kernel
theorem dX7_ranked_22 : decode cX7_ranked 22 = .ok (.getfield 35, 3) := by decide +kernel
theorem dX7_ranked_25 : decode cX7_ranked 25 = .ok (.bipush 64, 2) := by decide +kernel
theorem dX7_ranked_27 : decode cX7_ranked 27 = .ok (.iload_n 1, 1) := by decide +kernel
theorem dX7_ranked_28 : decode cX7_ranked 28 = .ok (.imul, 1) := by decide +kernel
theorem dX7_ranked_29 : decode cX7_ranked 29 = .ok (.iload_n 3, 1) := by decide +kernel
theorem dX7_ranked_30 : decode cX7_ranked 30 = .ok (.iadd, 1) := by decide +kernel
theorem dX7_ranked_31 : decode cX7_ranked 31 = .ok (.iaload, 1) := by decide +kernel
theorem dX7_ranked_32 : decode cX7_ranked 32 = .ok (.istore 6, 2) := by decide +kernel
theorem dX7_ranked_34 : decode cX7_ranked 34 = .ok (.aload_n 0, 1) := by decide +kernel
theorem dX7_ranked_35 : decode cX7_ranked 35 = .ok (.getfield 35, 3) := by decide +kernel
theorem dX7_ranked_38 : decode cX7_ranked 38 = .ok (.bipush 64, 2) := by decide +kernel
theorem dX7_ranked_40 : decode cX7_ranked 40 = .ok (.iload_n 1, 1) := by decide +kernel
theorem dX7_ranked_41 : decode cX7_ranked 41 = .ok (.imul, 1) := by decide +kernel
theorem dX7_ranked_42 : decode cX7_ranked 42 = .ok (.iload 5, 2) := by decide +kernel
theorem dX7_ranked_44 : decode cX7_ranked 44 = .ok (.iadd, 1) := by decide +kernel
theorem dX7_ranked_45 : decode cX7_ranked 45 = .ok (.iaload, 1) := by decide +kernel
theorem dX7_ranked_46 : decode cX7_ranked 46 = .ok (.istore 7, 2) := by decide +kernel
theorem dX7_ranked_48 : decode cX7_ranked 48 = .ok (.iload 4, 2) := by decide +kernel
theorem dX7_ranked_50 : decode cX7_ranked 50 = .ok (.iload 7, 2) := by decide +kernel
theorem dX7_ranked_52 : decode cX7_ranked 52 = .ok (.iload 6, 2) := by decide +kernel
theorem dX7_ranked_54 : decode cX7_ranked 54 = .ok (.if_icmp .gt 16, 3) := by decide +kernel
theorem dX7_ranked_57 : decode cX7_ranked 57 = .ok (.iload 7, 2) := by decide +kernel
theorem dX7_ranked_59 : decode cX7_ranked 59 = .ok (.iload 6, 2) := by decide +kernel
theorem dX7_ranked_61 : decode cX7_ranked 61 = .ok (.if_icmp .ne 13, 3) := by decide +kernel
theorem dX7_ranked_64 : decode cX7_ranked 64 = .ok (.iload 5, 2) := by decide +kernel
theorem dX7_ranked_66 : decode cX7_ranked 66 = .ok (.iload_n 3, 1) := by decide +kernel
theorem dX7_ranked_67 : decode cX7_ranked 67 = .ok (.if_icmp .ge 7, 3) := by decide +kernel
theorem dX7_ranked_70 : decode cX7_ranked 70 = .ok (.iconst 1, 1) := by decide +kernel
theorem dX7_ranked_71 : decode cX7_ranked 71 = .ok (.goto 4, 3) := by decide +kernel
theorem dX7_ranked_74 : decode cX7_ranked 74 = .ok (.iconst 0, 1) := by decide +kernel
theorem dX7_ranked_75 : decode cX7_ranked 75 = .ok (.iadd, 1) := by decide +kernel
theorem dX7_ranked_76 : decode cX7_ranked 76 = .ok (.istore 4, 2) := by decide +kernel
theorem dX7_ranked_78 : decode cX7_ranked 78 = .ok (.iinc 5 1, 3) := by decide +kernel
theorem dX7_ranked_81 : decode cX7_ranked 81 = .ok (.goto (-67), 3) := by decide +kernel
theorem dX7_ranked_84 : decode cX7_ranked 84 = .ok (.iload 4, 2) := by decide +kernel
theorem dX7_ranked_86 : decode cX7_ranked 86 = .ok (.iload_n 2, 1) := by decide +kernel
theorem dX7_ranked_87 : decode cX7_ranked 87 = .ok (.if_icmp .ne 5, 3) := by decide +kernel
theorem dX7_ranked_90 : decode cX7_ranked 90 = .ok (.iload_n 3, 1) := by decide +kernel
theorem dX7_ranked_91 : decode cX7_ranked 91 = .ok (.ireturn, 1) := by decide +kernel
theorem dX7_ranked_92 : decode cX7_ranked 92 = .ok (.iinc 3 1, 3) := by decide +kernel
theorem dX7_ranked_95 : decode cX7_ranked 95 = .ok (.goto (-93), 3) := by decide +kernel
theorem dX7_ranked_98 : decode cX7_ranked 98 = .ok (.iconst 0, 1) := by decide +kernel
theorem dX7_ranked_99 : decode cX7_ranked 99 = .ok (.ireturn, 1) := by decide +kernel
theorem dX7_told_0 : decode cX7_told 0 = .ok (.iload_n 1, 1) := by decide +kernel
theorem dX7_told_1 : decode cX7_told 1 = .ok (.invokestatic 64, 3) := by decide +kernel
theorem dX7_told_4 : decode cX7_told 4 = .ok (.ifCond .eq 13, 3) := by decide +kernel
theorem dX7_told_7 : decode cX7_told 7 = .ok (.iload_n 2, 1) := by decide +kernel
theorem dX7_told_8 : decode cX7_told 8 = .ok (.ifCond .lt 9, 3) := by decide +kernel
theorem dX7_told_11 : decode cX7_told 11 = .ok (.iload_n 2, 1) := by decide +kernel
theorem dX7_told_12 : decode cX7_told 12 = .ok (.bipush 8, 2) := by decide +kernel
theorem dX7_told_14 : decode cX7_told 14 = .ok (.if_icmp .le 5, 3) := by decide +kernel
theorem dX7_told_17 : decode cX7_told 17 = .ok (.iconst (-1), 1) := by decide +kernel
theorem dX7_told_18 : decode cX7_told 18 = .ok (.ireturn, 1) := by decide +kernel
theorem dX7_told_19 : decode cX7_told 19 = .ok (.iload_n 2, 1) := by decide +kernel
theorem dX7_told_20 : decode cX7_told 20 = .ok (.tableswitch 114 0 7 #[48, 55, 61, 68, 87, 94, 100, 107], 48) := by decide +kernel
theorem dX7_told_68 : decode cX7_told 68 = .ok (.aload_n 0, 1) := by decide +kernel
theorem dX7_told_69 : decode cX7_told 69 = .ok (.getfield 23, 3) := by decide +kernel
theorem dX7_told_72 : decode cX7_told 72 = .ok (.iload_n 1, 1) := by decide +kernel
theorem dX7_told_73 : decode cX7_told 73 = .ok (.iaload, 1) := by decide +kernel
theorem dX7_told_74 : decode cX7_told 74 = .ok (.ireturn, 1) := by decide +kernel
theorem dX7_told_75 : decode cX7_told 75 = .ok (.aload_n 0, 1) := by decide +kernel
theorem dX7_told_76 : decode cX7_told 76 = .ok (.iload_n 1, 1) := by decide +kernel
theorem dX7_told_77 : decode cX7_told 77 = .ok (.invokevirtual 68, 3) := by decide +kernel
theorem dX7_told_80 : decode cX7_told 80 = .ok (.ireturn, 1) := by decide +kernel
theorem dX7_told_81 : decode cX7_told 81 = .ok (.aload_n 0, 1) := by decide +kernel
theorem dX7_told_82 : decode cX7_told 82 = .ok (.getfield 26, 3) := by decide +kernel
theorem dX7_told_85 : decode cX7_told 85 = .ok (.iload_n 1, 1) := by decide +kernel
theorem dX7_told_86 : decode cX7_told 86 = .ok (.iaload, 1) := by decide +kernel
theorem dX7_told_87 : decode cX7_told 87 = .ok (.ireturn, 1) := by decide +kernel
theorem dX7_told_88 : decode cX7_told 88 = .ok (.aload_n 0, 1) := by decide +kernel
theorem dX7_told_89 : decode cX7_told 89 = .ok (.getfield 7, 3) := by decide +kernel
theorem dX7_told_92 : decode cX7_told 92 = .ok (.iload_n 1, 1) := by decide +kernel
theorem dX7_told_93 : decode cX7_told 93 = .ok (.iaload, 1) := by decide +kernel
theorem dX7_told_94 : decode cX7_told 94 = .ok (.aload_n 0, 1) := by decide +kernel
theorem dX7_told_95 : decode cX7_told 95 = .ok (.iload_n 1, 1) := by decide +kernel
theorem dX7_told_96 : decode cX7_told 96 = .ok (.aload_n 0, 1) := by decide +kernel
theorem dX7_told_97 : decode cX7_told 97 = .ok (.getfield 23, 3) := by decide +kernel
theorem dX7_told_100 : decode cX7_told 100 = .ok (.iload_n 1, 1) := by decide +kernel
theorem dX7_told_101 : decode cX7_told 101 = .ok (.iaload, 1) := by decide +kernel
theorem dX7_told_102 : decode cX7_told 102 = .ok (.invokevirtual 115, 3) := by decide +kernel
theorem dX7_told_105 : decode cX7_told 105 = .ok (.isub, 1) := by decide +kernel
theorem dX7_told_106 : decode cX7_told 106 = .ok (.ireturn, 1) := by decide +kernel
theorem dX7_told_107 : decode cX7_told 107 = .ok (.aload_n 0, 1) := by decide +kernel
theorem dX7_told_108 : decode cX7_told 108 = .ok (.getfield 47, 3) := by decide +kernel
theorem dX7_told_111 : decode cX7_told 111 = .ok (.iload_n 1, 1) := by decide +kernel
theorem dX7_told_112 : decode cX7_told 112 = .ok (.iaload, 1) := by decide +kernel
theorem dX7_told_113 : decode cX7_told 113 = .ok (.ireturn, 1) := by decide +kernel
theorem dX7_told_114 : decode cX7_told 114 = .ok (.aload_n 0, 1) := by decide +kernel
theorem dX7_told_115 : decode cX7_told 115 = .ok (.iload_n 1, 1) := by decide +kernel
theorem dX7_told_116 : decode cX7_told 116 = .ok (.invokevirtual 118, 3) := by decide +kernel
theorem dX7_told_119 : decode cX7_told 119 = .ok (.ireturn, 1) := by decide +kernel
theorem dX7_told_120 : decode cX7_told 120 = .ok (.aload_n 0, 1) := by decide +kernel
theorem dX7_told_121 : decode cX7_told 121 = .ok (.getfield 7, 3) := by decide +kernel
theorem dX7_told_124 : decode cX7_told 124 = .ok (.iload_n 1, 1) := by decide +kernel
theorem dX7_told_125 : decode cX7_told 125 = .ok (.iaload, 1) := by decide +kernel
theorem dX7_told_126 : decode cX7_told 126 = .ok (.ireturn, 1) := by decide +kernel
theorem dX7_told_127 : decode cX7_told 127 = .ok (.aload_n 0, 1) := by decide +kernel
theorem dX7_told_128 : decode cX7_told 128 = .ok (.getfield 13, 3) := by decide +kernel
theorem dX7_told_131 : decode cX7_told 131 = .ok (.iload_n 1, 1) := by decide +kernel
theorem dX7_told_132 : decode cX7_told 132 = .ok (.iaload, 1) := by decide +kernel
theorem dX7_told_133 : decode cX7_told 133 = .ok (.ireturn, 1) := by decide +kernel
theorem dX7_told_134 : decode cX7_told 134 = .ok (.aload_n 0, 1) := by decide +kernel
theorem dX7_told_135 : decode cX7_told 135 = .ok (.getfield 16, 3) := by decide +kernel
theorem dX7_told_138 : decode cX7_told 138 = .ok (.iload_n 1, 1) := by decide +kernel
theorem dX7_told_139 : decode cX7_told 139 = .ok (.iaload, 1) := by decide +kernel
theorem dX7_told_140 : decode cX7_told 140 = .ok (.ireturn, 1) := by decide +kernel
theorem dX7_pairs_0 : decode cX7_pairs 0 = .ok (.iconst 0, 1) := by decide +kernel
theorem dX7_pairs_1 : decode cX7_pairs 1 = .ok (.istore_n 2, 1) := by decide +kernel
theorem dX7_pairs_2 : decode cX7_pairs 2 = .ok (.iconst 0, 1) := by decide +kernel
theorem dX7_pairs_3 : decode cX7_pairs 3 = .ok (.istore_n 3, 1) := by decide +kernel
theorem dX7_pairs_4 : decode cX7_pairs 4 = .ok (.iload_n 3, 1) := by decide +kernel
theorem dX7_pairs_5 : decode cX7_pairs 5 = .ok (.bipush 64, 2) := by decide +kernel
theorem dX7_pairs_7 : decode cX7_pairs 7 = .ok (.if_icmp .ge 31, 3) := by decide +kernel
theorem dX7_pairs_10 : decode cX7_pairs 10 = .ok (.iload_n 2, 1) := by decide +kernel
theorem dX7_pairs_11 : decode cX7_pairs 11 = .ok (.aload_n 0, 1) := by decide +kernel
theorem dX7_pairs_12 : decode cX7_pairs 12 = .ok (.getfield 38, 3) := by decide +kernel
theorem dX7_pairs_15 : decode cX7_pairs 15 = .ok (.bipush 64, 2) := by decide +kernel
theorem dX7_pairs_17 : decode cX7_pairs 17 = .ok (.iload_n 1, 1) := by decide +kernel
theorem dX7_pairs_18 : decode cX7_pairs 18 = .ok (.imul, 1) := by decide +kernel
theorem dX7_pairs_19 : decode cX7_pairs 19 = .ok (.iload_n 3, 1) := by decide +kernel
theorem dX7_pairs_20 : decode cX7_pairs 20 = .ok (.iadd, 1) := by decide +kernel
theorem dX7_pairs_21 : decode cX7_pairs 21 = .ok (.iaload, 1) := by decide +kernel
theorem dX7_pairs_22 : decode cX7_pairs 22 = .ok (.ifCond .le 7, 3) := by decide +kernel
theorem dX7_pairs_25 : decode cX7_pairs 25 = .ok (.iconst 1, 1) := by decide +kernel
theorem dX7_pairs_26 : decode cX7_pairs 26 = .ok (.goto 4, 3) := by decide +kernel
theorem dX7_pairs_29 : decode cX7_pairs 29 = .ok (.iconst 0, 1) := by decide +kernel
theorem dX7_pairs_30 : decode cX7_pairs 30 = .ok (.iadd, 1) := by decide +kernel
theorem dX7_pairs_31 : decode cX7_pairs 31 = .ok (.istore_n 2, 1) := by decide +kernel
theorem dX7_pairs_32 : decode cX7_pairs 32 = .ok (.iinc 3 1, 3) := by decide +kernel
theorem dX7_pairs_35 : decode cX7_pairs 35 = .ok (.goto (-31), 3) := by decide +kernel
theorem dX7_pairs_38 : decode cX7_pairs 38 = .ok (.iload_n 2, 1) := by decide +kernel
theorem dX7_pairs_39 : decode cX7_pairs 39 = .ok (.iconst 2, 1) := by decide +kernel
theorem dX7_pairs_40 : decode cX7_pairs 40 = .ok (.idiv, 1) := by decide +kernel
theorem dX7_pairs_41 : decode cX7_pairs 41 = .ok (.ireturn, 1) := by decide +kernel
theorem dX7_span_0 : decode cX7_span 0 = .ok (.aload_n 0, 1) := by decide +kernel
theorem dX7_span_1 : decode cX7_span 1 = .ok (.iload_n 1, 1) := by decide +kernel
theorem dX7_span_2 : decode cX7_span 2 = .ok (.iload_n 2, 1) := by decide +kernel
theorem dX7_span_3 : decode cX7_span 3 = .ok (.invokevirtual 76, 3) := by decide +kernel
theorem dX7_span_6 : decode cX7_span 6 = .ok (.ifCond .eq 12, 3) := by decide +kernel
theorem dX7_span_9 : decode cX7_span 9 = .ok (.iload_n 3, 1) := by decide +kernel
theorem dX7_span_10 : decode cX7_span 10 = .ok (.ifCond .lt 8, 3) := by decide +kernel
theorem dX7_span_13 : decode cX7_span 13 = .ok (.iload_n 3, 1) := by decide +kernel
theorem dX7_span_14 : decode cX7_span 14 = .ok (.iconst 1, 1) := by decide +kernel
theorem dX7_span_15 : decode cX7_span 15 = .ok (.if_icmp .le 5, 3) := by decide +kernel
theorem dX7_span_18 : decode cX7_span 18 = .ok (.iconst (-1), 1) := by decide +kernel
theorem dX7_span_19 : decode cX7_span 19 = .ok (.ireturn, 1) := by decide +kernel
theorem dX7_span_20 : decode cX7_span 20 = .ok (.aload_n 0, 1) := by decide +kernel
theorem dX7_span_21 : decode cX7_span 21 = .ok (.getfield 35, 3) := by decide +kernel
theorem dX7_span_24 : decode cX7_span 24 = .ok (.bipush 64, 2) := by decide +kernel
theorem dX7_span_26 : decode cX7_span 26 = .ok (.iload_n 1, 1) := by decide +kernel
theorem dX7_span_27 : decode cX7_span 27 = .ok (.imul, 1) := by decide +kernel
theorem dX7_span_28 : decode cX7_span 28 = .ok (.iload_n 2, 1) := by decide +kernel
theorem dX7_span_29 : decode cX7_span 29 = .ok (.iadd, 1) := by decide +kernel
theorem dX7_span_30 : decode cX7_span 30 = .ok (.iaload, 1) := by decide +kernel
theorem dX7_span_31 : decode cX7_span 31 = .ok (.iload_n 3, 1) := by decide +kernel
theorem dX7_span_32 : decode cX7_span 32 = .ok (.iconst 1, 1) := by decide +kernel
theorem dX7_span_33 : decode cX7_span 33 = .ok (.if_icmp .ne 12, 3) := by decide +kernel
theorem dX7_span_36 : decode cX7_span 36 = .ok (.aload_n 0, 1) := by decide +kernel
theorem dX7_span_37 : decode cX7_span 37 = .ok (.getfield 26, 3) := by decide +kernel
theorem dX7_span_40 : decode cX7_span 40 = .ok (.iload_n 1, 1) := by decide +kernel
theorem dX7_span_41 : decode cX7_span 41 = .ok (.iaload, 1) := by decide +kernel
theorem dX7_span_42 : decode cX7_span 42 = .ok (.goto 4, 3) := by decide +kernel
theorem dX7_span_45 : decode cX7_span 45 = .ok (.iconst 0, 1) := by decide +kernel
theorem dX7_span_46 : decode cX7_span 46 = .ok (.iadd, 1) := by decide +kernel
theorem dX7_span_47 : decode cX7_span 47 = .ok (.ireturn, 1) := by decide +kernel
theorem dX7_slot_0 : decode cX7_slot 0 = .ok (.iload_n 1, 1) := by decide +kernel
theorem dX7_slot_1 : decode cX7_slot 1 = .ok (.invokestatic 64, 3) := by decide +kernel
theorem dX7_slot_4 : decode cX7_slot 4 = .ok (.ifCond .eq 25, 3) := by decide +kernel
theorem dX7_slot_7 : decode cX7_slot 7 = .ok (.iload_n 3, 1) := by decide +kernel
theorem dX7_slot_8 : decode cX7_slot 8 = .ok (.ifCond .lt 21, 3) := by decide +kernel
theorem dX7_slot_11 : decode cX7_slot 11 = .ok (.iload_n 3, 1) := by decide +kernel
theorem dX7_slot_12 : decode cX7_slot 12 = .ok (.iconst 1, 1) := by decide +kernel
theorem dX7_slot_13 : decode cX7_slot 13 = .ok (.if_icmp .gt 16, 3) := by decide +kernel
theorem dX7_slot_16 : decode cX7_slot 16 = .ok (.iload_n 2, 1) := by decide +kernel
theorem dX7_slot_17 : decode cX7_slot 17 = .ok (.ifCond .lt 12, 3) := by decide +kernel
theorem dX7_slot_20 : decode cX7_slot 20 = .ok (.iload_n 2, 1) := by decide +kernel
theorem dX7_slot_21 : decode cX7_slot 21 = .ok (.aload_n 0, 1) := by decide +kernel
theorem dX7_slot_22 : decode cX7_slot 22 = .ok (.iload_n 1, 1) := by decide +kernel
theorem dX7_slot_23 : decode cX7_slot 23 = .ok (.invokevirtual 68, 3) := by decide +kernel
theorem dX7_slot_26 : decode cX7_slot 26 = .ok (.if_icmp .lt 5, 3) := by decide +kernel
theorem dX7_slot_29 : decode cX7_slot 29 = .ok (.iconst (-1), 1) := by decide +kernel
theorem dX7_slot_30 : decode cX7_slot 30 = .ok (.ireturn, 1) := by decide +kernel
theorem dX7_slot_31 : decode cX7_slot 31 = .ok (.aload_n 0, 1) := by decide +kernel
theorem dX7_slot_32 : decode cX7_slot 32 = .ok (.iload_n 1, 1) := by decide +kernel
theorem dX7_slot_33 : decode cX7_slot 33 = .ok (.iload_n 2, 1) := by decide +kernel
theorem dX7_slot_34 : decode cX7_slot 34 = .ok (.invokevirtual 109, 3) := by decide +kernel
theorem dX7_slot_37 : decode cX7_slot 37 = .ok (.istore 4, 2) := by decide +kernel
theorem dX7_slot_39 : decode cX7_slot 39 = .ok (.iload_n 3, 1) := by decide +kernel
theorem dX7_slot_40 : decode cX7_slot 40 = .ok (.ifCond .ne 8, 3) := by decide +kernel
theorem dX7_slot_43 : decode cX7_slot 43 = .ok (.iload 4, 2) := by decide +kernel
theorem dX7_slot_45 : decode cX7_slot 45 = .ok (.goto 15, 3) := by decide +kernel
theorem dX7_slot_48 : decode cX7_slot 48 = .ok (.aload_n 0, 1) := by decide +kernel
theorem dX7_slot_49 : decode cX7_slot 49 = .ok (.getfield 35, 3) := by decide +kernel
theorem dX7_slot_52 : decode cX7_slot 52 = .ok (.bipush 64, 2) := by decide +kernel
theorem dX7_slot_54 : decode cX7_slot 54 = .ok (.iload_n 1, 1) := by decide +kernel
theorem dX7_slot_55 : decode cX7_slot 55 = .ok (.imul, 1) := by decide +kernel
theorem dX7_slot_56 : decode cX7_slot 56 = .ok (.iload 4, 2) := by decide +kernel
theorem dX7_slot_58 : decode cX7_slot 58 = .ok (.iadd, 1) := by decide +kernel
theorem dX7_slot_59 : decode cX7_slot 59 = .ok (.iaload, 1) := by decide +kernel
theorem dX7_slot_60 : decode cX7_slot 60 = .ok (.ireturn, 1) := by decide +kernel
theorem dX7_join_0 : decode cX7_join 0 = .ok (.aload_n 0, 1) := by decide +kernel
theorem dX7_join_1 : decode cX7_join 1 = .ok (.getfield 7, 3) := by decide +kernel
theorem dX7_join_4 : decode cX7_join 4 = .ok (.iload_n 1, 1) := by decide +kernel
theorem dX7_join_5 : decode cX7_join 5 = .ok (.iaload, 1) := by decide +kernel
theorem dX7_join_6 : decode cX7_join 6 = .ok (.istore_n 3, 1) := by decide +kernel
theorem dX7_join_7 : decode cX7_join 7 = .ok (.iconst 0, 1) := by decide +kernel
theorem dX7_join_8 : decode cX7_join 8 = .ok (.istore 4, 2) := by decide +kernel
theorem dX7_join_10 : decode cX7_join 10 = .ok (.iload 4, 2) := by decide +kernel
theorem dX7_join_12 : decode cX7_join 12 = .ok (.bipush 64, 2) := by decide +kernel
theorem dX7_join_14 : decode cX7_join 14 = .ok (.if_icmp .ge 18, 3) := by decide +kernel
theorem dX7_join_17 : decode cX7_join 17 = .ok (.aload_n 0, 1) := by decide +kernel
theorem dX7_join_18 : decode cX7_join 18 = .ok (.getfield 54, 3) := by decide +kernel
theorem dX7_join_21 : decode cX7_join 21 = .ok (.iload 4, 2) := by decide +kernel
theorem dX7_join_23 : decode cX7_join 23 = .ok (.iload 4, 2) := by decide +kernel
theorem dX7_join_25 : decode cX7_join 25 = .ok (.iastore, 1) := by decide +kernel
theorem dX7_join_26 : decode cX7_join 26 = .ok (.iinc 4 1, 3) := by decide +kernel
theorem dX7_join_29 : decode cX7_join 29 = .ok (.goto (-19), 3) := by decide +kernel
theorem dX7_join_32 : decode cX7_join 32 = .ok (.iload_n 2, 1) := by decide +kernel
theorem dX7_join_33 : decode cX7_join 33 = .ok (.aload_n 0, 1) := by decide +kernel
theorem dX7_join_34 : decode cX7_join 34 = .ok (.getfield 23, 3) := by decide +kernel
theorem dX7_join_37 : decode cX7_join 37 = .ok (.iload_n 1, 1) := by decide +kernel
theorem dX7_join_38 : decode cX7_join 38 = .ok (.iaload, 1) := by decide +kernel
theorem dX7_join_39 : decode cX7_join 39 = .ok (.if_icmp .ge 14, 3) := by decide +kernel
theorem dX7_join_42 : decode cX7_join 42 = .ok (.aload_n 0, 1) := by decide +kernel
theorem dX7_join_43 : decode cX7_join 43 = .ok (.getfield 23, 3) := by decide +kernel
theorem dX7_join_46 : decode cX7_join 46 = .ok (.iload_n 1, 1) := by decide +kernel
theorem dX7_join_47 : decode cX7_join 47 = .ok (.iaload, 1) := by decide +kernel
theorem dX7_join_48 : decode cX7_join 48 = .ok (.iload_n 2, 1) := by decide +kernel
theorem dX7_join_49 : decode cX7_join 49 = .ok (.isub, 1) := by decide +kernel
theorem dX7_join_50 : decode cX7_join 50 = .ok (.goto 4, 3) := by decide +kernel
theorem dX7_join_53 : decode cX7_join 53 = .ok (.iconst 0, 1) := by decide +kernel
theorem dX7_join_54 : decode cX7_join 54 = .ok (.istore 4, 2) := by decide +kernel
theorem dX7_join_56 : decode cX7_join 56 = .ok (.aload_n 0, 1) := by decide +kernel
theorem dX7_join_57 : decode cX7_join 57 = .ok (.getfield 23, 3) := by decide +kernel
theorem dX7_join_60 : decode cX7_join 60 = .ok (.iload_n 1, 1) := by decide +kernel
theorem dX7_join_61 : decode cX7_join 61 = .ok (.iaload, 1) := by decide +kernel
theorem dX7_join_62 : decode cX7_join 62 = .ok (.iconst 1, 1) := by decide +kernel
theorem dX7_join_63 : decode cX7_join 63 = .ok (.isub, 1) := by decide +kernel
theorem dX7_join_64 : decode cX7_join 64 = .ok (.istore 5, 2) := by decide +kernel
theorem dX7_join_66 : decode cX7_join 66 = .ok (.iload 5, 2) := by decide +kernel
theorem dX7_join_68 : decode cX7_join 68 = .ok (.iload 4, 2) := by decide +kernel
theorem dX7_join_70 : decode cX7_join 70 = .ok (.if_icmp .lt 91, 3) := by decide +kernel
theorem dX7_join_73 : decode cX7_join 73 = .ok (.aload_n 0, 1) := by decide +kernel
theorem dX7_join_74 : decode cX7_join 74 = .ok (.getfield 54, 3) := by decide +kernel
theorem dX7_join_77 : decode cX7_join 77 = .ok (.aload_n 0, 1) := by decide +kernel
theorem dX7_join_78 : decode cX7_join 78 = .ok (.getfield 29, 3) := by decide +kernel
theorem dX7_join_81 : decode cX7_join 81 = .ok (.sipush 4200, 3) := by decide +kernel
theorem dX7_join_84 : decode cX7_join 84 = .ok (.iload_n 1, 1) := by decide +kernel
theorem dX7_join_85 : decode cX7_join 85 = .ok (.imul, 1) := by decide +kernel
theorem dX7_join_86 : decode cX7_join 86 = .ok (.iload 5, 2) := by decide +kernel
theorem dX7_join_88 : decode cX7_join 88 = .ok (.iadd, 1) := by decide +kernel
theorem dX7_join_89 : decode cX7_join 89 = .ok (.iaload, 1) := by decide +kernel
theorem dX7_join_90 : decode cX7_join 90 = .ok (.iaload, 1) := by decide +kernel
theorem dX7_join_91 : decode cX7_join 91 = .ok (.istore 6, 2) := by decide +kernel
theorem dX7_join_93 : decode cX7_join 93 = .ok (.aload_n 0, 1) := by decide +kernel
theorem dX7_join_94 : decode cX7_join 94 = .ok (.getfield 54, 3) := by decide +kernel
theorem dX7_join_97 : decode cX7_join 97 = .ok (.aload_n 0, 1) := by decide +kernel
theorem dX7_join_98 : decode cX7_join 98 = .ok (.getfield 32, 3) := by decide +kernel
theorem dX7_join_101 : decode cX7_join 101 = .ok (.sipush 4200, 3) := by decide +kernel
theorem dX7_join_104 : decode cX7_join 104 = .ok (.iload_n 1, 1) := by decide +kernel
theorem dX7_join_105 : decode cX7_join 105 = .ok (.imul, 1) := by decide +kernel
theorem dX7_join_106 : decode cX7_join 106 = .ok (.iload 5, 2) := by decide +kernel
theorem dX7_join_108 : decode cX7_join 108 = .ok (.iadd, 1) := by decide +kernel
theorem dX7_join_109 : decode cX7_join 109 = .ok (.iaload, 1) := by decide +kernel
theorem dX7_join_110 : decode cX7_join 110 = .ok (.iaload, 1) := by decide +kernel
theorem dX7_join_111 : decode cX7_join 111 = .ok (.istore 7, 2) := by decide +kernel
theorem dX7_join_113 : decode cX7_join 113 = .ok (.aload_n 0, 1) := by decide +kernel
theorem dX7_join_114 : decode cX7_join 114 = .ok (.getfield 57, 3) := by decide +kernel
theorem dX7_join_117 : decode cX7_join 117 = .ok (.iload 5, 2) := by decide +kernel
theorem dX7_join_119 : decode cX7_join 119 = .ok (.iload 6, 2) := by decide +kernel
theorem dX7_join_121 : decode cX7_join 121 = .ok (.iload 7, 2) := by decide +kernel
theorem dX7_join_123 : decode cX7_join 123 = .ok (.if_icmp .eq 7, 3) := by decide +kernel
theorem dX7_join_126 : decode cX7_join 126 = .ok (.iconst 1, 1) := by decide +kernel
theorem dX7_join_127 : decode cX7_join 127 = .ok (.goto 4, 3) := by decide +kernel
theorem dX7_join_130 : decode cX7_join 130 = .ok (.iconst 0, 1) := by decide +kernel
theorem dX7_join_131 : decode cX7_join 131 = .ok (.bastore, 1) := by decide +kernel
theorem dX7_join_132 : decode cX7_join 132 = .ok (.iload_n 3, 1) := by decide +kernel
theorem dX7_join_133 : decode cX7_join 133 = .ok (.iload 6, 2) := by decide +kernel
theorem dX7_join_135 : decode cX7_join 135 = .ok (.iload 7, 2) := by decide +kernel
theorem dX7_join_137 : decode cX7_join 137 = .ok (.if_icmp .eq 7, 3) := by decide +kernel
theorem dX7_join_140 : decode cX7_join 140 = .ok (.iconst 1, 1) := by decide +kernel
theorem dX7_join_141 : decode cX7_join 141 = .ok (.goto 4, 3) := by decide +kernel
theorem dX7_join_144 : decode cX7_join 144 = .ok (.iconst 0, 1) := by decide +kernel
theorem dX7_join_145 : decode cX7_join 145 = .ok (.isub, 1) := by decide +kernel
theorem dX7_join_146 : decode cX7_join 146 = .ok (.istore_n 3, 1) := by decide +kernel
theorem dX7_join_147 : decode cX7_join 147 = .ok (.aload_n 0, 1) := by decide +kernel
theorem dX7_join_148 : decode cX7_join 148 = .ok (.iload 6, 2) := by decide +kernel
theorem dX7_join_150 : decode cX7_join 150 = .ok (.iload 7, 2) := by decide +kernel
theorem dX7_join_152 : decode cX7_join 152 = .ok (.invokevirtual 121, 3) := by decide +kernel
theorem dX7_join_155 : decode cX7_join 155 = .ok (.iinc 5 (-1), 3) := by decide +kernel
theorem dX7_join_158 : decode cX7_join 158 = .ok (.goto (-92), 3) := by decide +kernel
theorem dX7_join_161 : decode cX7_join 161 = .ok (.iload_n 3, 1) := by decide +kernel
theorem dX7_join_162 : decode cX7_join 162 = .ok (.ireturn, 1) := by decide +kernel
theorem dX7_unite_0 : decode cX7_unite 0 = .ok (.iload_n 1, 1) := by decide +kernel
theorem dX7_unite_1 : decode cX7_unite 1 = .ok (.iload_n 2, 1) := by decide +kernel
theorem dX7_unite_2 : decode cX7_unite 2 = .ok (.if_icmp .ge 7, 3) := by decide +kernel
theorem dX7_unite_5 : decode cX7_unite 5 = .ok (.iload_n 1, 1) := by decide +kernel
theorem dX7_unite_6 : decode cX7_unite 6 = .ok (.goto 4, 3) := by decide +kernel
theorem dX7_unite_9 : decode cX7_unite 9 = .ok (.iload_n 2, 1) := by decide +kernel
theorem dX7_unite_10 : decode cX7_unite 10 = .ok (.istore_n 3, 1) := by decide +kernel
theorem dX7_unite_11 : decode cX7_unite 11 = .ok (.iconst 0, 1) := by decide +kernel
theorem dX7_unite_12 : decode cX7_unite 12 = .ok (.istore 4, 2) := by decide +kernel
theorem dX7_unite_14 : decode cX7_unite 14 = .ok (.iload 4, 2) := by decide +kernel
theorem dX7_unite_16 : decode cX7_unite 16 = .ok (.bipush 64, 2) := by decide +kernel
theorem dX7_unite_18 : decode cX7_unite 18 = .ok (.if_icmp .ge 49, 3) := by decide +kernel
theorem dX7_unite_21 : decode cX7_unite 21 = .ok (.aload_n 0, 1) := by decide +kernel
theorem dX7_unite_22 : decode cX7_unite 22 = .ok (.getfield 54, 3) := by decide +kernel
theorem dX7_unite_25 : decode cX7_unite 25 = .ok (.iload 4, 2) := by decide +kernel
theorem dX7_unite_27 : decode cX7_unite 27 = .ok (.aload_n 0, 1) := by decide +kernel
theorem dX7_unite_28 : decode cX7_unite 28 = .ok (.getfield 54, 3) := by decide +kernel
theorem dX7_unite_31 : decode cX7_unite 31 = .ok (.iload 4, 2) := by decide +kernel
theorem dX7_unite_33 : decode cX7_unite 33 = .ok (.iaload, 1) := by decide +kernel
theorem dX7_unite_34 : decode cX7_unite 34 = .ok (.iload_n 1, 1) := by decide +kernel
theorem dX7_unite_35 : decode cX7_unite 35 = .ok (.if_icmp .eq 14, 3) := by decide +kernel
theorem dX7_unite_38 : decode cX7_unite 38 = .ok (.aload_n 0, 1) := by decide +kernel
theorem dX7_unite_39 : decode cX7_unite 39 = .ok (.getfield 54, 3) := by decide +kernel
theorem dX7_unite_42 : decode cX7_unite 42 = .ok (.iload 4, 2) := by decide +kernel
theorem dX7_unite_44 : decode cX7_unite 44 = .ok (.iaload, 1) := by decide +kernel
theorem dX7_unite_45 : decode cX7_unite 45 = .ok (.iload_n 2, 1) := by decide +kernel
theorem dX7_unite_46 : decode cX7_unite 46 = .ok (.if_icmp .ne 7, 3) := by decide +kernel
theorem dX7_unite_49 : decode cX7_unite 49 = .ok (.iload_n 3, 1) := by decide +kernel
theorem dX7_unite_50 : decode cX7_unite 50 = .ok (.goto 10, 3) := by decide +kernel
theorem dX7_unite_53 : decode cX7_unite 53 = .ok (.aload_n 0, 1) := by decide +kernel
theorem dX7_unite_54 : decode cX7_unite 54 = .ok (.getfield 54, 3) := by decide +kernel
theorem dX7_unite_57 : decode cX7_unite 57 = .ok (.iload 4, 2) := by decide +kernel
theorem dX7_unite_59 : decode cX7_unite 59 = .ok (.iaload, 1) := by decide +kernel
theorem dX7_unite_60 : decode cX7_unite 60 = .ok (.iastore, 1) := by decide +kernel
theorem dX7_unite_61 : decode cX7_unite 61 = .ok (.iinc 4 1, 3) := by decide +kernel
theorem dX7_unite_64 : decode cX7_unite 64 = .ok (.goto (-50), 3) := by decide +kernel
theorem dX7_unite_67 : decode cX7_unite 67 = .ok (.return_, 1) := by decide +kernel
theorem dX7_parts_0 : decode cX7_parts 0 = .ok (.iload_n 1, 1) := by decide +kernel
theorem dX7_parts_1 : decode cX7_parts 1 = .ok (.invokestatic 64, 3) := by decide +kernel
theorem dX7_parts_4 : decode cX7_parts 4 = .ok (.ifCond .eq 7, 3) := by decide +kernel
theorem dX7_parts_7 : decode cX7_parts 7 = .ok (.iload_n 2, 1) := by decide +kernel
theorem dX7_parts_8 : decode cX7_parts 8 = .ok (.ifCond .ge 7, 3) := by decide +kernel
theorem dX7_parts_11 : decode cX7_parts 11 = .ok (.iconst (-1), 1) := by decide +kernel
theorem dX7_parts_12 : decode cX7_parts 12 = .ok (.goto 9, 3) := by decide +kernel
theorem dX7_parts_15 : decode cX7_parts 15 = .ok (.aload_n 0, 1) := by decide +kernel
theorem dX7_parts_16 : decode cX7_parts 16 = .ok (.iload_n 1, 1) := by decide +kernel
theorem dX7_parts_17 : decode cX7_parts 17 = .ok (.iload_n 2, 1) := by decide +kernel
theorem dX7_parts_18 : decode cX7_parts 18 = .ok (.invokevirtual 115, 3) := by decide +kernel
theorem dX7_parts_21 : decode cX7_parts 21 = .ok (.ireturn, 1) := by decide +kernel
theorem dX7_part_0 : decode cX7_part 0 = .ok (.aload_n 0, 1) := by decide +kernel
theorem dX7_part_1 : decode cX7_part 1 = .ok (.iload_n 1, 1) := by decide +kernel
theorem dX7_part_2 : decode cX7_part 2 = .ok (.iload_n 3, 1) := by decide +kernel
theorem dX7_part_3 : decode cX7_part 3 = .ok (.invokevirtual 76, 3) := by decide +kernel
theorem dX7_part_6 : decode cX7_part 6 = .ok (.ifCond .eq 7, 3) := by decide +kernel
theorem dX7_part_9 : decode cX7_part 9 = .ok (.iload_n 2, 1) := by decide +kernel
theorem dX7_part_10 : decode cX7_part 10 = .ok (.ifCond .ge 5, 3) := by decide +kernel
theorem dX7_part_13 : decode cX7_part 13 = .ok (.iconst (-1), 1) := by decide +kernel
theorem dX7_part_14 : decode cX7_part 14 = .ok (.ireturn, 1) := by decide +kernel
theorem dX7_part_15 : decode cX7_part 15 = .ok (.aload_n 0, 1) := by decide +kernel
theorem dX7_part_16 : decode cX7_part 16 = .ok (.iload_n 1, 1) := by decide +kernel
theorem dX7_part_17 : decode cX7_part 17 = .ok (.iload_n 2, 1) := by decide +kernel
theorem dX7_part_18 : decode cX7_part 18 = .ok (.invokevirtual 115, 3) := by decide +kernel
theorem dX7_part_21 : decode cX7_part 21 = .ok (.istore 4, 2) := by decide +kernel
theorem dX7_part_23 : decode cX7_part 23 = .ok (.aload_n 0, 1) := by decide +kernel
theorem dX7_part_24 : decode cX7_part 24 = .ok (.getfield 54, 3) := by decide +kernel
theorem dX7_part_27 : decode cX7_part 27 = .ok (.iload_n 3, 1) := by decide +kernel
theorem dX7_part_28 : decode cX7_part 28 = .ok (.iaload, 1) := by decide +kernel
theorem dX7_part_29 : decode cX7_part 29 = .ok (.ireturn, 1) := by decide +kernel
theorem dX7_tree_0 : decode cX7_tree 0 = .ok (.iload_n 1, 1) := by decide +kernel
theorem dX7_tree_1 : decode cX7_tree 1 = .ok (.invokestatic 64, 3) := by decide +kernel
theorem dX7_tree_4 : decode cX7_tree 4 = .ok (.ifCond .eq 16, 3) := by decide +kernel
theorem dX7_tree_7 : decode cX7_tree 7 = .ok (.iload_n 3, 1) := by decide +kernel
theorem dX7_tree_8 : decode cX7_tree 8 = .ok (.ifCond .lt 12, 3) := by decide +kernel
theorem dX7_tree_11 : decode cX7_tree 11 = .ok (.iload_n 3, 1) := by decide +kernel
theorem dX7_tree_12 : decode cX7_tree 12 = .ok (.iconst 2, 1) := by decide +kernel
theorem dX7_tree_13 : decode cX7_tree 13 = .ok (.if_icmp .gt 7, 3) := by decide +kernel
theorem dX7_tree_16 : decode cX7_tree 16 = .ok (.iload_n 2, 1) := by decide +kernel
theorem dX7_tree_17 : decode cX7_tree 17 = .ok (.ifCond .ge 5, 3) := by decide +kernel
theorem dX7_tree_20 : decode cX7_tree 20 = .ok (.iconst (-1), 1) := by decide +kernel
theorem dX7_tree_21 : decode cX7_tree 21 = .ok (.ireturn, 1) := by decide +kernel
theorem dX7_tree_22 : decode cX7_tree 22 = .ok (.aload_n 0, 1) := by decide +kernel
theorem dX7_tree_23 : decode cX7_tree 23 = .ok (.iload_n 1, 1) := by decide +kernel
theorem dX7_tree_24 : decode cX7_tree 24 = .ok (.aload_n 0, 1) := by decide +kernel
theorem dX7_tree_25 : decode cX7_tree 25 = .ok (.getfield 23, 3) := by decide +kernel
theorem dX7_tree_28 : decode cX7_tree 28 = .ok (.iload_n 1, 1) := by decide +kernel
theorem dX7_tree_29 : decode cX7_tree 29 = .ok (.iaload, 1) := by decide +kernel
theorem dX7_tree_30 : decode cX7_tree 30 = .ok (.invokevirtual 115, 3) := by decide +kernel
theorem dX7_tree_33 : decode cX7_tree 33 = .ok (.istore 4, 2) := by decide +kernel
theorem dX7_tree_35 : decode cX7_tree 35 = .ok (.iconst 0, 1) := by decide +kernel
theorem dX7_tree_36 : decode cX7_tree 36 = .ok (.istore 5, 2) := by decide +kernel
theorem dX7_tree_38 : decode cX7_tree 38 = .ok (.iconst 0, 1) := by decide +kernel
theorem dX7_tree_39 : decode cX7_tree 39 = .ok (.istore 6, 2) := by decide +kernel
theorem dX7_tree_41 : decode cX7_tree 41 = .ok (.iload 6, 2) := by decide +kernel
theorem dX7_tree_43 : decode cX7_tree 43 = .ok (.aload_n 0, 1) := by decide +kernel
theorem dX7_tree_44 : decode cX7_tree 44 = .ok (.getfield 23, 3) := by decide +kernel
theorem dX7_tree_47 : decode cX7_tree 47 = .ok (.iload_n 1, 1) := by decide +kernel
theorem dX7_tree_48 : decode cX7_tree 48 = .ok (.iaload, 1) := by decide +kernel
theorem dX7_tree_49 : decode cX7_tree 49 = .ok (.if_icmp .ge 74, 3) := by decide +kernel
theorem dX7_tree_52 : decode cX7_tree 52 = .ok (.aload_n 0, 1) := by decide +kernel
theorem dX7_tree_53 : decode cX7_tree 53 = .ok (.getfield 57, 3) := by decide +kernel
theorem dX7_tree_56 : decode cX7_tree 56 = .ok (.iload 6, 2) := by decide +kernel
theorem dX7_tree_58 : decode cX7_tree 58 = .ok (.baload, 1) := by decide +kernel
theorem dX7_tree_59 : decode cX7_tree 59 = .ok (.ifCond .eq 58, 3) := by decide +kernel
theorem dX7_tree_62 : decode cX7_tree 62 = .ok (.iload 5, 2) := by decide +kernel
theorem dX7_tree_64 : decode cX7_tree 64 = .ok (.iload_n 2, 1) := by decide +kernel
theorem dX7_tree_65 : decode cX7_tree 65 = .ok (.if_icmp .ne 49, 3) := by decide +kernel
theorem dX7_tree_68 : decode cX7_tree 68 = .ok (.iload_n 3, 1) := by decide +kernel
theorem dX7_tree_69 : decode cX7_tree 69 = .ok (.ifCond .ne 10, 3) := by decide +kernel
theorem dX7_tree_72 : decode cX7_tree 72 = .ok (.iload 6, 2) := by decide +kernel
theorem dX7_tree_74 : decode cX7_tree 74 = .ok (.iconst 1, 1) := by decide +kernel
theorem dX7_tree_75 : decode cX7_tree 75 = .ok (.iadd, 1) := by decide +kernel
theorem dX7_tree_76 : decode cX7_tree 76 = .ok (.goto 37, 3) := by decide +kernel
theorem dX7_tree_79 : decode cX7_tree 79 = .ok (.iload_n 3, 1) := by decide +kernel
theorem dX7_tree_80 : decode cX7_tree 80 = .ok (.iconst 1, 1) := by decide +kernel
theorem dX7_tree_81 : decode cX7_tree 81 = .ok (.if_icmp .ne 19, 3) := by decide +kernel
theorem dX7_tree_84 : decode cX7_tree 84 = .ok (.aload_n 0, 1) := by decide +kernel
theorem dX7_tree_85 : decode cX7_tree 85 = .ok (.getfield 29, 3) := by decide +kernel
theorem dX7_tree_88 : decode cX7_tree 88 = .ok (.sipush 4200, 3) := by decide +kernel
theorem dX7_tree_91 : decode cX7_tree 91 = .ok (.iload_n 1, 1) := by decide +kernel
theorem dX7_tree_92 : decode cX7_tree 92 = .ok (.imul, 1) := by decide +kernel
theorem dX7_tree_93 : decode cX7_tree 93 = .ok (.iload 6, 2) := by decide +kernel
theorem dX7_tree_95 : decode cX7_tree 95 = .ok (.iadd, 1) := by decide +kernel
theorem dX7_tree_96 : decode cX7_tree 96 = .ok (.iaload, 1) := by decide +kernel
theorem dX7_tree_97 : decode cX7_tree 97 = .ok (.goto 16, 3) := by decide +kernel
theorem dX7_tree_100 : decode cX7_tree 100 = .ok (.aload_n 0, 1) := by decide +kernel
theorem dX7_tree_101 : decode cX7_tree 101 = .ok (.getfield 32, 3) := by decide +kernel
theorem dX7_tree_104 : decode cX7_tree 104 = .ok (.sipush 4200, 3) := by decide +kernel
theorem dX7_tree_107 : decode cX7_tree 107 = .ok (.iload_n 1, 1) := by decide +kernel
theorem dX7_tree_108 : decode cX7_tree 108 = .ok (.imul, 1) := by decide +kernel
theorem dX7_tree_109 : decode cX7_tree 109 = .ok (.iload 6, 2) := by decide +kernel
theorem dX7_tree_111 : decode cX7_tree 111 = .ok (.iadd, 1) := by decide +kernel
theorem dX7_tree_112 : decode cX7_tree 112 = .ok (.iaload, 1) := by decide +kernel
theorem dX7_tree_113 : decode cX7_tree 113 = .ok (.ireturn, 1) := by decide +kernel
theorem dX7_tree_114 : decode cX7_tree 114 = .ok (.iinc 5 1, 3) := by decide +kernel
theorem dX7_tree_117 : decode cX7_tree 117 = .ok (.iinc 6 1, 3) := by decide +kernel
theorem dX7_tree_120 : decode cX7_tree 120 = .ok (.goto (-79), 3) := by decide +kernel
theorem dX7_tree_123 : decode cX7_tree 123 = .ok (.iconst (-1), 1) := by decide +kernel
theorem dX7_tree_124 : decode cX7_tree 124 = .ok (.ireturn, 1) := by decide +kernel
theorem dX7_since_0 : decode cX7_since 0 = .ok (.aload_n 0, 1) := by decide +kernel
theorem dX7_since_1 : decode cX7_since 1 = .ok (.iload_n 1, 1) := by decide +kernel
theorem dX7_since_2 : decode cX7_since 2 = .ok (.iload_n 2, 1) := by decide +kernel
theorem dX7_since_3 : decode cX7_since 3 = .ok (.invokevirtual 76, 3) := by decide +kernel
theorem dX7_since_6 : decode cX7_since 6 = .ok (.ifCond .eq 12, 3) := by decide +kernel
theorem dX7_since_9 : decode cX7_since 9 = .ok (.aload_n 0, 1) := by decide +kernel
theorem dX7_since_10 : decode cX7_since 10 = .ok (.iload_n 1, 1) := by decide +kernel
theorem dX7_since_11 : decode cX7_since 11 = .ok (.iload_n 3, 1) := by decide +kernel
theorem dX7_since_12 : decode cX7_since 12 = .ok (.invokevirtual 76, 3) := by decide +kernel
theorem dX7_since_15 : decode cX7_since 15 = .ok (.ifCond .ne 5, 3) := by decide +kernel
theorem dX7_since_18 : decode cX7_since 18 = .ok (.iconst (-1), 1) := by decide +kernel
theorem dX7_since_19 : decode cX7_since 19 = .ok (.ireturn, 1) := by decide +kernel
theorem dX7_since_20 : decode cX7_since 20 = .ok (.aload_n 0, 1) := by decide +kernel
theorem dX7_since_21 : decode cX7_since 21 = .ok (.iload_n 1, 1) := by decide +kernel
theorem dX7_since_22 : decode cX7_since 22 = .ok (.aload_n 0, 1) := by decide +kernel
theorem dX7_since_23 : decode cX7_since 23 = .ok (.getfield 23, 3) := by decide +kernel
theorem dX7_since_26 : decode cX7_since 26 = .ok (.iload_n 1, 1) := by decide +kernel
theorem dX7_since_27 : decode cX7_since 27 = .ok (.iaload, 1) := by decide +kernel
theorem dX7_since_28 : decode cX7_since 28 = .ok (.invokevirtual 115, 3) := by decide +kernel
theorem dX7_since_31 : decode cX7_since 31 = .ok (.istore 4, 2) := by decide +kernel
theorem dX7_since_33 : decode cX7_since 33 = .ok (.aload_n 0, 1) := by decide +kernel
theorem dX7_since_34 : decode cX7_since 34 = .ok (.getfield 54, 3) := by decide +kernel
theorem dX7_since_37 : decode cX7_since 37 = .ok (.iload_n 2, 1) := by decide +kernel
theorem dX7_since_38 : decode cX7_since 38 = .ok (.iaload, 1) := by decide +kernel
theorem dX7_since_39 : decode cX7_since 39 = .ok (.aload_n 0, 1) := by decide +kernel
theorem dX7_since_40 : decode cX7_since 40 = .ok (.getfield 54, 3) := by decide +kernel
theorem dX7_since_43 : decode cX7_since 43 = .ok (.iload_n 3, 1) := by decide +kernel
theorem dX7_since_44 : decode cX7_since 44 = .ok (.iaload, 1) := by decide +kernel
theorem dX7_since_45 : decode cX7_since 45 = .ok (.if_icmp .eq 6, 3) := by decide +kernel
theorem dX7_since_48 : decode cX7_since 48 = .ok (.bipush (-2), 2) := by decide +kernel
theorem dX7_since_50 : decode cX7_since 50 = .ok (.ireturn, 1) := by decide +kernel
theorem dX7_since_51 : decode cX7_since 51 = .ok (.iconst 0, 1) := by decide +kernel
theorem dX7_since_52 : decode cX7_since 52 = .ok (.istore 5, 2) := by decide +kernel
theorem dX7_since_54 : decode cX7_since 54 = .ok (.aload_n 0, 1) := by decide +kernel
theorem dX7_since_55 : decode cX7_since 55 = .ok (.getfield 23, 3) := by decide +kernel
theorem dX7_since_58 : decode cX7_since 58 = .ok (.iload_n 1, 1) := by decide +kernel
theorem dX7_since_59 : decode cX7_since 59 = .ok (.iaload, 1) := by decide +kernel
theorem dX7_since_60 : decode cX7_since 60 = .ok (.istore 6, 2) := by decide +kernel
theorem dX7_since_62 : decode cX7_since 62 = .ok (.iload 5, 2) := by decide +kernel
theorem dX7_since_64 : decode cX7_since 64 = .ok (.iload 6, 2) := by decide +kernel
theorem dX7_since_66 : decode cX7_since 66 = .ok (.if_icmp .ge 76, 3) := by decide +kernel
theorem dX7_since_69 : decode cX7_since 69 = .ok (.iload 5, 2) := by decide +kernel
theorem dX7_since_71 : decode cX7_since 71 = .ok (.iload 6, 2) := by decide +kernel
theorem dX7_since_73 : decode cX7_since 73 = .ok (.iadd, 1) := by decide +kernel
theorem dX7_since_74 : decode cX7_since 74 = .ok (.iconst 2, 1) := by decide +kernel
theorem dX7_since_75 : decode cX7_since 75 = .ok (.idiv, 1) := by decide +kernel
theorem dX7_since_76 : decode cX7_since 76 = .ok (.istore 7, 2) := by decide +kernel
theorem dX7_since_78 : decode cX7_since 78 = .ok (.aload_n 0, 1) := by decide +kernel
theorem dX7_since_79 : decode cX7_since 79 = .ok (.iload_n 1, 1) := by decide +kernel
theorem dX7_since_80 : decode cX7_since 80 = .ok (.iload 7, 2) := by decide +kernel
theorem dX7_since_82 : decode cX7_since 82 = .ok (.invokevirtual 115, 3) := by decide +kernel
theorem dX7_since_85 : decode cX7_since 85 = .ok (.istore 8, 2) := by decide +kernel
theorem dX7_since_87 : decode cX7_since 87 = .ok (.aload_n 0, 1) := by decide +kernel
theorem dX7_since_88 : decode cX7_since 88 = .ok (.getfield 54, 3) := by decide +kernel
theorem dX7_since_91 : decode cX7_since 91 = .ok (.iload_n 2, 1) := by decide +kernel
theorem dX7_since_92 : decode cX7_since 92 = .ok (.iaload, 1) := by decide +kernel
theorem dX7_since_93 : decode cX7_since 93 = .ok (.aload_n 0, 1) := by decide +kernel
theorem dX7_since_94 : decode cX7_since 94 = .ok (.getfield 54, 3) := by decide +kernel
theorem dX7_since_97 : decode cX7_since 97 = .ok (.iload_n 3, 1) := by decide +kernel
theorem dX7_since_98 : decode cX7_since 98 = .ok (.iaload, 1) := by decide +kernel
theorem dX7_since_99 : decode cX7_since 99 = .ok (.if_icmp .ne 7, 3) := by decide +kernel
theorem dX7_since_102 : decode cX7_since 102 = .ok (.iconst 1, 1) := by decide +kernel
theorem dX7_since_103 : decode cX7_since 103 = .ok (.goto 4, 3) := by decide +kernel
theorem dX7_since_106 : decode cX7_since 106 = .ok (.iconst 0, 1) := by decide +kernel
theorem dX7_since_107 : decode cX7_since 107 = .ok (.istore 9, 2) := by decide +kernel
theorem dX7_since_109 : decode cX7_since 109 = .ok (.iload 9, 2) := by decide +kernel
theorem dX7_since_111 : decode cX7_since 111 = .ok (.ifCond .eq 8, 3) := by decide +kernel
theorem dX7_since_114 : decode cX7_since 114 = .ok (.iload 7, 2) := by decide +kernel
theorem dX7_since_116 : decode cX7_since 116 = .ok (.goto 5, 3) := by decide +kernel
theorem dX7_since_119 : decode cX7_since 119 = .ok (.iload 6, 2) := by decide +kernel
theorem dX7_since_121 : decode cX7_since 121 = .ok (.istore 6, 2) := by decide +kernel
theorem dX7_since_123 : decode cX7_since 123 = .ok (.iload 9, 2) := by decide +kernel
theorem dX7_since_125 : decode cX7_since 125 = .ok (.ifCond .eq 8, 3) := by decide +kernel
theorem dX7_since_128 : decode cX7_since 128 = .ok (.iload 5, 2) := by decide +kernel
theorem dX7_since_130 : decode cX7_since 130 = .ok (.goto 7, 3) := by decide +kernel
theorem dX7_since_133 : decode cX7_since 133 = .ok (.iload 7, 2) := by decide +kernel
theorem dX7_since_135 : decode cX7_since 135 = .ok (.iconst 1, 1) := by decide +kernel
theorem dX7_since_136 : decode cX7_since 136 = .ok (.iadd, 1) := by decide +kernel
theorem dX7_since_137 : decode cX7_since 137 = .ok (.istore 5, 2) := by decide +kernel
theorem dX7_since_139 : decode cX7_since 139 = .ok (.goto (-77), 3) := by decide +kernel
theorem dX7_since_142 : decode cX7_since 142 = .ok (.iload 5, 2) := by decide +kernel
theorem dX7_since_144 : decode cX7_since 144 = .ok (.ireturn, 1) := by decide +kernel
theorem dX7_shortest_0 : decode cX7_shortest 0 = .ok (.iconst 0, 1) := by decide +kernel
theorem dX7_shortest_1 : decode cX7_shortest 1 = .ok (.istore 4, 2) := by decide +kernel
theorem dX7_shortest_3 : decode cX7_shortest 3 = .ok (.iload 4, 2) := by decide +kernel
theorem dX7_shortest_5 : decode cX7_shortest 5 = .ok (.bipush 64, 2) := by decide +kernel
theorem dX7_shortest_7 : decode cX7_shortest 7 = .ok (.if_icmp .ge 27, 3) := by decide +kernel
theorem dX7_shortest_10 : decode cX7_shortest 10 = .ok (.aload_n 0, 1) := by decide +kernel
theorem dX7_shortest_11 : decode cX7_shortest 11 = .ok (.getfield 61, 3) := by decide +kernel
theorem dX7_shortest_14 : decode cX7_shortest 14 = .ok (.iload 4, 2) := by decide +kernel
theorem dX7_shortest_16 : decode cX7_shortest 16 = .ok (.iload 4, 2) := by decide +kernel
theorem dX7_shortest_18 : decode cX7_shortest 18 = .ok (.iload_n 2, 1) := by decide +kernel
theorem dX7_shortest_19 : decode cX7_shortest 19 = .ok (.if_icmp .ne 7, 3) := by decide +kernel
theorem dX7_shortest_22 : decode cX7_shortest 22 = .ok (.iconst 0, 1) := by decide +kernel
theorem dX7_shortest_23 : decode cX7_shortest 23 = .ok (.goto 4, 3) := by decide +kernel
theorem dX7_shortest_26 : decode cX7_shortest 26 = .ok (.iconst (-1), 1) := by decide +kernel
theorem dX7_shortest_27 : decode cX7_shortest 27 = .ok (.iastore, 1) := by decide +kernel
theorem dX7_shortest_28 : decode cX7_shortest 28 = .ok (.iinc 4 1, 3) := by decide +kernel
theorem dX7_shortest_31 : decode cX7_shortest 31 = .ok (.goto (-28), 3) := by decide +kernel
theorem dX7_shortest_34 : decode cX7_shortest 34 = .ok (.iconst 0, 1) := by decide +kernel
theorem dX7_shortest_35 : decode cX7_shortest 35 = .ok (.istore 4, 2) := by decide +kernel
theorem dX7_shortest_37 : decode cX7_shortest 37 = .ok (.iload 4, 2) := by decide +kernel
theorem dX7_shortest_39 : decode cX7_shortest 39 = .ok (.bipush 64, 2) := by decide +kernel
theorem dX7_shortest_41 : decode cX7_shortest 41 = .ok (.if_icmp .ge 164, 3) := by decide +kernel
theorem dX7_shortest_44 : decode cX7_shortest 44 = .ok (.aload_n 0, 1) := by decide +kernel
theorem dX7_shortest_45 : decode cX7_shortest 45 = .ok (.getfield 61, 3) := by decide +kernel
theorem dX7_shortest_48 : decode cX7_shortest 48 = .ok (.iload_n 3, 1) := by decide +kernel
theorem dX7_shortest_49 : decode cX7_shortest 49 = .ok (.iaload, 1) := by decide +kernel
theorem dX7_shortest_50 : decode cX7_shortest 50 = .ok (.ifCond .ge 155, 3) := by decide +kernel
theorem dX7_shortest_53 : decode cX7_shortest 53 = .ok (.iconst 0, 1) := by decide +kernel
theorem dX7_shortest_54 : decode cX7_shortest 54 = .ok (.istore 5, 2) := by decide +kernel
theorem dX7_shortest_56 : decode cX7_shortest 56 = .ok (.iload 5, 2) := by decide +kernel
theorem dX7_shortest_58 : decode cX7_shortest 58 = .ok (.aload_n 0, 1) := by decide +kernel
theorem dX7_shortest_59 : decode cX7_shortest 59 = .ok (.getfield 47, 3) := by decide +kernel
theorem dX7_shortest_62 : decode cX7_shortest 62 = .ok (.iload_n 1, 1) := by decide +kernel
theorem dX7_shortest_63 : decode cX7_shortest 63 = .ok (.iaload, 1) := by decide +kernel
theorem dX7_shortest_64 : decode cX7_shortest 64 = .ok (.if_icmp .ge 135, 3) := by decide +kernel
theorem dX7_shortest_67 : decode cX7_shortest 67 = .ok (.aload_n 0, 1) := by decide +kernel
theorem dX7_shortest_68 : decode cX7_shortest 68 = .ok (.getfield 29, 3) := by decide +kernel
theorem dX7_shortest_71 : decode cX7_shortest 71 = .ok (.aload_n 0, 1) := by decide +kernel
theorem dX7_shortest_72 : decode cX7_shortest 72 = .ok (.getfield 44, 3) := by decide +kernel
theorem dX7_shortest_75 : decode cX7_shortest 75 = .ok (.sipush 4200, 3) := by decide +kernel
theorem dX7_shortest_78 : decode cX7_shortest 78 = .ok (.iload_n 1, 1) := by decide +kernel
theorem dX7_shortest_79 : decode cX7_shortest 79 = .ok (.imul, 1) := by decide +kernel
theorem dX7_shortest_80 : decode cX7_shortest 80 = .ok (.iload 5, 2) := by decide +kernel
theorem dX7_shortest_82 : decode cX7_shortest 82 = .ok (.iadd, 1) := by decide +kernel
theorem dX7_shortest_83 : decode cX7_shortest 83 = .ok (.iaload, 1) := by decide +kernel
theorem dX7_shortest_84 : decode cX7_shortest 84 = .ok (.iaload, 1) := by decide +kernel
theorem dX7_shortest_85 : decode cX7_shortest 85 = .ok (.istore 6, 2) := by decide +kernel
theorem dX7_shortest_87 : decode cX7_shortest 87 = .ok (.aload_n 0, 1) := by decide +kernel
theorem dX7_shortest_88 : decode cX7_shortest 88 = .ok (.getfield 32, 3) := by decide +kernel
theorem dX7_shortest_91 : decode cX7_shortest 91 = .ok (.aload_n 0, 1) := by decide +kernel
theorem dX7_shortest_92 : decode cX7_shortest 92 = .ok (.getfield 44, 3) := by decide +kernel
theorem dX7_shortest_95 : decode cX7_shortest 95 = .ok (.sipush 4200, 3) := by decide +kernel
theorem dX7_shortest_98 : decode cX7_shortest 98 = .ok (.iload_n 1, 1) := by decide +kernel
theorem dX7_shortest_99 : decode cX7_shortest 99 = .ok (.imul, 1) := by decide +kernel
theorem dX7_shortest_100 : decode cX7_shortest 100 = .ok (.iload 5, 2) := by decide +kernel
theorem dX7_shortest_102 : decode cX7_shortest 102 = .ok (.iadd, 1) := by decide +kernel
theorem dX7_shortest_103 : decode cX7_shortest 103 = .ok (.iaload, 1) := by decide +kernel
theorem dX7_shortest_104 : decode cX7_shortest 104 = .ok (.iaload, 1) := by decide +kernel
theorem dX7_shortest_105 : decode cX7_shortest 105 = .ok (.istore 7, 2) := by decide +kernel
theorem dX7_shortest_107 : decode cX7_shortest 107 = .ok (.aload_n 0, 1) := by decide +kernel
theorem dX7_shortest_108 : decode cX7_shortest 108 = .ok (.getfield 61, 3) := by decide +kernel
theorem dX7_shortest_111 : decode cX7_shortest 111 = .ok (.iload 7, 2) := by decide +kernel
theorem dX7_shortest_113 : decode cX7_shortest 113 = .ok (.aload_n 0, 1) := by decide +kernel
theorem dX7_shortest_114 : decode cX7_shortest 114 = .ok (.getfield 61, 3) := by decide +kernel
theorem dX7_shortest_117 : decode cX7_shortest 117 = .ok (.iload 6, 2) := by decide +kernel
theorem dX7_shortest_119 : decode cX7_shortest 119 = .ok (.iaload, 1) := by decide +kernel
theorem dX7_shortest_120 : decode cX7_shortest 120 = .ok (.iload 4, 2) := by decide +kernel
theorem dX7_shortest_122 : decode cX7_shortest 122 = .ok (.if_icmp .ne 20, 3) := by decide +kernel
theorem dX7_shortest_125 : decode cX7_shortest 125 = .ok (.aload_n 0, 1) := by decide +kernel
theorem dX7_shortest_126 : decode cX7_shortest 126 = .ok (.getfield 61, 3) := by decide +kernel
theorem dX7_shortest_129 : decode cX7_shortest 129 = .ok (.iload 7, 2) := by decide +kernel
theorem dX7_shortest_131 : decode cX7_shortest 131 = .ok (.iaload, 1) := by decide +kernel
theorem dX7_shortest_132 : decode cX7_shortest 132 = .ok (.ifCond .ge 10, 3) := by decide +kernel
theorem dX7_shortest_135 : decode cX7_shortest 135 = .ok (.iload 4, 2) := by decide +kernel
theorem dX7_shortest_137 : decode cX7_shortest 137 = .ok (.iconst 1, 1) := by decide +kernel
theorem dX7_shortest_138 : decode cX7_shortest 138 = .ok (.iadd, 1) := by decide +kernel
theorem dX7_shortest_139 : decode cX7_shortest 139 = .ok (.goto 10, 3) := by decide +kernel
theorem dX7_shortest_142 : decode cX7_shortest 142 = .ok (.aload_n 0, 1) := by decide +kernel
theorem dX7_shortest_143 : decode cX7_shortest 143 = .ok (.getfield 61, 3) := by decide +kernel
theorem dX7_shortest_146 : decode cX7_shortest 146 = .ok (.iload 7, 2) := by decide +kernel
theorem dX7_shortest_148 : decode cX7_shortest 148 = .ok (.iaload, 1) := by decide +kernel
theorem dX7_shortest_149 : decode cX7_shortest 149 = .ok (.iastore, 1) := by decide +kernel
theorem dX7_shortest_150 : decode cX7_shortest 150 = .ok (.aload_n 0, 1) := by decide +kernel
theorem dX7_shortest_151 : decode cX7_shortest 151 = .ok (.getfield 61, 3) := by decide +kernel
theorem dX7_shortest_154 : decode cX7_shortest 154 = .ok (.iload 6, 2) := by decide +kernel
theorem dX7_shortest_156 : decode cX7_shortest 156 = .ok (.aload_n 0, 1) := by decide +kernel
theorem dX7_shortest_157 : decode cX7_shortest 157 = .ok (.getfield 61, 3) := by decide +kernel
theorem dX7_shortest_160 : decode cX7_shortest 160 = .ok (.iload 7, 2) := by decide +kernel
theorem dX7_shortest_162 : decode cX7_shortest 162 = .ok (.iaload, 1) := by decide +kernel
theorem dX7_shortest_163 : decode cX7_shortest 163 = .ok (.iload 4, 2) := by decide +kernel
theorem dX7_shortest_165 : decode cX7_shortest 165 = .ok (.if_icmp .ne 20, 3) := by decide +kernel
theorem dX7_shortest_168 : decode cX7_shortest 168 = .ok (.aload_n 0, 1) := by decide +kernel
theorem dX7_shortest_169 : decode cX7_shortest 169 = .ok (.getfield 61, 3) := by decide +kernel
theorem dX7_shortest_172 : decode cX7_shortest 172 = .ok (.iload 6, 2) := by decide +kernel
theorem dX7_shortest_174 : decode cX7_shortest 174 = .ok (.iaload, 1) := by decide +kernel
theorem dX7_shortest_175 : decode cX7_shortest 175 = .ok (.ifCond .ge 10, 3) := by decide +kernel
theorem dX7_shortest_178 : decode cX7_shortest 178 = .ok (.iload 4, 2) := by decide +kernel
theorem dX7_shortest_180 : decode cX7_shortest 180 = .ok (.iconst 1, 1) := by decide +kernel
theorem dX7_shortest_181 : decode cX7_shortest 181 = .ok (.iadd, 1) := by decide +kernel
theorem dX7_shortest_182 : decode cX7_shortest 182 = .ok (.goto 10, 3) := by decide +kernel
theorem dX7_shortest_185 : decode cX7_shortest 185 = .ok (.aload_n 0, 1) := by decide +kernel
theorem dX7_shortest_186 : decode cX7_shortest 186 = .ok (.getfield 61, 3) := by decide +kernel
theorem dX7_shortest_189 : decode cX7_shortest 189 = .ok (.iload 6, 2) := by decide +kernel
theorem dX7_shortest_191 : decode cX7_shortest 191 = .ok (.iaload, 1) := by decide +kernel
theorem dX7_shortest_192 : decode cX7_shortest 192 = .ok (.iastore, 1) := by decide +kernel
theorem dX7_shortest_193 : decode cX7_shortest 193 = .ok (.iinc 5 1, 3) := by decide +kernel
theorem dX7_shortest_196 : decode cX7_shortest 196 = .ok (.goto (-140), 3) := by decide +kernel
theorem dX7_shortest_199 : decode cX7_shortest 199 = .ok (.iinc 4 1, 3) := by decide +kernel
theorem dX7_shortest_202 : decode cX7_shortest 202 = .ok (.goto (-165), 3) := by decide +kernel
theorem dX7_shortest_205 : decode cX7_shortest 205 = .ok (.aload_n 0, 1) := by decide +kernel
theorem dX7_shortest_206 : decode cX7_shortest 206 = .ok (.getfield 61, 3) := by decide +kernel
theorem dX7_shortest_209 : decode cX7_shortest 209 = .ok (.iload_n 3, 1) := by decide +kernel
theorem dX7_shortest_210 : decode cX7_shortest 210 = .ok (.iaload, 1) := by decide +kernel
theorem dX7_shortest_211 : decode cX7_shortest 211 = .ok (.ireturn, 1) := by decide +kernel
theorem dX7_far_0 : decode cX7_far 0 = .ok (.aload_n 0, 1) := by decide +kernel
theorem dX7_far_1 : decode cX7_far 1 = .ok (.iload_n 1, 1) := by decide +kernel
theorem dX7_far_2 : decode cX7_far 2 = .ok (.iload_n 2, 1) := by decide +kernel
theorem dX7_far_3 : decode cX7_far 3 = .ok (.invokevirtual 76, 3) := by decide +kernel
theorem dX7_far_6 : decode cX7_far 6 = .ok (.ifCond .eq 12, 3) := by decide +kernel
theorem dX7_far_9 : decode cX7_far 9 = .ok (.aload_n 0, 1) := by decide +kernel
theorem dX7_far_10 : decode cX7_far 10 = .ok (.iload_n 1, 1) := by decide +kernel
theorem dX7_far_11 : decode cX7_far 11 = .ok (.iload_n 3, 1) := by decide +kernel
theorem dX7_far_12 : decode cX7_far 12 = .ok (.invokevirtual 76, 3) := by decide +kernel
theorem dX7_far_15 : decode cX7_far 15 = .ok (.ifCond .ne 5, 3) := by decide +kernel
theorem dX7_far_18 : decode cX7_far 18 = .ok (.iconst (-1), 1) := by decide +kernel
theorem dX7_far_19 : decode cX7_far 19 = .ok (.ireturn, 1) := by decide +kernel
theorem dX7_far_20 : decode cX7_far 20 = .ok (.aload_n 0, 1) := by decide +kernel
theorem dX7_far_21 : decode cX7_far 21 = .ok (.iload_n 1, 1) := by decide +kernel
theorem dX7_far_22 : decode cX7_far 22 = .ok (.iload_n 2, 1) := by decide +kernel
theorem dX7_far_23 : decode cX7_far 23 = .ok (.iload_n 3, 1) := by decide +kernel
theorem dX7_far_24 : decode cX7_far 24 = .ok (.invokevirtual 83, 3) := by decide +kernel
theorem dX7_far_27 : decode cX7_far 27 = .ok (.istore 4, 2) := by decide +kernel
theorem dX7_far_29 : decode cX7_far 29 = .ok (.iload 4, 2) := by decide +kernel
theorem dX7_far_31 : decode cX7_far 31 = .ok (.ifCond .ge 8, 3) := by decide +kernel
theorem dX7_far_34 : decode cX7_far 34 = .ok (.bipush (-2), 2) := by decide +kernel
theorem dX7_far_36 : decode cX7_far 36 = .ok (.goto 5, 3) := by decide +kernel
theorem dX7_far_39 : decode cX7_far 39 = .ok (.iload 4, 2) := by decide +kernel
theorem dX7_far_41 : decode cX7_far 41 = .ok (.ireturn, 1) := by decide +kernel
theorem dX7_kept_0 : decode cX7_kept 0 = .ok (.iload_n 1, 1) := by decide +kernel
theorem dX7_kept_1 : decode cX7_kept 1 = .ok (.invokestatic 64, 3) := by decide +kernel
theorem dX7_kept_4 : decode cX7_kept 4 = .ok (.ifCond .eq 26, 3) := by decide +kernel
theorem dX7_kept_7 : decode cX7_kept 7 = .ok (.iload_n 3, 1) := by decide +kernel
theorem dX7_kept_8 : decode cX7_kept 8 = .ok (.ifCond .lt 22, 3) := by decide +kernel
theorem dX7_kept_11 : decode cX7_kept 11 = .ok (.iload_n 3, 1) := by decide +kernel
theorem dX7_kept_12 : decode cX7_kept 12 = .ok (.iconst 2, 1) := by decide +kernel
theorem dX7_kept_13 : decode cX7_kept 13 = .ok (.if_icmp .gt 17, 3) := by decide +kernel
theorem dX7_kept_16 : decode cX7_kept 16 = .ok (.iload_n 2, 1) := by decide +kernel
theorem dX7_kept_17 : decode cX7_kept 17 = .ok (.ifCond .lt 13, 3) := by decide +kernel
theorem dX7_kept_20 : decode cX7_kept 20 = .ok (.iload_n 2, 1) := by decide +kernel
theorem dX7_kept_21 : decode cX7_kept 21 = .ok (.aload_n 0, 1) := by decide +kernel
theorem dX7_kept_22 : decode cX7_kept 22 = .ok (.getfield 47, 3) := by decide +kernel
theorem dX7_kept_25 : decode cX7_kept 25 = .ok (.iload_n 1, 1) := by decide +kernel
theorem dX7_kept_26 : decode cX7_kept 26 = .ok (.iaload, 1) := by decide +kernel
theorem dX7_kept_27 : decode cX7_kept 27 = .ok (.if_icmp .lt 5, 3) := by decide +kernel
theorem dX7_kept_30 : decode cX7_kept 30 = .ok (.iconst (-1), 1) := by decide +kernel
theorem dX7_kept_31 : decode cX7_kept 31 = .ok (.ireturn, 1) := by decide +kernel
theorem dX7_kept_32 : decode cX7_kept 32 = .ok (.aload_n 0, 1) := by decide +kernel
theorem dX7_kept_33 : decode cX7_kept 33 = .ok (.getfield 44, 3) := by decide +kernel
theorem dX7_kept_36 : decode cX7_kept 36 = .ok (.sipush 4200, 3) := by decide +kernel
theorem dX7_kept_39 : decode cX7_kept 39 = .ok (.iload_n 1, 1) := by decide +kernel
theorem dX7_kept_40 : decode cX7_kept 40 = .ok (.imul, 1) := by decide +kernel
theorem dX7_kept_41 : decode cX7_kept 41 = .ok (.iload_n 2, 1) := by decide +kernel
theorem dX7_kept_42 : decode cX7_kept 42 = .ok (.iadd, 1) := by decide +kernel
theorem dX7_kept_43 : decode cX7_kept 43 = .ok (.iaload, 1) := by decide +kernel
theorem dX7_kept_44 : decode cX7_kept 44 = .ok (.istore 4, 2) := by decide +kernel
theorem dX7_kept_46 : decode cX7_kept 46 = .ok (.iload_n 3, 1) := by decide +kernel
theorem dX7_kept_47 : decode cX7_kept 47 = .ok (.ifCond .ne 13, 3) := by decide +kernel
theorem dX7_kept_50 : decode cX7_kept 50 = .ok (.aload_n 0, 1) := by decide +kernel
theorem dX7_kept_51 : decode cX7_kept 51 = .ok (.getfield 29, 3) := by decide +kernel
theorem dX7_kept_54 : decode cX7_kept 54 = .ok (.iload 4, 2) := by decide +kernel
theorem dX7_kept_56 : decode cX7_kept 56 = .ok (.iaload, 1) := by decide +kernel
theorem dX7_kept_57 : decode cX7_kept 57 = .ok (.goto 28, 3) := by decide +kernel
theorem dX7_kept_60 : decode cX7_kept 60 = .ok (.iload_n 3, 1) := by decide +kernel
theorem dX7_kept_61 : decode cX7_kept 61 = .ok (.iconst 1, 1) := by decide +kernel
theorem dX7_kept_62 : decode cX7_kept 62 = .ok (.if_icmp .ne 13, 3) := by decide +kernel
theorem dX7_kept_65 : decode cX7_kept 65 = .ok (.aload_n 0, 1) := by decide +kernel
theorem dX7_kept_66 : decode cX7_kept 66 = .ok (.getfield 32, 3) := by decide +kernel
theorem dX7_kept_69 : decode cX7_kept 69 = .ok (.iload 4, 2) := by decide +kernel
theorem dX7_kept_71 : decode cX7_kept 71 = .ok (.iaload, 1) := by decide +kernel
theorem dX7_kept_72 : decode cX7_kept 72 = .ok (.goto 13, 3) := by decide +kernel
theorem dX7_kept_75 : decode cX7_kept 75 = .ok (.iload 4, 2) := by decide +kernel
theorem dX7_kept_77 : decode cX7_kept 77 = .ok (.sipush 4200, 3) := by decide +kernel
theorem dX7_kept_80 : decode cX7_kept 80 = .ok (.iload_n 1, 1) := by decide +kernel
theorem dX7_kept_81 : decode cX7_kept 81 = .ok (.imul, 1) := by decide +kernel
theorem dX7_kept_82 : decode cX7_kept 82 = .ok (.isub, 1) := by decide +kernel
theorem dX7_kept_83 : decode cX7_kept 83 = .ok (.iconst 1, 1) := by decide +kernel
theorem dX7_kept_84 : decode cX7_kept 84 = .ok (.iadd, 1) := by decide +kernel
theorem dX7_kept_85 : decode cX7_kept 85 = .ok (.ireturn, 1) := by decide +kernel
theorem dX7_mate_0 : decode cX7_mate 0 = .ok (.aload_n 0, 1) := by decide +kernel
theorem dX7_mate_1 : decode cX7_mate 1 = .ok (.iload_n 1, 1) := by decide +kernel
theorem dX7_mate_2 : decode cX7_mate 2 = .ok (.iload_n 2, 1) := by decide +kernel
theorem dX7_mate_3 : decode cX7_mate 3 = .ok (.invokevirtual 76, 3) := by decide +kernel
theorem dX7_mate_6 : decode cX7_mate 6 = .ok (.ifCond .ne 5, 3) := by decide +kernel
theorem dX7_mate_9 : decode cX7_mate 9 = .ok (.iconst (-1), 1) := by decide +kernel
theorem dX7_mate_10 : decode cX7_mate 10 = .ok (.ireturn, 1) := by decide +kernel
theorem dX7_mate_11 : decode cX7_mate 11 = .ok (.aload_n 0, 1) := by decide +kernel
theorem dX7_mate_12 : decode cX7_mate 12 = .ok (.getfield 38, 3) := by decide +kernel
theorem dX7_mate_15 : decode cX7_mate 15 = .ok (.bipush 64, 2) := by decide +kernel
theorem dX7_mate_17 : decode cX7_mate 17 = .ok (.iload_n 1, 1) := by decide +kernel
theorem dX7_mate_18 : decode cX7_mate 18 = .ok (.imul, 1) := by decide +kernel
theorem dX7_mate_19 : decode cX7_mate 19 = .ok (.iload_n 2, 1) := by decide +kernel
theorem dX7_mate_20 : decode cX7_mate 20 = .ok (.iadd, 1) := by decide +kernel
theorem dX7_mate_21 : decode cX7_mate 21 = .ok (.iaload, 1) := by decide +kernel
theorem dX7_mate_22 : decode cX7_mate 22 = .ok (.ifCond .ne 8, 3) := by decide +kernel
theorem dX7_mate_25 : decode cX7_mate 25 = .ok (.bipush (-2), 2) := by decide +kernel
theorem dX7_mate_27 : decode cX7_mate 27 = .ok (.goto 16, 3) := by decide +kernel
theorem dX7_mate_30 : decode cX7_mate 30 = .ok (.aload_n 0, 1) := by decide +kernel
theorem dX7_mate_31 : decode cX7_mate 31 = .ok (.getfield 38, 3) := by decide +kernel
theorem dX7_mate_34 : decode cX7_mate 34 = .ok (.bipush 64, 2) := by decide +kernel
theorem dX7_mate_36 : decode cX7_mate 36 = .ok (.iload_n 1, 1) := by decide +kernel
theorem dX7_mate_37 : decode cX7_mate 37 = .ok (.imul, 1) := by decide +kernel
theorem dX7_mate_38 : decode cX7_mate 38 = .ok (.iload_n 2, 1) := by decide +kernel
theorem dX7_mate_39 : decode cX7_mate 39 = .ok (.iadd, 1) := by decide +kernel
theorem dX7_mate_40 : decode cX7_mate 40 = .ok (.iaload, 1) := by decide +kernel
theorem dX7_mate_41 : decode cX7_mate 41 = .ok (.iconst 1, 1) := by decide +kernel
theorem dX7_mate_42 : decode cX7_mate 42 = .ok (.isub, 1) := by decide +kernel
theorem dX7_mate_43 : decode cX7_mate 43 = .ok (.ireturn, 1) := by decide +kernel
theorem dX7_sum_0 : decode cX7_sum 0 = .ok (.aload_n 0, 1) := by decide +kernel
theorem dX7_sum_1 : decode cX7_sum 1 = .ok (.iload_n 1, 1) := by decide +kernel
theorem dX7_sum_2 : decode cX7_sum 2 = .ok (.iload_n 2, 1) := by decide +kernel
theorem dX7_sum_3 : decode cX7_sum 3 = .ok (.invokevirtual 76, 3) := by decide +kernel
theorem dX7_sum_6 : decode cX7_sum 6 = .ok (.ifCond .eq 28, 3) := by decide +kernel
theorem dX7_sum_9 : decode cX7_sum 9 = .ok (.iload_n 3, 1) := by decide +kernel
theorem dX7_sum_10 : decode cX7_sum 10 = .ok (.ifCond .lt 24, 3) := by decide +kernel
theorem dX7_sum_13 : decode cX7_sum 13 = .ok (.iload_n 3, 1) := by decide +kernel
theorem dX7_sum_14 : decode cX7_sum 14 = .ok (.bipush 9, 2) := by decide +kernel
theorem dX7_sum_16 : decode cX7_sum 16 = .ok (.if_icmp .gt 18, 3) := by decide +kernel
theorem dX7_sum_19 : decode cX7_sum 19 = .ok (.iload 4, 2) := by decide +kernel
theorem dX7_sum_21 : decode cX7_sum 21 = .ok (.ifCond .lt 13, 3) := by decide +kernel
theorem dX7_sum_24 : decode cX7_sum 24 = .ok (.iload 4, 2) := by decide +kernel
theorem dX7_sum_26 : decode cX7_sum 26 = .ok (.iconst 2, 1) := by decide +kernel
theorem dX7_sum_27 : decode cX7_sum 27 = .ok (.if_icmp .gt 7, 3) := by decide +kernel
theorem dX7_sum_30 : decode cX7_sum 30 = .ok (.iconst 1, 1) := by decide +kernel
theorem dX7_sum_31 : decode cX7_sum 31 = .ok (.goto 4, 3) := by decide +kernel
theorem dX7_sum_34 : decode cX7_sum 34 = .ok (.iconst 0, 1) := by decide +kernel
theorem dX7_sum_35 : decode cX7_sum 35 = .ok (.istore 5, 2) := by decide +kernel
theorem dX7_sum_37 : decode cX7_sum 37 = .ok (.iload 5, 2) := by decide +kernel
theorem dX7_sum_39 : decode cX7_sum 39 = .ok (.ifCond .eq 28, 3) := by decide +kernel
theorem dX7_sum_42 : decode cX7_sum 42 = .ok (.aload_n 0, 1) := by decide +kernel
theorem dX7_sum_43 : decode cX7_sum 43 = .ok (.getfield 41, 3) := by decide +kernel
theorem dX7_sum_46 : decode cX7_sum 46 = .ok (.sipush 1920, 3) := by decide +kernel
theorem dX7_sum_49 : decode cX7_sum 49 = .ok (.iload_n 1, 1) := by decide +kernel
theorem dX7_sum_50 : decode cX7_sum 50 = .ok (.imul, 1) := by decide +kernel
theorem dX7_sum_51 : decode cX7_sum 51 = .ok (.bipush 30, 2) := by decide +kernel
theorem dX7_sum_53 : decode cX7_sum 53 = .ok (.iload_n 2, 1) := by decide +kernel
theorem dX7_sum_54 : decode cX7_sum 54 = .ok (.imul, 1) := by decide +kernel
theorem dX7_sum_55 : decode cX7_sum 55 = .ok (.iadd, 1) := by decide +kernel
theorem dX7_sum_56 : decode cX7_sum 56 = .ok (.iconst 3, 1) := by decide +kernel
theorem dX7_sum_57 : decode cX7_sum 57 = .ok (.iload_n 3, 1) := by decide +kernel
theorem dX7_sum_58 : decode cX7_sum 58 = .ok (.imul, 1) := by decide +kernel
theorem dX7_sum_59 : decode cX7_sum 59 = .ok (.iadd, 1) := by decide +kernel
theorem dX7_sum_60 : decode cX7_sum 60 = .ok (.iload 4, 2) := by decide +kernel
theorem dX7_sum_62 : decode cX7_sum 62 = .ok (.iadd, 1) := by decide +kernel
theorem dX7_sum_63 : decode cX7_sum 63 = .ok (.laload, 1) := by decide +kernel
theorem dX7_sum_64 : decode cX7_sum 64 = .ok (.goto 4, 3) := by decide +kernel
theorem dX7_sum_67 : decode cX7_sum 67 = .ok (.lconst 0, 1) := by decide +kernel
theorem dX7_sum_68 : decode cX7_sum 68 = .ok (.lreturn, 1) := by decide +kernel
theorem dX7_ofSet_0 : decode cX7_ofSet 0 = .ok (.lconst 0, 1) := by decide +kernel
theorem dX7_ofSet_1 : decode cX7_ofSet 1 = .ok (.lstore 6, 2) := by decide +kernel
theorem dX7_ofSet_3 : decode cX7_ofSet 3 = .ok (.iconst 0, 1) := by decide +kernel
theorem dX7_ofSet_4 : decode cX7_ofSet 4 = .ok (.istore 8, 2) := by decide +kernel
theorem dX7_ofSet_6 : decode cX7_ofSet 6 = .ok (.iload 8, 2) := by decide +kernel
theorem dX7_ofSet_8 : decode cX7_ofSet 8 = .ok (.aload_n 0, 1) := by decide +kernel
theorem dX7_ofSet_9 : decode cX7_ofSet 9 = .ok (.getfield 7, 3) := by decide +kernel
theorem dX7_ofSet_12 : decode cX7_ofSet 12 = .ok (.iload_n 1, 1) := by decide +kernel
theorem dX7_ofSet_13 : decode cX7_ofSet 13 = .ok (.iaload, 1) := by decide +kernel
theorem dX7_ofSet_14 : decode cX7_ofSet 14 = .ok (.if_icmp .ge 53, 3) := by decide +kernel
theorem dX7_ofSet_17 : decode cX7_ofSet 17 = .ok (.lload 6, 2) := by decide +kernel
theorem dX7_ofSet_19 : decode cX7_ofSet 19 = .ok (.lload_n 2, 1) := by decide +kernel
theorem dX7_ofSet_20 : decode cX7_ofSet 20 = .ok (.iload 8, 2) := by decide +kernel
theorem dX7_ofSet_22 : decode cX7_ofSet 22 = .ok (.lshr, 1) := by decide +kernel
theorem dX7_ofSet_23 : decode cX7_ofSet 23 = .ok (.lconst 1, 1) := by decide +kernel
theorem dX7_ofSet_24 : decode cX7_ofSet 24 = .ok (.land, 1) := by decide +kernel
theorem dX7_ofSet_25 : decode cX7_ofSet 25 = .ok (.lconst 1, 1) := by decide +kernel
theorem dX7_ofSet_26 : decode cX7_ofSet 26 = .ok (.lcmp, 1) := by decide +kernel
theorem dX7_ofSet_27 : decode cX7_ofSet 27 = .ok (.ifCond .ne 30, 3) := by decide +kernel
theorem dX7_ofSet_30 : decode cX7_ofSet 30 = .ok (.aload_n 0, 1) := by decide +kernel
theorem dX7_ofSet_31 : decode cX7_ofSet 31 = .ok (.getfield 41, 3) := by decide +kernel
theorem dX7_ofSet_34 : decode cX7_ofSet 34 = .ok (.sipush 1920, 3) := by decide +kernel
theorem dX7_ofSet_37 : decode cX7_ofSet 37 = .ok (.iload_n 1, 1) := by decide +kernel
theorem dX7_ofSet_38 : decode cX7_ofSet 38 = .ok (.imul, 1) := by decide +kernel
theorem dX7_ofSet_39 : decode cX7_ofSet 39 = .ok (.bipush 30, 2) := by decide +kernel
theorem dX7_ofSet_41 : decode cX7_ofSet 41 = .ok (.iload 8, 2) := by decide +kernel
theorem dX7_ofSet_43 : decode cX7_ofSet 43 = .ok (.imul, 1) := by decide +kernel
theorem dX7_ofSet_44 : decode cX7_ofSet 44 = .ok (.iadd, 1) := by decide +kernel
theorem dX7_ofSet_45 : decode cX7_ofSet 45 = .ok (.iconst 3, 1) := by decide +kernel
theorem dX7_ofSet_46 : decode cX7_ofSet 46 = .ok (.iload 4, 2) := by decide +kernel
theorem dX7_ofSet_48 : decode cX7_ofSet 48 = .ok (.imul, 1) := by decide +kernel
theorem dX7_ofSet_49 : decode cX7_ofSet 49 = .ok (.iadd, 1) := by decide +kernel
theorem dX7_ofSet_50 : decode cX7_ofSet 50 = .ok (.iload 5, 2) := by decide +kernel
theorem dX7_ofSet_52 : decode cX7_ofSet 52 = .ok (.iadd, 1) := by decide +kernel
theorem dX7_ofSet_53 : decode cX7_ofSet 53 = .ok (.laload, 1) := by decide +kernel
theorem dX7_ofSet_54 : decode cX7_ofSet 54 = .ok (.goto 4, 3) := by decide +kernel
theorem dX7_ofSet_57 : decode cX7_ofSet 57 = .ok (.lconst 0, 1) := by decide +kernel
theorem dX7_ofSet_58 : decode cX7_ofSet 58 = .ok (.ladd, 1) := by decide +kernel
theorem dX7_ofSet_59 : decode cX7_ofSet 59 = .ok (.lstore 6, 2) := by decide +kernel
theorem dX7_ofSet_61 : decode cX7_ofSet 61 = .ok (.iinc 8 1, 3) := by decide +kernel
theorem dX7_ofSet_64 : decode cX7_ofSet 64 = .ok (.goto (-58), 3) := by decide +kernel
theorem dX7_ofSet_67 : decode cX7_ofSet 67 = .ok (.lload 6, 2) := by decide +kernel
theorem dX7_ofSet_69 : decode cX7_ofSet 69 = .ok (.lreturn, 1) := by decide +kernel
theorem dX7_out_0 : decode cX7_out 0 = .ok (.iload_n 1, 1) := by decide +kernel
theorem dX7_out_1 : decode cX7_out 1 = .ok (.invokestatic 64, 3) := by decide +kernel
theorem dX7_out_4 : decode cX7_out 4 = .ok (.ifCond .ne 5, 3) := by decide +kernel
theorem dX7_out_7 : decode cX7_out 7 = .ok (.iconst (-1), 1) := by decide +kernel
theorem dX7_out_8 : decode cX7_out 8 = .ok (.ireturn, 1) := by decide +kernel
theorem dX7_out_9 : decode cX7_out 9 = .ok (.aload_n 0, 1) := by decide +kernel
theorem dX7_out_10 : decode cX7_out 10 = .ok (.bipush (-2), 2) := by decide +kernel
theorem dX7_out_12 : decode cX7_out 12 = .ok (.putfield 50, 3) := by decide +kernel
theorem dX7_out_15 : decode cX7_out 15 = .ok (.bipush 9, 2) := by decide +kernel
theorem dX7_out_17 : decode cX7_out 17 = .ok (.istore 4, 2) := by decide +kernel
theorem dX7_out_19 : decode cX7_out 19 = .ok (.iload 4, 2) := by decide +kernel
theorem dX7_out_21 : decode cX7_out 21 = .ok (.ifCond .lt 123, 3) := by decide +kernel
theorem dX7_out_24 : decode cX7_out 24 = .ok (.aload_n 0, 1) := by decide +kernel
theorem dX7_out_25 : decode cX7_out 25 = .ok (.iload_n 1, 1) := by decide +kernel
theorem dX7_out_26 : decode cX7_out 26 = .ok (.lload_n 2, 1) := by decide +kernel
theorem dX7_out_27 : decode cX7_out 27 = .ok (.iload 4, 2) := by decide +kernel
theorem dX7_out_29 : decode cX7_out 29 = .ok (.iconst 0, 1) := by decide +kernel
theorem dX7_out_30 : decode cX7_out 30 = .ok (.invokevirtual 124, 3) := by decide +kernel
theorem dX7_out_33 : decode cX7_out 33 = .ok (.lstore 5, 2) := by decide +kernel
theorem dX7_out_35 : decode cX7_out 35 = .ok (.lload 5, 2) := by decide +kernel
theorem dX7_out_37 : decode cX7_out 37 = .ok (.aload_n 0, 1) := by decide +kernel
theorem dX7_out_38 : decode cX7_out 38 = .ok (.iload_n 1, 1) := by decide +kernel
theorem dX7_out_39 : decode cX7_out 39 = .ok (.lload_n 2, 1) := by decide +kernel
theorem dX7_out_40 : decode cX7_out 40 = .ok (.iload 4, 2) := by decide +kernel
theorem dX7_out_42 : decode cX7_out 42 = .ok (.iconst 1, 1) := by decide +kernel
theorem dX7_out_43 : decode cX7_out 43 = .ok (.invokevirtual 124, 3) := by decide +kernel
theorem dX7_out_46 : decode cX7_out 46 = .ok (.lmul, 1) := by decide +kernel
theorem dX7_out_47 : decode cX7_out 47 = .ok (.lstore 7, 2) := by decide +kernel
theorem dX7_out_49 : decode cX7_out 49 = .ok (.lload 5, 2) := by decide +kernel
theorem dX7_out_51 : decode cX7_out 51 = .ok (.lconst 1, 1) := by decide +kernel
theorem dX7_out_52 : decode cX7_out 52 = .ok (.lcmp, 1) := by decide +kernel
theorem dX7_out_53 : decode cX7_out 53 = .ok (.ifCond .eq 12, 3) := by decide +kernel
theorem dX7_out_56 : decode cX7_out 56 = .ok (.lload 5, 2) := by decide +kernel
theorem dX7_out_58 : decode cX7_out 58 = .ok (.ldc2_w 103, 3) := by decide +kernel
theorem dX7_out_61 : decode cX7_out 61 = .ok (.lcmp, 1) := by decide +kernel
theorem dX7_out_62 : decode cX7_out 62 = .ok (.ifCond .ne 44, 3) := by decide +kernel
theorem dX7_out_65 : decode cX7_out 65 = .ok (.lload 7, 2) := by decide +kernel
theorem dX7_out_67 : decode cX7_out 67 = .ok (.lconst 0, 1) := by decide +kernel
theorem dX7_out_68 : decode cX7_out 68 = .ok (.lcmp, 1) := by decide +kernel
theorem dX7_out_69 : decode cX7_out 69 = .ok (.ifCond .lt 37, 3) := by decide +kernel
theorem dX7_out_72 : decode cX7_out 72 = .ok (.lload 7, 2) := by decide +kernel
theorem dX7_out_74 : decode cX7_out 74 = .ok (.ldc2_w 128, 3) := by decide +kernel
theorem dX7_out_77 : decode cX7_out 77 = .ok (.lcmp, 1) := by decide +kernel
theorem dX7_out_78 : decode cX7_out 78 = .ok (.ifCond .ge 28, 3) := by decide +kernel
theorem dX7_out_81 : decode cX7_out 81 = .ok (.lload 5, 2) := by decide +kernel
theorem dX7_out_83 : decode cX7_out 83 = .ok (.aload_n 0, 1) := by decide +kernel
theorem dX7_out_84 : decode cX7_out 84 = .ok (.iload_n 1, 1) := by decide +kernel
theorem dX7_out_85 : decode cX7_out 85 = .ok (.lload_n 2, 1) := by decide +kernel
theorem dX7_out_86 : decode cX7_out 86 = .ok (.iload 4, 2) := by decide +kernel
theorem dX7_out_88 : decode cX7_out 88 = .ok (.iconst 2, 1) := by decide +kernel
theorem dX7_out_89 : decode cX7_out 89 = .ok (.invokevirtual 124, 3) := by decide +kernel
theorem dX7_out_92 : decode cX7_out 92 = .ok (.lmul, 1) := by decide +kernel
theorem dX7_out_93 : decode cX7_out 93 = .ok (.lload 7, 2) := by decide +kernel
theorem dX7_out_95 : decode cX7_out 95 = .ok (.lload 7, 2) := by decide +kernel
theorem dX7_out_97 : decode cX7_out 97 = .ok (.lmul, 1) := by decide +kernel
theorem dX7_out_98 : decode cX7_out 98 = .ok (.lcmp, 1) := by decide +kernel
theorem dX7_out_99 : decode cX7_out 99 = .ok (.ifCond .ne 7, 3) := by decide +kernel
theorem dX7_out_102 : decode cX7_out 102 = .ok (.iconst 1, 1) := by decide +kernel
theorem dX7_out_103 : decode cX7_out 103 = .ok (.goto 4, 3) := by decide +kernel
theorem dX7_out_106 : decode cX7_out 106 = .ok (.iconst 0, 1) := by decide +kernel
theorem dX7_out_107 : decode cX7_out 107 = .ok (.istore 9, 2) := by decide +kernel
theorem dX7_out_109 : decode cX7_out 109 = .ok (.iload 9, 2) := by decide +kernel
theorem dX7_out_111 : decode cX7_out 111 = .ok (.ifCond .eq 27, 3) := by decide +kernel
theorem dX7_out_114 : decode cX7_out 114 = .ok (.aload_n 0, 1) := by decide +kernel
theorem dX7_out_115 : decode cX7_out 115 = .ok (.iload_n 1, 1) := by decide +kernel
theorem dX7_out_116 : decode cX7_out 116 = .ok (.lload_n 2, 1) := by decide +kernel
theorem dX7_out_117 : decode cX7_out 117 = .ok (.lload 7, 2) := by decide +kernel
theorem dX7_out_119 : decode cX7_out 119 = .ok (.l2i, 1) := by decide +kernel
theorem dX7_out_120 : decode cX7_out 120 = .ok (.lload 5, 2) := by decide +kernel
theorem dX7_out_122 : decode cX7_out 122 = .ok (.invokevirtual 130, 3) := by decide +kernel
theorem dX7_out_125 : decode cX7_out 125 = .ok (.ifCond .eq 13, 3) := by decide +kernel
theorem dX7_out_128 : decode cX7_out 128 = .ok (.aload_n 0, 1) := by decide +kernel
theorem dX7_out_129 : decode cX7_out 129 = .ok (.iload 4, 2) := by decide +kernel
theorem dX7_out_131 : decode cX7_out 131 = .ok (.putfield 50, 3) := by decide +kernel
theorem dX7_out_134 : decode cX7_out 134 = .ok (.lload 7, 2) := by decide +kernel
theorem dX7_out_136 : decode cX7_out 136 = .ok (.l2i, 1) := by decide +kernel
theorem dX7_out_137 : decode cX7_out 137 = .ok (.ireturn, 1) := by decide +kernel
theorem dX7_out_138 : decode cX7_out 138 = .ok (.iinc 4 (-1), 3) := by decide +kernel
theorem dX7_out_141 : decode cX7_out 141 = .ok (.goto (-122), 3) := by decide +kernel
theorem dX7_out_144 : decode cX7_out 144 = .ok (.aload_n 0, 1) := by decide +kernel
theorem dX7_out_145 : decode cX7_out 145 = .ok (.iload_n 1, 1) := by decide +kernel
theorem dX7_out_146 : decode cX7_out 146 = .ok (.lload_n 2, 1) := by decide +kernel
theorem dX7_out_147 : decode cX7_out 147 = .ok (.iconst 0, 1) := by decide +kernel
theorem dX7_out_148 : decode cX7_out 148 = .ok (.iconst 0, 1) := by decide +kernel
theorem dX7_out_149 : decode cX7_out 149 = .ok (.invokevirtual 124, 3) := by decide +kernel
theorem dX7_out_152 : decode cX7_out 152 = .ok (.lconst 0, 1) := by decide +kernel
theorem dX7_out_153 : decode cX7_out 153 = .ok (.lcmp, 1) := by decide +kernel
theorem dX7_out_154 : decode cX7_out 154 = .ok (.ifCond .ne 33, 3) := by decide +kernel
theorem dX7_out_157 : decode cX7_out 157 = .ok (.aload_n 0, 1) := by decide +kernel
theorem dX7_out_158 : decode cX7_out 158 = .ok (.iload_n 1, 1) := by decide +kernel
theorem dX7_out_159 : decode cX7_out 159 = .ok (.lload_n 2, 1) := by decide +kernel
theorem dX7_out_160 : decode cX7_out 160 = .ok (.iconst 0, 1) := by decide +kernel
theorem dX7_out_161 : decode cX7_out 161 = .ok (.iconst 1, 1) := by decide +kernel
theorem dX7_out_162 : decode cX7_out 162 = .ok (.invokevirtual 124, 3) := by decide +kernel
theorem dX7_out_165 : decode cX7_out 165 = .ok (.lconst 0, 1) := by decide +kernel
theorem dX7_out_166 : decode cX7_out 166 = .ok (.lcmp, 1) := by decide +kernel
theorem dX7_out_167 : decode cX7_out 167 = .ok (.ifCond .ne 20, 3) := by decide +kernel
theorem dX7_out_170 : decode cX7_out 170 = .ok (.aload_n 0, 1) := by decide +kernel
theorem dX7_out_171 : decode cX7_out 171 = .ok (.iload_n 1, 1) := by decide +kernel
theorem dX7_out_172 : decode cX7_out 172 = .ok (.lload_n 2, 1) := by decide +kernel
theorem dX7_out_173 : decode cX7_out 173 = .ok (.iconst 0, 1) := by decide +kernel
theorem dX7_out_174 : decode cX7_out 174 = .ok (.iconst 2, 1) := by decide +kernel
theorem dX7_out_175 : decode cX7_out 175 = .ok (.invokevirtual 124, 3) := by decide +kernel
theorem dX7_out_178 : decode cX7_out 178 = .ok (.lconst 0, 1) := by decide +kernel
theorem dX7_out_179 : decode cX7_out 179 = .ok (.lcmp, 1) := by decide +kernel
theorem dX7_out_180 : decode cX7_out 180 = .ok (.ifCond .ne 7, 3) := by decide +kernel
theorem dX7_out_183 : decode cX7_out 183 = .ok (.iconst 1, 1) := by decide +kernel
theorem dX7_out_184 : decode cX7_out 184 = .ok (.goto 4, 3) := by decide +kernel
theorem dX7_out_187 : decode cX7_out 187 = .ok (.iconst 0, 1) := by decide +kernel
theorem dX7_out_188 : decode cX7_out 188 = .ok (.istore 4, 2) := by decide +kernel
theorem dX7_out_190 : decode cX7_out 190 = .ok (.iload 4, 2) := by decide +kernel
theorem dX7_out_192 : decode cX7_out 192 = .ok (.ifCond .eq 8, 3) := by decide +kernel
theorem dX7_out_195 : decode cX7_out 195 = .ok (.bipush (-4), 2) := by decide +kernel
theorem dX7_out_197 : decode cX7_out 197 = .ok (.goto 5, 3) := by decide +kernel
theorem dX7_out_200 : decode cX7_out 200 = .ok (.bipush (-5), 2) := by decide +kernel
theorem dX7_out_202 : decode cX7_out 202 = .ok (.ireturn, 1) := by decide +kernel
theorem dX7_leads_0 : decode cX7_leads 0 = .ok (.iload 4, 2) := by decide +kernel
theorem dX7_leads_2 : decode cX7_leads 2 = .ok (.bipush 64, 2) := by decide +kernel
theorem dX7_leads_4 : decode cX7_leads 4 = .ok (.idiv, 1) := by decide +kernel
theorem dX7_leads_5 : decode cX7_leads 5 = .ok (.istore 7, 2) := by decide +kernel
theorem dX7_leads_7 : decode cX7_leads 7 = .ok (.iload 4, 2) := by decide +kernel
theorem dX7_leads_9 : decode cX7_leads 9 = .ok (.bipush 64, 2) := by decide +kernel
theorem dX7_leads_11 : decode cX7_leads 11 = .ok (.irem, 1) := by decide +kernel
theorem dX7_leads_12 : decode cX7_leads 12 = .ok (.istore 8, 2) := by decide +kernel
theorem dX7_leads_14 : decode cX7_leads 14 = .ok (.lload_n 2, 1) := by decide +kernel
theorem dX7_leads_15 : decode cX7_leads 15 = .ok (.iload 7, 2) := by decide +kernel
theorem dX7_leads_17 : decode cX7_leads 17 = .ok (.lshr, 1) := by decide +kernel
theorem dX7_leads_18 : decode cX7_leads 18 = .ok (.lconst 1, 1) := by decide +kernel
theorem dX7_leads_19 : decode cX7_leads 19 = .ok (.land, 1) := by decide +kernel
theorem dX7_leads_20 : decode cX7_leads 20 = .ok (.lconst 1, 1) := by decide +kernel
theorem dX7_leads_21 : decode cX7_leads 21 = .ok (.lcmp, 1) := by decide +kernel
theorem dX7_leads_22 : decode cX7_leads 22 = .ok (.ifCond .ne 7, 3) := by decide +kernel
theorem dX7_leads_25 : decode cX7_leads 25 = .ok (.iconst 1, 1) := by decide +kernel
theorem dX7_leads_26 : decode cX7_leads 26 = .ok (.goto 4, 3) := by decide +kernel
theorem dX7_leads_29 : decode cX7_leads 29 = .ok (.iconst 0, 1) := by decide +kernel
theorem dX7_leads_30 : decode cX7_leads 30 = .ok (.istore 9, 2) := by decide +kernel
theorem dX7_leads_32 : decode cX7_leads 32 = .ok (.lload_n 2, 1) := by decide +kernel
theorem dX7_leads_33 : decode cX7_leads 33 = .ok (.iload 8, 2) := by decide +kernel
theorem dX7_leads_35 : decode cX7_leads 35 = .ok (.lshr, 1) := by decide +kernel
theorem dX7_leads_36 : decode cX7_leads 36 = .ok (.lconst 1, 1) := by decide +kernel
theorem dX7_leads_37 : decode cX7_leads 37 = .ok (.land, 1) := by decide +kernel
theorem dX7_leads_38 : decode cX7_leads 38 = .ok (.lconst 1, 1) := by decide +kernel
theorem dX7_leads_39 : decode cX7_leads 39 = .ok (.lcmp, 1) := by decide +kernel
theorem dX7_leads_40 : decode cX7_leads 40 = .ok (.ifCond .ne 7, 3) := by decide +kernel
theorem dX7_leads_43 : decode cX7_leads 43 = .ok (.iconst 1, 1) := by decide +kernel
theorem dX7_leads_44 : decode cX7_leads 44 = .ok (.goto 4, 3) := by decide +kernel
theorem dX7_leads_47 : decode cX7_leads 47 = .ok (.iconst 0, 1) := by decide +kernel
theorem dX7_leads_48 : decode cX7_leads 48 = .ok (.istore 10, 2) := by decide +kernel
theorem dX7_leads_50 : decode cX7_leads 50 = .ok (.iload 7, 2) := by decide +kernel
theorem dX7_leads_52 : decode cX7_leads 52 = .ok (.iload 8, 2) := by decide +kernel
theorem dX7_leads_54 : decode cX7_leads 54 = .ok (.if_icmp .ge 48, 3) := by decide +kernel
theorem dX7_leads_57 : decode cX7_leads 57 = .ok (.iload 8, 2) := by decide +kernel
theorem dX7_leads_59 : decode cX7_leads 59 = .ok (.aload_n 0, 1) := by decide +kernel
theorem dX7_leads_60 : decode cX7_leads 60 = .ok (.getfield 7, 3) := by decide +kernel
theorem dX7_leads_63 : decode cX7_leads 63 = .ok (.iload_n 1, 1) := by decide +kernel
theorem dX7_leads_64 : decode cX7_leads 64 = .ok (.iaload, 1) := by decide +kernel
theorem dX7_leads_65 : decode cX7_leads 65 = .ok (.if_icmp .ge 37, 3) := by decide +kernel
theorem dX7_leads_68 : decode cX7_leads 68 = .ok (.lload 5, 2) := by decide +kernel
theorem dX7_leads_70 : decode cX7_leads 70 = .ok (.lconst 1, 1) := by decide +kernel
theorem dX7_leads_71 : decode cX7_leads 71 = .ok (.lcmp, 1) := by decide +kernel
theorem dX7_leads_72 : decode cX7_leads 72 = .ok (.ifCond .ne 16, 3) := by decide +kernel
theorem dX7_leads_75 : decode cX7_leads 75 = .ok (.iload 9, 2) := by decide +kernel
theorem dX7_leads_77 : decode cX7_leads 77 = .ok (.ifCond .eq 25, 3) := by decide +kernel
theorem dX7_leads_80 : decode cX7_leads 80 = .ok (.iload 10, 2) := by decide +kernel
theorem dX7_leads_82 : decode cX7_leads 82 = .ok (.ifCond .ne 20, 3) := by decide +kernel
theorem dX7_leads_85 : decode cX7_leads 85 = .ok (.goto 13, 3) := by decide +kernel
theorem dX7_leads_88 : decode cX7_leads 88 = .ok (.iload 10, 2) := by decide +kernel
theorem dX7_leads_90 : decode cX7_leads 90 = .ok (.ifCond .eq 12, 3) := by decide +kernel
theorem dX7_leads_93 : decode cX7_leads 93 = .ok (.iload 9, 2) := by decide +kernel
theorem dX7_leads_95 : decode cX7_leads 95 = .ok (.ifCond .ne 7, 3) := by decide +kernel
theorem dX7_leads_98 : decode cX7_leads 98 = .ok (.iconst 1, 1) := by decide +kernel
theorem dX7_leads_99 : decode cX7_leads 99 = .ok (.goto 4, 3) := by decide +kernel
theorem dX7_leads_102 : decode cX7_leads 102 = .ok (.iconst 0, 1) := by decide +kernel
theorem dX7_leads_103 : decode cX7_leads 103 = .ok (.ireturn, 1) := by decide +kernel
theorem dX7_level_0 : decode cX7_level 0 = .ok (.aload_n 0, 1) := by decide +kernel
theorem dX7_level_1 : decode cX7_level 1 = .ok (.getfield 50, 3) := by decide +kernel
theorem dX7_level_4 : decode cX7_level 4 = .ok (.ireturn, 1) := by decide +kernel
theorem dX7_same_0 : decode cX7_same 0 = .ok (.iload_n 1, 1) := by decide +kernel
theorem dX7_same_1 : decode cX7_same 1 = .ok (.invokestatic 64, 3) := by decide +kernel
theorem dX7_same_4 : decode cX7_same 4 = .ok (.ifCond .eq 10, 3) := by decide +kernel
theorem dX7_same_7 : decode cX7_same 7 = .ok (.iload_n 2, 1) := by decide +kernel
theorem dX7_same_8 : decode cX7_same 8 = .ok (.invokestatic 64, 3) := by decide +kernel
theorem dX7_same_11 : decode cX7_same 11 = .ok (.ifCond .ne 5, 3) := by decide +kernel
theorem dX7_same_14 : decode cX7_same 14 = .ok (.iconst (-1), 1) := by decide +kernel
theorem dX7_same_15 : decode cX7_same 15 = .ok (.ireturn, 1) := by decide +kernel
theorem dX7_same_16 : decode cX7_same 16 = .ok (.aload_n 0, 1) := by decide +kernel
theorem dX7_same_17 : decode cX7_same 17 = .ok (.iload_n 1, 1) := by decide +kernel
theorem dX7_same_18 : decode cX7_same 18 = .ok (.iload_n 2, 1) := by decide +kernel
theorem dX7_same_19 : decode cX7_same 19 = .ok (.invokevirtual 105, 3) := by decide +kernel
theorem dX7_same_22 : decode cX7_same 22 = .ok (.ifCond .eq 6, 3) := by decide +kernel
theorem dX7_same_25 : decode cX7_same 25 = .ok (.bipush (-3), 2) := by decide +kernel
theorem dX7_same_27 : decode cX7_same 27 = .ok (.ireturn, 1) := by decide +kernel
theorem dX7_same_28 : decode cX7_same 28 = .ok (.iconst 0, 1) := by decide +kernel
theorem dX7_same_29 : decode cX7_same 29 = .ok (.istore_n 3, 1) := by decide +kernel
theorem dX7_same_30 : decode cX7_same 30 = .ok (.iload_n 3, 1) := by decide +kernel
theorem dX7_same_31 : decode cX7_same 31 = .ok (.sipush 1920, 3) := by decide +kernel
theorem dX7_same_34 : decode cX7_same 34 = .ok (.if_icmp .ge 39, 3) := by decide +kernel
theorem dX7_same_37 : decode cX7_same 37 = .ok (.aload_n 0, 1) := by decide +kernel
theorem dX7_same_38 : decode cX7_same 38 = .ok (.getfield 41, 3) := by decide +kernel
theorem dX7_same_41 : decode cX7_same 41 = .ok (.sipush 1920, 3) := by decide +kernel
theorem dX7_same_44 : decode cX7_same 44 = .ok (.iload_n 1, 1) := by decide +kernel
theorem dX7_same_45 : decode cX7_same 45 = .ok (.imul, 1) := by decide +kernel
theorem dX7_same_46 : decode cX7_same 46 = .ok (.iload_n 3, 1) := by decide +kernel
theorem dX7_same_47 : decode cX7_same 47 = .ok (.iadd, 1) := by decide +kernel
theorem dX7_same_48 : decode cX7_same 48 = .ok (.laload, 1) := by decide +kernel
theorem dX7_same_49 : decode cX7_same 49 = .ok (.aload_n 0, 1) := by decide +kernel
theorem dX7_same_50 : decode cX7_same 50 = .ok (.getfield 41, 3) := by decide +kernel
theorem dX7_same_53 : decode cX7_same 53 = .ok (.sipush 1920, 3) := by decide +kernel
theorem dX7_same_56 : decode cX7_same 56 = .ok (.iload_n 2, 1) := by decide +kernel
theorem dX7_same_57 : decode cX7_same 57 = .ok (.imul, 1) := by decide +kernel
theorem dX7_same_58 : decode cX7_same 58 = .ok (.iload_n 3, 1) := by decide +kernel
theorem dX7_same_59 : decode cX7_same 59 = .ok (.iadd, 1) := by decide +kernel
theorem dX7_same_60 : decode cX7_same 60 = .ok (.laload, 1) := by decide +kernel
theorem dX7_same_61 : decode cX7_same 61 = .ok (.lcmp, 1) := by decide +kernel
theorem dX7_same_62 : decode cX7_same 62 = .ok (.ifCond .eq 5, 3) := by decide +kernel
theorem dX7_same_65 : decode cX7_same 65 = .ok (.iconst 0, 1) := by decide +kernel
theorem dX7_same_66 : decode cX7_same 66 = .ok (.ireturn, 1) := by decide +kernel
theorem dX7_same_67 : decode cX7_same 67 = .ok (.iinc 3 1, 3) := by decide +kernel
theorem dX7_same_70 : decode cX7_same 70 = .ok (.goto (-40), 3) := by decide +kernel
theorem dX7_same_73 : decode cX7_same 73 = .ok (.iconst 1, 1) := by decide +kernel
theorem dX7_same_74 : decode cX7_same 74 = .ok (.ireturn, 1) := by decide +kernel
theorem dJ9_max_7cf53_0 : decode cJ9_max_7cf53 0 = .ok (.iload_n 0, 1) := by decide +kernel
theorem dJ9_max_7cf53_1 : decode cJ9_max_7cf53 1 = .ok (.iload_n 1, 1) := by decide +kernel
theorem dJ9_max_7cf53_2 : decode cJ9_max_7cf53 2 = .ok (.if_icmp .lt 7, 3) := by decide +kernel
theorem dJ9_max_7cf53_5 : decode cJ9_max_7cf53 5 = .ok (.iload_n 0, 1) := by decide +kernel
theorem dJ9_max_7cf53_6 : decode cJ9_max_7cf53 6 = .ok (.goto 4, 3) := by decide +kernel
theorem dJ9_max_7cf53_9 : decode cJ9_max_7cf53 9 = .ok (.iload_n 1, 1) := by decide +kernel
theorem dJ9_max_7cf53_10 : decode cJ9_max_7cf53 10 = .ok (.ireturn, 1) := by decide +kernel
theorem dJ9_min_7cf53_0 : decode cJ9_min_7cf53 0 = .ok (.iload_n 0, 1) := by decide +kernel
theorem dJ9_min_7cf53_1 : decode cJ9_min_7cf53 1 = .ok (.iload_n 1, 1) := by decide +kernel
theorem dJ9_min_7cf53_2 : decode cJ9_min_7cf53 2 = .ok (.if_icmp .gt 7, 3) := by decide +kernel
theorem dJ9_min_7cf53_5 : decode cJ9_min_7cf53 5 = .ok (.iload_n 0, 1) := by decide +kernel
theorem dJ9_min_7cf53_6 : decode cJ9_min_7cf53 6 = .ok (.goto 4, 3) := by decide +kernel
theorem dJ9_min_7cf53_9 : decode cJ9_min_7cf53 9 = .ok (.iload_n 1, 1) := by decide +kernel
theorem dJ9_min_7cf53_10 : decode cJ9_min_7cf53 10 = .ok (.ireturn, 1) := by decide +kernel
theorem dJ7_fill_d0a16_0 : decode cJ7_fill_d0a16 0 = .ok (.iconst 0, 1) := by decide +kernel
theorem dJ7_fill_d0a16_1 : decode cJ7_fill_d0a16 1 = .ok (.istore_n 3, 1) := by decide +kernel
theorem dJ7_fill_d0a16_2 : decode cJ7_fill_d0a16 2 = .ok (.aload_n 0, 1) := by decide +kernel
theorem dJ7_fill_d0a16_3 : decode cJ7_fill_d0a16 3 = .ok (.arraylength, 1) := by decide +kernel
theorem dJ7_fill_d0a16_4 : decode cJ7_fill_d0a16 4 = .ok (.istore 4, 2) := by decide +kernel
theorem dJ7_fill_d0a16_6 : decode cJ7_fill_d0a16 6 = .ok (.iload_n 3, 1) := by decide +kernel
theorem dJ7_fill_d0a16_7 : decode cJ7_fill_d0a16 7 = .ok (.iload 4, 2) := by decide +kernel
theorem dJ7_fill_d0a16_9 : decode cJ7_fill_d0a16 9 = .ok (.if_icmp .ge 13, 3) := by decide +kernel
theorem dJ7_fill_d0a16_12 : decode cJ7_fill_d0a16 12 = .ok (.aload_n 0, 1) := by decide +kernel
theorem dJ7_fill_d0a16_13 : decode cJ7_fill_d0a16 13 = .ok (.iload_n 3, 1) := by decide +kernel
theorem dJ7_fill_d0a16_14 : decode cJ7_fill_d0a16 14 = .ok (.lload_n 1, 1) := by decide +kernel
theorem dJ7_fill_d0a16_15 : decode cJ7_fill_d0a16 15 = .ok (.lastore, 1) := by decide +kernel
theorem dJ7_fill_d0a16_16 : decode cJ7_fill_d0a16 16 = .ok (.iinc 3 1, 3) := by decide +kernel
theorem dJ7_fill_d0a16_19 : decode cJ7_fill_d0a16 19 = .ok (.goto (-13), 3) := by decide +kernel
theorem dJ7_fill_d0a16_22 : decode cJ7_fill_d0a16 22 = .ok (.return_, 1) := by decide +kernel
theorem dJ7_fill_53178_0 : decode cJ7_fill_53178 0 = .ok (.iconst 0, 1) := by decide +kernel
theorem dJ7_fill_53178_1 : decode cJ7_fill_53178 1 = .ok (.istore_n 2, 1) := by decide +kernel
theorem dJ7_fill_53178_2 : decode cJ7_fill_53178 2 = .ok (.aload_n 0, 1) := by decide +kernel
theorem dJ7_fill_53178_3 : decode cJ7_fill_53178 3 = .ok (.arraylength, 1) := by decide +kernel
theorem dJ7_fill_53178_4 : decode cJ7_fill_53178 4 = .ok (.istore_n 3, 1) := by decide +kernel
theorem dJ7_fill_53178_5 : decode cJ7_fill_53178 5 = .ok (.iload_n 2, 1) := by decide +kernel
theorem dJ7_fill_53178_6 : decode cJ7_fill_53178 6 = .ok (.iload_n 3, 1) := by decide +kernel
theorem dJ7_fill_53178_7 : decode cJ7_fill_53178 7 = .ok (.if_icmp .ge 13, 3) := by decide +kernel
theorem dJ7_fill_53178_10 : decode cJ7_fill_53178 10 = .ok (.aload_n 0, 1) := by decide +kernel
theorem dJ7_fill_53178_11 : decode cJ7_fill_53178 11 = .ok (.iload_n 2, 1) := by decide +kernel
theorem dJ7_fill_53178_12 : decode cJ7_fill_53178 12 = .ok (.iload_n 1, 1) := by decide +kernel
theorem dJ7_fill_53178_13 : decode cJ7_fill_53178 13 = .ok (.iastore, 1) := by decide +kernel
theorem dJ7_fill_53178_14 : decode cJ7_fill_53178 14 = .ok (.iinc 2 1, 3) := by decide +kernel
theorem dJ7_fill_53178_17 : decode cJ7_fill_53178 17 = .ok (.goto (-12), 3) := by decide +kernel
theorem dJ7_fill_53178_20 : decode cJ7_fill_53178 20 = .ok (.return_, 1) := by decide +kernel
theorem dL_law_0 : decode cL_law 0 = .ok (.new 7, 3) := by decide +kernel
theorem dL_law_3 : decode cL_law 3 = .ok (.dup, 1) := by decide +kernel
theorem dL_law_4 : decode cL_law 4 = .ok (.invokespecial 9, 3) := by decide +kernel
theorem dL_law_7 : decode cL_law 7 = .ok (.astore_n 1, 1) := by decide +kernel
theorem dL_law_8 : decode cL_law 8 = .ok (.new 10, 3) := by decide +kernel
theorem dL_law_11 : decode cL_law 11 = .ok (.dup, 1) := by decide +kernel
theorem dL_law_12 : decode cL_law 12 = .ok (.invokespecial 12, 3) := by decide +kernel
theorem dL_law_15 : decode cL_law 15 = .ok (.astore_n 2, 1) := by decide +kernel
theorem dL_law_16 : decode cL_law 16 = .ok (.iconst 0, 1) := by decide +kernel
theorem dL_law_17 : decode cL_law 17 = .ok (.istore_n 3, 1) := by decide +kernel
theorem dL_law_18 : decode cL_law 18 = .ok (.iload_n 3, 1) := by decide +kernel
theorem dL_law_19 : decode cL_law 19 = .ok (.aload_n 0, 1) := by decide +kernel
theorem dL_law_20 : decode cL_law 20 = .ok (.arraylength, 1) := by decide +kernel
theorem dL_law_21 : decode cL_law 21 = .ok (.bipush 7, 2) := by decide +kernel
theorem dL_law_23 : decode cL_law 23 = .ok (.isub, 1) := by decide +kernel
theorem dL_law_24 : decode cL_law 24 = .ok (.if_icmp .gt 879, 3) := by decide +kernel
theorem dL_law_27 : decode cL_law 27 = .ok (.aload_n 0, 1) := by decide +kernel
theorem dL_law_28 : decode cL_law 28 = .ok (.iload_n 3, 1) := by decide +kernel
theorem dL_law_29 : decode cL_law 29 = .ok (.iaload, 1) := by decide +kernel
theorem dL_law_30 : decode cL_law 30 = .ok (.bipush 31, 2) := by decide +kernel
theorem dL_law_32 : decode cL_law 32 = .ok (.iand, 1) := by decide +kernel
theorem dL_law_33 : decode cL_law 33 = .ok (.tableswitch 864 0 17 #[87, 182, 225, 268, 301, 334, 377, 420, 453, 496, 539, 582, 625, 668, 701, 755, 818, 831], 87) := by decide +kernel
theorem dL_law_120 : decode cL_law 120 = .ok (.aload_n 1, 1) := by decide +kernel
theorem dL_law_121 : decode cL_law 121 = .ok (.aload_n 0, 1) := by decide +kernel
theorem dL_law_122 : decode cL_law 122 = .ok (.iload_n 3, 1) := by decide +kernel
theorem dL_law_123 : decode cL_law 123 = .ok (.iconst 1, 1) := by decide +kernel
theorem dL_law_124 : decode cL_law 124 = .ok (.iadd, 1) := by decide +kernel
theorem dL_law_125 : decode cL_law 125 = .ok (.iaload, 1) := by decide +kernel
theorem dL_law_126 : decode cL_law 126 = .ok (.aload_n 0, 1) := by decide +kernel
theorem dL_law_127 : decode cL_law 127 = .ok (.iload_n 3, 1) := by decide +kernel
theorem dL_law_128 : decode cL_law 128 = .ok (.iconst 2, 1) := by decide +kernel
theorem dL_law_129 : decode cL_law 129 = .ok (.iadd, 1) := by decide +kernel
theorem dL_law_130 : decode cL_law 130 = .ok (.iaload, 1) := by decide +kernel
theorem dL_law_131 : decode cL_law 131 = .ok (.aload_n 0, 1) := by decide +kernel
theorem dL_law_132 : decode cL_law 132 = .ok (.iload_n 3, 1) := by decide +kernel
theorem dL_law_133 : decode cL_law 133 = .ok (.iconst 3, 1) := by decide +kernel
theorem dL_law_134 : decode cL_law 134 = .ok (.iadd, 1) := by decide +kernel
theorem dL_law_135 : decode cL_law 135 = .ok (.iaload, 1) := by decide +kernel
theorem dL_law_136 : decode cL_law 136 = .ok (.aload_n 0, 1) := by decide +kernel
theorem dL_law_137 : decode cL_law 137 = .ok (.iload_n 3, 1) := by decide +kernel
theorem dL_law_138 : decode cL_law 138 = .ok (.iconst 4, 1) := by decide +kernel
theorem dL_law_139 : decode cL_law 139 = .ok (.iadd, 1) := by decide +kernel
theorem dL_law_140 : decode cL_law 140 = .ok (.iaload, 1) := by decide +kernel
theorem dL_law_141 : decode cL_law 141 = .ok (.aload_n 0, 1) := by decide +kernel
theorem dL_law_142 : decode cL_law 142 = .ok (.iload_n 3, 1) := by decide +kernel
theorem dL_law_143 : decode cL_law 143 = .ok (.iconst 5, 1) := by decide +kernel
theorem dL_law_144 : decode cL_law 144 = .ok (.iadd, 1) := by decide +kernel
theorem dL_law_145 : decode cL_law 145 = .ok (.iaload, 1) := by decide +kernel
theorem dL_law_146 : decode cL_law 146 = .ok (.i2l, 1) := by decide +kernel
theorem dL_law_147 : decode cL_law 147 = .ok (.bipush 32, 2) := by decide +kernel
theorem dL_law_149 : decode cL_law 149 = .ok (.lshl, 1) := by decide +kernel
theorem dL_law_150 : decode cL_law 150 = .ok (.aload_n 0, 1) := by decide +kernel
theorem dL_law_151 : decode cL_law 151 = .ok (.iload_n 3, 1) := by decide +kernel
theorem dL_law_152 : decode cL_law 152 = .ok (.bipush 6, 2) := by decide +kernel
theorem dL_law_154 : decode cL_law 154 = .ok (.iadd, 1) := by decide +kernel
theorem dL_law_155 : decode cL_law 155 = .ok (.iaload, 1) := by decide +kernel
theorem dL_law_156 : decode cL_law 156 = .ok (.i2l, 1) := by decide +kernel
theorem dL_law_157 : decode cL_law 157 = .ok (.ldc2_w 13, 3) := by decide +kernel
theorem dL_law_160 : decode cL_law 160 = .ok (.land, 1) := by decide +kernel
theorem dL_law_161 : decode cL_law 161 = .ok (.lor, 1) := by decide +kernel
theorem dL_law_162 : decode cL_law 162 = .ok (.invokevirtual 15, 3) := by decide +kernel
theorem dL_law_165 : decode cL_law 165 = .ok (.aload_n 2, 1) := by decide +kernel
theorem dL_law_166 : decode cL_law 166 = .ok (.aload_n 0, 1) := by decide +kernel
theorem dL_law_167 : decode cL_law 167 = .ok (.iload_n 3, 1) := by decide +kernel
theorem dL_law_168 : decode cL_law 168 = .ok (.iconst 1, 1) := by decide +kernel
theorem dL_law_169 : decode cL_law 169 = .ok (.iadd, 1) := by decide +kernel
theorem dL_law_170 : decode cL_law 170 = .ok (.iaload, 1) := by decide +kernel
theorem dL_law_171 : decode cL_law 171 = .ok (.aload_n 0, 1) := by decide +kernel
theorem dL_law_172 : decode cL_law 172 = .ok (.iload_n 3, 1) := by decide +kernel
theorem dL_law_173 : decode cL_law 173 = .ok (.iconst 2, 1) := by decide +kernel
theorem dL_law_174 : decode cL_law 174 = .ok (.iadd, 1) := by decide +kernel
theorem dL_law_175 : decode cL_law 175 = .ok (.iaload, 1) := by decide +kernel
theorem dL_law_176 : decode cL_law 176 = .ok (.aload_n 0, 1) := by decide +kernel
theorem dL_law_177 : decode cL_law 177 = .ok (.iload_n 3, 1) := by decide +kernel
theorem dL_law_178 : decode cL_law 178 = .ok (.iconst 3, 1) := by decide +kernel
theorem dL_law_179 : decode cL_law 179 = .ok (.iadd, 1) := by decide +kernel
theorem dL_law_180 : decode cL_law 180 = .ok (.iaload, 1) := by decide +kernel
theorem dL_law_181 : decode cL_law 181 = .ok (.aload_n 0, 1) := by decide +kernel
theorem dL_law_182 : decode cL_law 182 = .ok (.iload_n 3, 1) := by decide +kernel
theorem dL_law_183 : decode cL_law 183 = .ok (.iconst 4, 1) := by decide +kernel
theorem dL_law_184 : decode cL_law 184 = .ok (.iadd, 1) := by decide +kernel
theorem dL_law_185 : decode cL_law 185 = .ok (.iaload, 1) := by decide +kernel
theorem dL_law_186 : decode cL_law 186 = .ok (.aload_n 0, 1) := by decide +kernel
theorem dL_law_187 : decode cL_law 187 = .ok (.iload_n 3, 1) := by decide +kernel
theorem dL_law_188 : decode cL_law 188 = .ok (.iconst 5, 1) := by decide +kernel
theorem dL_law_189 : decode cL_law 189 = .ok (.iadd, 1) := by decide +kernel
theorem dL_law_190 : decode cL_law 190 = .ok (.iaload, 1) := by decide +kernel
theorem dL_law_191 : decode cL_law 191 = .ok (.i2l, 1) := by decide +kernel
theorem dL_law_192 : decode cL_law 192 = .ok (.bipush 32, 2) := by decide +kernel
theorem dL_law_194 : decode cL_law 194 = .ok (.lshl, 1) := by decide +kernel
theorem dL_law_195 : decode cL_law 195 = .ok (.aload_n 0, 1) := by decide +kernel
theorem dL_law_196 : decode cL_law 196 = .ok (.iload_n 3, 1) := by decide +kernel
theorem dL_law_197 : decode cL_law 197 = .ok (.bipush 6, 2) := by decide +kernel
theorem dL_law_199 : decode cL_law 199 = .ok (.iadd, 1) := by decide +kernel
theorem dL_law_200 : decode cL_law 200 = .ok (.iaload, 1) := by decide +kernel
theorem dL_law_201 : decode cL_law 201 = .ok (.i2l, 1) := by decide +kernel
theorem dL_law_202 : decode cL_law 202 = .ok (.ldc2_w 13, 3) := by decide +kernel
theorem dL_law_205 : decode cL_law 205 = .ok (.land, 1) := by decide +kernel
theorem dL_law_206 : decode cL_law 206 = .ok (.lor, 1) := by decide +kernel
theorem dL_law_207 : decode cL_law 207 = .ok (.invokevirtual 19, 3) := by decide +kernel
theorem dL_law_210 : decode cL_law 210 = .ok (.if_icmp .eq 687, 3) := by decide +kernel
theorem dL_law_213 : decode cL_law 213 = .ok (.iconst 0, 1) := by decide +kernel
theorem dL_law_214 : decode cL_law 214 = .ok (.ireturn, 1) := by decide +kernel
theorem dL_law_215 : decode cL_law 215 = .ok (.aload_n 1, 1) := by decide +kernel
theorem dL_law_216 : decode cL_law 216 = .ok (.aload_n 0, 1) := by decide +kernel
theorem dL_law_217 : decode cL_law 217 = .ok (.iload_n 3, 1) := by decide +kernel
theorem dL_law_218 : decode cL_law 218 = .ok (.iconst 1, 1) := by decide +kernel
theorem dL_law_219 : decode cL_law 219 = .ok (.iadd, 1) := by decide +kernel
theorem dL_law_220 : decode cL_law 220 = .ok (.iaload, 1) := by decide +kernel
theorem dL_law_221 : decode cL_law 221 = .ok (.aload_n 0, 1) := by decide +kernel
theorem dL_law_222 : decode cL_law 222 = .ok (.iload_n 3, 1) := by decide +kernel
theorem dL_law_223 : decode cL_law 223 = .ok (.iconst 2, 1) := by decide +kernel
theorem dL_law_224 : decode cL_law 224 = .ok (.iadd, 1) := by decide +kernel
theorem dL_law_225 : decode cL_law 225 = .ok (.iaload, 1) := by decide +kernel
theorem dL_law_226 : decode cL_law 226 = .ok (.aload_n 0, 1) := by decide +kernel
theorem dL_law_227 : decode cL_law 227 = .ok (.iload_n 3, 1) := by decide +kernel
theorem dL_law_228 : decode cL_law 228 = .ok (.iconst 3, 1) := by decide +kernel
theorem dL_law_229 : decode cL_law 229 = .ok (.iadd, 1) := by decide +kernel
theorem dL_law_230 : decode cL_law 230 = .ok (.iaload, 1) := by decide +kernel
theorem dL_law_231 : decode cL_law 231 = .ok (.invokevirtual 20, 3) := by decide +kernel
theorem dL_law_234 : decode cL_law 234 = .ok (.aload_n 2, 1) := by decide +kernel
theorem dL_law_235 : decode cL_law 235 = .ok (.aload_n 0, 1) := by decide +kernel
theorem dL_law_236 : decode cL_law 236 = .ok (.iload_n 3, 1) := by decide +kernel
theorem dL_law_237 : decode cL_law 237 = .ok (.iconst 1, 1) := by decide +kernel
theorem dL_law_238 : decode cL_law 238 = .ok (.iadd, 1) := by decide +kernel
theorem dL_law_239 : decode cL_law 239 = .ok (.iaload, 1) := by decide +kernel
theorem dL_law_240 : decode cL_law 240 = .ok (.aload_n 0, 1) := by decide +kernel
theorem dL_law_241 : decode cL_law 241 = .ok (.iload_n 3, 1) := by decide +kernel
theorem dL_law_242 : decode cL_law 242 = .ok (.iconst 2, 1) := by decide +kernel
theorem dL_law_243 : decode cL_law 243 = .ok (.iadd, 1) := by decide +kernel
theorem dL_law_244 : decode cL_law 244 = .ok (.iaload, 1) := by decide +kernel
theorem dL_law_245 : decode cL_law 245 = .ok (.aload_n 0, 1) := by decide +kernel
theorem dL_law_246 : decode cL_law 246 = .ok (.iload_n 3, 1) := by decide +kernel
theorem dL_law_247 : decode cL_law 247 = .ok (.iconst 3, 1) := by decide +kernel
theorem dL_law_248 : decode cL_law 248 = .ok (.iadd, 1) := by decide +kernel
theorem dL_law_249 : decode cL_law 249 = .ok (.iaload, 1) := by decide +kernel
theorem dL_law_250 : decode cL_law 250 = .ok (.invokevirtual 24, 3) := by decide +kernel
theorem dL_law_253 : decode cL_law 253 = .ok (.if_icmp .eq 644, 3) := by decide +kernel
theorem dL_law_256 : decode cL_law 256 = .ok (.iconst 0, 1) := by decide +kernel
theorem dL_law_257 : decode cL_law 257 = .ok (.ireturn, 1) := by decide +kernel
theorem dL_law_258 : decode cL_law 258 = .ok (.aload_n 1, 1) := by decide +kernel
theorem dL_law_259 : decode cL_law 259 = .ok (.aload_n 0, 1) := by decide +kernel
theorem dL_law_260 : decode cL_law 260 = .ok (.iload_n 3, 1) := by decide +kernel
theorem dL_law_261 : decode cL_law 261 = .ok (.iconst 1, 1) := by decide +kernel
theorem dL_law_262 : decode cL_law 262 = .ok (.iadd, 1) := by decide +kernel
theorem dL_law_263 : decode cL_law 263 = .ok (.iaload, 1) := by decide +kernel
theorem dL_law_264 : decode cL_law 264 = .ok (.aload_n 0, 1) := by decide +kernel
theorem dL_law_265 : decode cL_law 265 = .ok (.iload_n 3, 1) := by decide +kernel
theorem dL_law_266 : decode cL_law 266 = .ok (.iconst 2, 1) := by decide +kernel
theorem dL_law_267 : decode cL_law 267 = .ok (.iadd, 1) := by decide +kernel
theorem dL_law_268 : decode cL_law 268 = .ok (.iaload, 1) := by decide +kernel
theorem dL_law_269 : decode cL_law 269 = .ok (.aload_n 0, 1) := by decide +kernel
theorem dL_law_270 : decode cL_law 270 = .ok (.iload_n 3, 1) := by decide +kernel
theorem dL_law_271 : decode cL_law 271 = .ok (.iconst 3, 1) := by decide +kernel
theorem dL_law_272 : decode cL_law 272 = .ok (.iadd, 1) := by decide +kernel
theorem dL_law_273 : decode cL_law 273 = .ok (.iaload, 1) := by decide +kernel
theorem dL_law_274 : decode cL_law 274 = .ok (.invokevirtual 25, 3) := by decide +kernel
theorem dL_law_277 : decode cL_law 277 = .ok (.aload_n 2, 1) := by decide +kernel
theorem dL_law_278 : decode cL_law 278 = .ok (.aload_n 0, 1) := by decide +kernel
theorem dL_law_279 : decode cL_law 279 = .ok (.iload_n 3, 1) := by decide +kernel
theorem dL_law_280 : decode cL_law 280 = .ok (.iconst 1, 1) := by decide +kernel
theorem dL_law_281 : decode cL_law 281 = .ok (.iadd, 1) := by decide +kernel
theorem dL_law_282 : decode cL_law 282 = .ok (.iaload, 1) := by decide +kernel
theorem dL_law_283 : decode cL_law 283 = .ok (.aload_n 0, 1) := by decide +kernel
theorem dL_law_284 : decode cL_law 284 = .ok (.iload_n 3, 1) := by decide +kernel
theorem dL_law_285 : decode cL_law 285 = .ok (.iconst 2, 1) := by decide +kernel
theorem dL_law_286 : decode cL_law 286 = .ok (.iadd, 1) := by decide +kernel
theorem dL_law_287 : decode cL_law 287 = .ok (.iaload, 1) := by decide +kernel
theorem dL_law_288 : decode cL_law 288 = .ok (.aload_n 0, 1) := by decide +kernel
theorem dL_law_289 : decode cL_law 289 = .ok (.iload_n 3, 1) := by decide +kernel
theorem dL_law_290 : decode cL_law 290 = .ok (.iconst 3, 1) := by decide +kernel
theorem dL_law_291 : decode cL_law 291 = .ok (.iadd, 1) := by decide +kernel
theorem dL_law_292 : decode cL_law 292 = .ok (.iaload, 1) := by decide +kernel
theorem dL_law_293 : decode cL_law 293 = .ok (.invokevirtual 28, 3) := by decide +kernel
theorem dL_law_296 : decode cL_law 296 = .ok (.if_icmp .eq 601, 3) := by decide +kernel
theorem dL_law_299 : decode cL_law 299 = .ok (.iconst 0, 1) := by decide +kernel
theorem dL_law_300 : decode cL_law 300 = .ok (.ireturn, 1) := by decide +kernel
theorem dL_law_301 : decode cL_law 301 = .ok (.aload_n 1, 1) := by decide +kernel
theorem dL_law_302 : decode cL_law 302 = .ok (.aload_n 0, 1) := by decide +kernel
theorem dL_law_303 : decode cL_law 303 = .ok (.iload_n 3, 1) := by decide +kernel
theorem dL_law_304 : decode cL_law 304 = .ok (.iconst 1, 1) := by decide +kernel
theorem dL_law_305 : decode cL_law 305 = .ok (.iadd, 1) := by decide +kernel
theorem dL_law_306 : decode cL_law 306 = .ok (.iaload, 1) := by decide +kernel
theorem dL_law_307 : decode cL_law 307 = .ok (.aload_n 0, 1) := by decide +kernel
theorem dL_law_308 : decode cL_law 308 = .ok (.iload_n 3, 1) := by decide +kernel
theorem dL_law_309 : decode cL_law 309 = .ok (.iconst 2, 1) := by decide +kernel
theorem dL_law_310 : decode cL_law 310 = .ok (.iadd, 1) := by decide +kernel
theorem dL_law_311 : decode cL_law 311 = .ok (.iaload, 1) := by decide +kernel
theorem dL_law_312 : decode cL_law 312 = .ok (.invokevirtual 29, 3) := by decide +kernel
theorem dL_law_315 : decode cL_law 315 = .ok (.aload_n 2, 1) := by decide +kernel
theorem dL_law_316 : decode cL_law 316 = .ok (.aload_n 0, 1) := by decide +kernel
theorem dL_law_317 : decode cL_law 317 = .ok (.iload_n 3, 1) := by decide +kernel
theorem dL_law_318 : decode cL_law 318 = .ok (.iconst 1, 1) := by decide +kernel
theorem dL_law_319 : decode cL_law 319 = .ok (.iadd, 1) := by decide +kernel
theorem dL_law_320 : decode cL_law 320 = .ok (.iaload, 1) := by decide +kernel
theorem dL_law_321 : decode cL_law 321 = .ok (.aload_n 0, 1) := by decide +kernel
theorem dL_law_322 : decode cL_law 322 = .ok (.iload_n 3, 1) := by decide +kernel
theorem dL_law_323 : decode cL_law 323 = .ok (.iconst 2, 1) := by decide +kernel
theorem dL_law_324 : decode cL_law 324 = .ok (.iadd, 1) := by decide +kernel
theorem dL_law_325 : decode cL_law 325 = .ok (.iaload, 1) := by decide +kernel
theorem dL_law_326 : decode cL_law 326 = .ok (.invokevirtual 33, 3) := by decide +kernel
theorem dL_law_329 : decode cL_law 329 = .ok (.if_icmp .eq 568, 3) := by decide +kernel
theorem dL_law_332 : decode cL_law 332 = .ok (.iconst 0, 1) := by decide +kernel
theorem dL_law_333 : decode cL_law 333 = .ok (.ireturn, 1) := by decide +kernel
theorem dL_law_334 : decode cL_law 334 = .ok (.aload_n 1, 1) := by decide +kernel
theorem dL_law_335 : decode cL_law 335 = .ok (.aload_n 0, 1) := by decide +kernel
theorem dL_law_336 : decode cL_law 336 = .ok (.iload_n 3, 1) := by decide +kernel
theorem dL_law_337 : decode cL_law 337 = .ok (.iconst 1, 1) := by decide +kernel
theorem dL_law_338 : decode cL_law 338 = .ok (.iadd, 1) := by decide +kernel
theorem dL_law_339 : decode cL_law 339 = .ok (.iaload, 1) := by decide +kernel
theorem dL_law_340 : decode cL_law 340 = .ok (.aload_n 0, 1) := by decide +kernel
theorem dL_law_341 : decode cL_law 341 = .ok (.iload_n 3, 1) := by decide +kernel
theorem dL_law_342 : decode cL_law 342 = .ok (.iconst 2, 1) := by decide +kernel
theorem dL_law_343 : decode cL_law 343 = .ok (.iadd, 1) := by decide +kernel
theorem dL_law_344 : decode cL_law 344 = .ok (.iaload, 1) := by decide +kernel
theorem dL_law_345 : decode cL_law 345 = .ok (.invokevirtual 34, 3) := by decide +kernel
theorem dL_law_348 : decode cL_law 348 = .ok (.aload_n 2, 1) := by decide +kernel
theorem dL_law_349 : decode cL_law 349 = .ok (.aload_n 0, 1) := by decide +kernel
theorem dL_law_350 : decode cL_law 350 = .ok (.iload_n 3, 1) := by decide +kernel
theorem dL_law_351 : decode cL_law 351 = .ok (.iconst 1, 1) := by decide +kernel
theorem dL_law_352 : decode cL_law 352 = .ok (.iadd, 1) := by decide +kernel
theorem dL_law_353 : decode cL_law 353 = .ok (.iaload, 1) := by decide +kernel
theorem dL_law_354 : decode cL_law 354 = .ok (.aload_n 0, 1) := by decide +kernel
theorem dL_law_355 : decode cL_law 355 = .ok (.iload_n 3, 1) := by decide +kernel
theorem dL_law_356 : decode cL_law 356 = .ok (.iconst 2, 1) := by decide +kernel
theorem dL_law_357 : decode cL_law 357 = .ok (.iadd, 1) := by decide +kernel
theorem dL_law_358 : decode cL_law 358 = .ok (.iaload, 1) := by decide +kernel
theorem dL_law_359 : decode cL_law 359 = .ok (.invokevirtual 37, 3) := by decide +kernel
theorem dL_law_362 : decode cL_law 362 = .ok (.if_icmp .eq 535, 3) := by decide +kernel
theorem dL_law_365 : decode cL_law 365 = .ok (.iconst 0, 1) := by decide +kernel
theorem dL_law_366 : decode cL_law 366 = .ok (.ireturn, 1) := by decide +kernel
theorem dL_law_367 : decode cL_law 367 = .ok (.aload_n 1, 1) := by decide +kernel
theorem dL_law_368 : decode cL_law 368 = .ok (.aload_n 0, 1) := by decide +kernel
theorem dL_law_369 : decode cL_law 369 = .ok (.iload_n 3, 1) := by decide +kernel
theorem dL_law_370 : decode cL_law 370 = .ok (.iconst 1, 1) := by decide +kernel
theorem dL_law_371 : decode cL_law 371 = .ok (.iadd, 1) := by decide +kernel
theorem dL_law_372 : decode cL_law 372 = .ok (.iaload, 1) := by decide +kernel
theorem dL_law_373 : decode cL_law 373 = .ok (.aload_n 0, 1) := by decide +kernel
theorem dL_law_374 : decode cL_law 374 = .ok (.iload_n 3, 1) := by decide +kernel
theorem dL_law_375 : decode cL_law 375 = .ok (.iconst 2, 1) := by decide +kernel
theorem dL_law_376 : decode cL_law 376 = .ok (.iadd, 1) := by decide +kernel
theorem dL_law_377 : decode cL_law 377 = .ok (.iaload, 1) := by decide +kernel
theorem dL_law_378 : decode cL_law 378 = .ok (.aload_n 0, 1) := by decide +kernel
theorem dL_law_379 : decode cL_law 379 = .ok (.iload_n 3, 1) := by decide +kernel
theorem dL_law_380 : decode cL_law 380 = .ok (.iconst 3, 1) := by decide +kernel
theorem dL_law_381 : decode cL_law 381 = .ok (.iadd, 1) := by decide +kernel
theorem dL_law_382 : decode cL_law 382 = .ok (.iaload, 1) := by decide +kernel
theorem dL_law_383 : decode cL_law 383 = .ok (.invokevirtual 38, 3) := by decide +kernel
theorem dL_law_386 : decode cL_law 386 = .ok (.aload_n 2, 1) := by decide +kernel
theorem dL_law_387 : decode cL_law 387 = .ok (.aload_n 0, 1) := by decide +kernel
theorem dL_law_388 : decode cL_law 388 = .ok (.iload_n 3, 1) := by decide +kernel
theorem dL_law_389 : decode cL_law 389 = .ok (.iconst 1, 1) := by decide +kernel
theorem dL_law_390 : decode cL_law 390 = .ok (.iadd, 1) := by decide +kernel
theorem dL_law_391 : decode cL_law 391 = .ok (.iaload, 1) := by decide +kernel
theorem dL_law_392 : decode cL_law 392 = .ok (.aload_n 0, 1) := by decide +kernel
theorem dL_law_393 : decode cL_law 393 = .ok (.iload_n 3, 1) := by decide +kernel
theorem dL_law_394 : decode cL_law 394 = .ok (.iconst 2, 1) := by decide +kernel
theorem dL_law_395 : decode cL_law 395 = .ok (.iadd, 1) := by decide +kernel
theorem dL_law_396 : decode cL_law 396 = .ok (.iaload, 1) := by decide +kernel
theorem dL_law_397 : decode cL_law 397 = .ok (.aload_n 0, 1) := by decide +kernel
theorem dL_law_398 : decode cL_law 398 = .ok (.iload_n 3, 1) := by decide +kernel
theorem dL_law_399 : decode cL_law 399 = .ok (.iconst 3, 1) := by decide +kernel
theorem dL_law_400 : decode cL_law 400 = .ok (.iadd, 1) := by decide +kernel
theorem dL_law_401 : decode cL_law 401 = .ok (.iaload, 1) := by decide +kernel
theorem dL_law_402 : decode cL_law 402 = .ok (.invokevirtual 41, 3) := by decide +kernel
theorem dL_law_405 : decode cL_law 405 = .ok (.if_icmp .eq 492, 3) := by decide +kernel
theorem dL_law_408 : decode cL_law 408 = .ok (.iconst 0, 1) := by decide +kernel
theorem dL_law_409 : decode cL_law 409 = .ok (.ireturn, 1) := by decide +kernel
theorem dL_law_410 : decode cL_law 410 = .ok (.aload_n 1, 1) := by decide +kernel
theorem dL_law_411 : decode cL_law 411 = .ok (.aload_n 0, 1) := by decide +kernel
theorem dL_law_412 : decode cL_law 412 = .ok (.iload_n 3, 1) := by decide +kernel
theorem dL_law_413 : decode cL_law 413 = .ok (.iconst 1, 1) := by decide +kernel
theorem dL_law_414 : decode cL_law 414 = .ok (.iadd, 1) := by decide +kernel
theorem dL_law_415 : decode cL_law 415 = .ok (.iaload, 1) := by decide +kernel
theorem dL_law_416 : decode cL_law 416 = .ok (.aload_n 0, 1) := by decide +kernel
theorem dL_law_417 : decode cL_law 417 = .ok (.iload_n 3, 1) := by decide +kernel
theorem dL_law_418 : decode cL_law 418 = .ok (.iconst 2, 1) := by decide +kernel
theorem dL_law_419 : decode cL_law 419 = .ok (.iadd, 1) := by decide +kernel
theorem dL_law_420 : decode cL_law 420 = .ok (.iaload, 1) := by decide +kernel
theorem dL_law_421 : decode cL_law 421 = .ok (.aload_n 0, 1) := by decide +kernel
theorem dL_law_422 : decode cL_law 422 = .ok (.iload_n 3, 1) := by decide +kernel
theorem dL_law_423 : decode cL_law 423 = .ok (.iconst 3, 1) := by decide +kernel
theorem dL_law_424 : decode cL_law 424 = .ok (.iadd, 1) := by decide +kernel
theorem dL_law_425 : decode cL_law 425 = .ok (.iaload, 1) := by decide +kernel
theorem dL_law_426 : decode cL_law 426 = .ok (.invokevirtual 42, 3) := by decide +kernel
theorem dL_law_429 : decode cL_law 429 = .ok (.aload_n 2, 1) := by decide +kernel
theorem dL_law_430 : decode cL_law 430 = .ok (.aload_n 0, 1) := by decide +kernel
theorem dL_law_431 : decode cL_law 431 = .ok (.iload_n 3, 1) := by decide +kernel
theorem dL_law_432 : decode cL_law 432 = .ok (.iconst 1, 1) := by decide +kernel
theorem dL_law_433 : decode cL_law 433 = .ok (.iadd, 1) := by decide +kernel
theorem dL_law_434 : decode cL_law 434 = .ok (.iaload, 1) := by decide +kernel
theorem dL_law_435 : decode cL_law 435 = .ok (.aload_n 0, 1) := by decide +kernel
theorem dL_law_436 : decode cL_law 436 = .ok (.iload_n 3, 1) := by decide +kernel
theorem dL_law_437 : decode cL_law 437 = .ok (.iconst 2, 1) := by decide +kernel
theorem dL_law_438 : decode cL_law 438 = .ok (.iadd, 1) := by decide +kernel
theorem dL_law_439 : decode cL_law 439 = .ok (.iaload, 1) := by decide +kernel
theorem dL_law_440 : decode cL_law 440 = .ok (.aload_n 0, 1) := by decide +kernel
theorem dL_law_441 : decode cL_law 441 = .ok (.iload_n 3, 1) := by decide +kernel
theorem dL_law_442 : decode cL_law 442 = .ok (.iconst 3, 1) := by decide +kernel
theorem dL_law_443 : decode cL_law 443 = .ok (.iadd, 1) := by decide +kernel
theorem dL_law_444 : decode cL_law 444 = .ok (.iaload, 1) := by decide +kernel
theorem dL_law_445 : decode cL_law 445 = .ok (.invokevirtual 45, 3) := by decide +kernel
theorem dL_law_448 : decode cL_law 448 = .ok (.if_icmp .eq 449, 3) := by decide +kernel
theorem dL_law_451 : decode cL_law 451 = .ok (.iconst 0, 1) := by decide +kernel
theorem dL_law_452 : decode cL_law 452 = .ok (.ireturn, 1) := by decide +kernel
theorem dL_law_453 : decode cL_law 453 = .ok (.aload_n 1, 1) := by decide +kernel
theorem dL_law_454 : decode cL_law 454 = .ok (.aload_n 0, 1) := by decide +kernel
theorem dL_law_455 : decode cL_law 455 = .ok (.iload_n 3, 1) := by decide +kernel
theorem dL_law_456 : decode cL_law 456 = .ok (.iconst 1, 1) := by decide +kernel
theorem dL_law_457 : decode cL_law 457 = .ok (.iadd, 1) := by decide +kernel
theorem dL_law_458 : decode cL_law 458 = .ok (.iaload, 1) := by decide +kernel
theorem dL_law_459 : decode cL_law 459 = .ok (.aload_n 0, 1) := by decide +kernel
theorem dL_law_460 : decode cL_law 460 = .ok (.iload_n 3, 1) := by decide +kernel
theorem dL_law_461 : decode cL_law 461 = .ok (.iconst 2, 1) := by decide +kernel
theorem dL_law_462 : decode cL_law 462 = .ok (.iadd, 1) := by decide +kernel
theorem dL_law_463 : decode cL_law 463 = .ok (.iaload, 1) := by decide +kernel
theorem dL_law_464 : decode cL_law 464 = .ok (.invokevirtual 46, 3) := by decide +kernel
theorem dL_law_467 : decode cL_law 467 = .ok (.aload_n 2, 1) := by decide +kernel
theorem dL_law_468 : decode cL_law 468 = .ok (.aload_n 0, 1) := by decide +kernel
theorem dL_law_469 : decode cL_law 469 = .ok (.iload_n 3, 1) := by decide +kernel
theorem dL_law_470 : decode cL_law 470 = .ok (.iconst 1, 1) := by decide +kernel
theorem dL_law_471 : decode cL_law 471 = .ok (.iadd, 1) := by decide +kernel
theorem dL_law_472 : decode cL_law 472 = .ok (.iaload, 1) := by decide +kernel
theorem dL_law_473 : decode cL_law 473 = .ok (.aload_n 0, 1) := by decide +kernel
theorem dL_law_474 : decode cL_law 474 = .ok (.iload_n 3, 1) := by decide +kernel
theorem dL_law_475 : decode cL_law 475 = .ok (.iconst 2, 1) := by decide +kernel
theorem dL_law_476 : decode cL_law 476 = .ok (.iadd, 1) := by decide +kernel
theorem dL_law_477 : decode cL_law 477 = .ok (.iaload, 1) := by decide +kernel
theorem dL_law_478 : decode cL_law 478 = .ok (.invokevirtual 49, 3) := by decide +kernel
theorem dL_law_481 : decode cL_law 481 = .ok (.if_icmp .eq 416, 3) := by decide +kernel
theorem dL_law_484 : decode cL_law 484 = .ok (.iconst 0, 1) := by decide +kernel
theorem dL_law_485 : decode cL_law 485 = .ok (.ireturn, 1) := by decide +kernel
theorem dL_law_486 : decode cL_law 486 = .ok (.aload_n 1, 1) := by decide +kernel
theorem dL_law_487 : decode cL_law 487 = .ok (.aload_n 0, 1) := by decide +kernel
theorem dL_law_488 : decode cL_law 488 = .ok (.iload_n 3, 1) := by decide +kernel
theorem dL_law_489 : decode cL_law 489 = .ok (.iconst 1, 1) := by decide +kernel
theorem dL_law_490 : decode cL_law 490 = .ok (.iadd, 1) := by decide +kernel
theorem dL_law_491 : decode cL_law 491 = .ok (.iaload, 1) := by decide +kernel
theorem dL_law_492 : decode cL_law 492 = .ok (.aload_n 0, 1) := by decide +kernel
theorem dL_law_493 : decode cL_law 493 = .ok (.iload_n 3, 1) := by decide +kernel
theorem dL_law_494 : decode cL_law 494 = .ok (.iconst 2, 1) := by decide +kernel
theorem dL_law_495 : decode cL_law 495 = .ok (.iadd, 1) := by decide +kernel
theorem dL_law_496 : decode cL_law 496 = .ok (.iaload, 1) := by decide +kernel
theorem dL_law_497 : decode cL_law 497 = .ok (.aload_n 0, 1) := by decide +kernel
theorem dL_law_498 : decode cL_law 498 = .ok (.iload_n 3, 1) := by decide +kernel
theorem dL_law_499 : decode cL_law 499 = .ok (.iconst 3, 1) := by decide +kernel
theorem dL_law_500 : decode cL_law 500 = .ok (.iadd, 1) := by decide +kernel
theorem dL_law_501 : decode cL_law 501 = .ok (.iaload, 1) := by decide +kernel
theorem dL_law_502 : decode cL_law 502 = .ok (.invokevirtual 50, 3) := by decide +kernel
theorem dL_law_505 : decode cL_law 505 = .ok (.aload_n 2, 1) := by decide +kernel
theorem dL_law_506 : decode cL_law 506 = .ok (.aload_n 0, 1) := by decide +kernel
theorem dL_law_507 : decode cL_law 507 = .ok (.iload_n 3, 1) := by decide +kernel
theorem dL_law_508 : decode cL_law 508 = .ok (.iconst 1, 1) := by decide +kernel
theorem dL_law_509 : decode cL_law 509 = .ok (.iadd, 1) := by decide +kernel
theorem dL_law_510 : decode cL_law 510 = .ok (.iaload, 1) := by decide +kernel
theorem dL_law_511 : decode cL_law 511 = .ok (.aload_n 0, 1) := by decide +kernel
theorem dL_law_512 : decode cL_law 512 = .ok (.iload_n 3, 1) := by decide +kernel
theorem dL_law_513 : decode cL_law 513 = .ok (.iconst 2, 1) := by decide +kernel
theorem dL_law_514 : decode cL_law 514 = .ok (.iadd, 1) := by decide +kernel
theorem dL_law_515 : decode cL_law 515 = .ok (.iaload, 1) := by decide +kernel
theorem dL_law_516 : decode cL_law 516 = .ok (.aload_n 0, 1) := by decide +kernel
theorem dL_law_517 : decode cL_law 517 = .ok (.iload_n 3, 1) := by decide +kernel
theorem dL_law_518 : decode cL_law 518 = .ok (.iconst 3, 1) := by decide +kernel
theorem dL_law_519 : decode cL_law 519 = .ok (.iadd, 1) := by decide +kernel
theorem dL_law_520 : decode cL_law 520 = .ok (.iaload, 1) := by decide +kernel
theorem dL_law_521 : decode cL_law 521 = .ok (.invokevirtual 53, 3) := by decide +kernel
theorem dL_law_524 : decode cL_law 524 = .ok (.if_icmp .eq 373, 3) := by decide +kernel
theorem dL_law_527 : decode cL_law 527 = .ok (.iconst 0, 1) := by decide +kernel
theorem dL_law_528 : decode cL_law 528 = .ok (.ireturn, 1) := by decide +kernel
theorem dL_law_529 : decode cL_law 529 = .ok (.aload_n 1, 1) := by decide +kernel
theorem dL_law_530 : decode cL_law 530 = .ok (.aload_n 0, 1) := by decide +kernel
theorem dL_law_531 : decode cL_law 531 = .ok (.iload_n 3, 1) := by decide +kernel
theorem dL_law_532 : decode cL_law 532 = .ok (.iconst 1, 1) := by decide +kernel
theorem dL_law_533 : decode cL_law 533 = .ok (.iadd, 1) := by decide +kernel
theorem dL_law_534 : decode cL_law 534 = .ok (.iaload, 1) := by decide +kernel
theorem dL_law_535 : decode cL_law 535 = .ok (.aload_n 0, 1) := by decide +kernel
theorem dL_law_536 : decode cL_law 536 = .ok (.iload_n 3, 1) := by decide +kernel
theorem dL_law_537 : decode cL_law 537 = .ok (.iconst 2, 1) := by decide +kernel
theorem dL_law_538 : decode cL_law 538 = .ok (.iadd, 1) := by decide +kernel
theorem dL_law_539 : decode cL_law 539 = .ok (.iaload, 1) := by decide +kernel
theorem dL_law_540 : decode cL_law 540 = .ok (.aload_n 0, 1) := by decide +kernel
theorem dL_law_541 : decode cL_law 541 = .ok (.iload_n 3, 1) := by decide +kernel
theorem dL_law_542 : decode cL_law 542 = .ok (.iconst 3, 1) := by decide +kernel
theorem dL_law_543 : decode cL_law 543 = .ok (.iadd, 1) := by decide +kernel
theorem dL_law_544 : decode cL_law 544 = .ok (.iaload, 1) := by decide +kernel
theorem dL_law_545 : decode cL_law 545 = .ok (.invokevirtual 54, 3) := by decide +kernel
theorem dL_law_548 : decode cL_law 548 = .ok (.aload_n 2, 1) := by decide +kernel
theorem dL_law_549 : decode cL_law 549 = .ok (.aload_n 0, 1) := by decide +kernel
theorem dL_law_550 : decode cL_law 550 = .ok (.iload_n 3, 1) := by decide +kernel
theorem dL_law_551 : decode cL_law 551 = .ok (.iconst 1, 1) := by decide +kernel
theorem dL_law_552 : decode cL_law 552 = .ok (.iadd, 1) := by decide +kernel
theorem dL_law_553 : decode cL_law 553 = .ok (.iaload, 1) := by decide +kernel
theorem dL_law_554 : decode cL_law 554 = .ok (.aload_n 0, 1) := by decide +kernel
theorem dL_law_555 : decode cL_law 555 = .ok (.iload_n 3, 1) := by decide +kernel
theorem dL_law_556 : decode cL_law 556 = .ok (.iconst 2, 1) := by decide +kernel
theorem dL_law_557 : decode cL_law 557 = .ok (.iadd, 1) := by decide +kernel
theorem dL_law_558 : decode cL_law 558 = .ok (.iaload, 1) := by decide +kernel
theorem dL_law_559 : decode cL_law 559 = .ok (.aload_n 0, 1) := by decide +kernel
theorem dL_law_560 : decode cL_law 560 = .ok (.iload_n 3, 1) := by decide +kernel
theorem dL_law_561 : decode cL_law 561 = .ok (.iconst 3, 1) := by decide +kernel
theorem dL_law_562 : decode cL_law 562 = .ok (.iadd, 1) := by decide +kernel
theorem dL_law_563 : decode cL_law 563 = .ok (.iaload, 1) := by decide +kernel
theorem dL_law_564 : decode cL_law 564 = .ok (.invokevirtual 57, 3) := by decide +kernel
theorem dL_law_567 : decode cL_law 567 = .ok (.if_icmp .eq 330, 3) := by decide +kernel
theorem dL_law_570 : decode cL_law 570 = .ok (.iconst 0, 1) := by decide +kernel
theorem dL_law_571 : decode cL_law 571 = .ok (.ireturn, 1) := by decide +kernel
theorem dL_law_572 : decode cL_law 572 = .ok (.aload_n 1, 1) := by decide +kernel
theorem dL_law_573 : decode cL_law 573 = .ok (.aload_n 0, 1) := by decide +kernel
theorem dL_law_574 : decode cL_law 574 = .ok (.iload_n 3, 1) := by decide +kernel
theorem dL_law_575 : decode cL_law 575 = .ok (.iconst 1, 1) := by decide +kernel
theorem dL_law_576 : decode cL_law 576 = .ok (.iadd, 1) := by decide +kernel
theorem dL_law_577 : decode cL_law 577 = .ok (.iaload, 1) := by decide +kernel
theorem dL_law_578 : decode cL_law 578 = .ok (.aload_n 0, 1) := by decide +kernel
theorem dL_law_579 : decode cL_law 579 = .ok (.iload_n 3, 1) := by decide +kernel
theorem dL_law_580 : decode cL_law 580 = .ok (.iconst 2, 1) := by decide +kernel
theorem dL_law_581 : decode cL_law 581 = .ok (.iadd, 1) := by decide +kernel
theorem dL_law_582 : decode cL_law 582 = .ok (.iaload, 1) := by decide +kernel
theorem dL_law_583 : decode cL_law 583 = .ok (.aload_n 0, 1) := by decide +kernel
theorem dL_law_584 : decode cL_law 584 = .ok (.iload_n 3, 1) := by decide +kernel
theorem dL_law_585 : decode cL_law 585 = .ok (.iconst 3, 1) := by decide +kernel
theorem dL_law_586 : decode cL_law 586 = .ok (.iadd, 1) := by decide +kernel
theorem dL_law_587 : decode cL_law 587 = .ok (.iaload, 1) := by decide +kernel
theorem dL_law_588 : decode cL_law 588 = .ok (.invokevirtual 58, 3) := by decide +kernel
theorem dL_law_591 : decode cL_law 591 = .ok (.aload_n 2, 1) := by decide +kernel
theorem dL_law_592 : decode cL_law 592 = .ok (.aload_n 0, 1) := by decide +kernel
theorem dL_law_593 : decode cL_law 593 = .ok (.iload_n 3, 1) := by decide +kernel
theorem dL_law_594 : decode cL_law 594 = .ok (.iconst 1, 1) := by decide +kernel
theorem dL_law_595 : decode cL_law 595 = .ok (.iadd, 1) := by decide +kernel
theorem dL_law_596 : decode cL_law 596 = .ok (.iaload, 1) := by decide +kernel
theorem dL_law_597 : decode cL_law 597 = .ok (.aload_n 0, 1) := by decide +kernel
theorem dL_law_598 : decode cL_law 598 = .ok (.iload_n 3, 1) := by decide +kernel
theorem dL_law_599 : decode cL_law 599 = .ok (.iconst 2, 1) := by decide +kernel
theorem dL_law_600 : decode cL_law 600 = .ok (.iadd, 1) := by decide +kernel
theorem dL_law_601 : decode cL_law 601 = .ok (.iaload, 1) := by decide +kernel
theorem dL_law_602 : decode cL_law 602 = .ok (.aload_n 0, 1) := by decide +kernel
theorem dL_law_603 : decode cL_law 603 = .ok (.iload_n 3, 1) := by decide +kernel
theorem dL_law_604 : decode cL_law 604 = .ok (.iconst 3, 1) := by decide +kernel
theorem dL_law_605 : decode cL_law 605 = .ok (.iadd, 1) := by decide +kernel
theorem dL_law_606 : decode cL_law 606 = .ok (.iaload, 1) := by decide +kernel
theorem dL_law_607 : decode cL_law 607 = .ok (.invokevirtual 61, 3) := by decide +kernel
theorem dL_law_610 : decode cL_law 610 = .ok (.if_icmp .eq 287, 3) := by decide +kernel
theorem dL_law_613 : decode cL_law 613 = .ok (.iconst 0, 1) := by decide +kernel
theorem dL_law_614 : decode cL_law 614 = .ok (.ireturn, 1) := by decide +kernel
theorem dL_law_615 : decode cL_law 615 = .ok (.aload_n 1, 1) := by decide +kernel
theorem dL_law_616 : decode cL_law 616 = .ok (.aload_n 0, 1) := by decide +kernel
theorem dL_law_617 : decode cL_law 617 = .ok (.iload_n 3, 1) := by decide +kernel
theorem dL_law_618 : decode cL_law 618 = .ok (.iconst 1, 1) := by decide +kernel
theorem dL_law_619 : decode cL_law 619 = .ok (.iadd, 1) := by decide +kernel
theorem dL_law_620 : decode cL_law 620 = .ok (.iaload, 1) := by decide +kernel
theorem dL_law_621 : decode cL_law 621 = .ok (.aload_n 0, 1) := by decide +kernel
theorem dL_law_622 : decode cL_law 622 = .ok (.iload_n 3, 1) := by decide +kernel
theorem dL_law_623 : decode cL_law 623 = .ok (.iconst 2, 1) := by decide +kernel
theorem dL_law_624 : decode cL_law 624 = .ok (.iadd, 1) := by decide +kernel
theorem dL_law_625 : decode cL_law 625 = .ok (.iaload, 1) := by decide +kernel
theorem dL_law_626 : decode cL_law 626 = .ok (.aload_n 0, 1) := by decide +kernel
theorem dL_law_627 : decode cL_law 627 = .ok (.iload_n 3, 1) := by decide +kernel
theorem dL_law_628 : decode cL_law 628 = .ok (.iconst 3, 1) := by decide +kernel
theorem dL_law_629 : decode cL_law 629 = .ok (.iadd, 1) := by decide +kernel
theorem dL_law_630 : decode cL_law 630 = .ok (.iaload, 1) := by decide +kernel
theorem dL_law_631 : decode cL_law 631 = .ok (.invokevirtual 62, 3) := by decide +kernel
theorem dL_law_634 : decode cL_law 634 = .ok (.aload_n 2, 1) := by decide +kernel
theorem dL_law_635 : decode cL_law 635 = .ok (.aload_n 0, 1) := by decide +kernel
theorem dL_law_636 : decode cL_law 636 = .ok (.iload_n 3, 1) := by decide +kernel
theorem dL_law_637 : decode cL_law 637 = .ok (.iconst 1, 1) := by decide +kernel
theorem dL_law_638 : decode cL_law 638 = .ok (.iadd, 1) := by decide +kernel
theorem dL_law_639 : decode cL_law 639 = .ok (.iaload, 1) := by decide +kernel
theorem dL_law_640 : decode cL_law 640 = .ok (.aload_n 0, 1) := by decide +kernel
theorem dL_law_641 : decode cL_law 641 = .ok (.iload_n 3, 1) := by decide +kernel
theorem dL_law_642 : decode cL_law 642 = .ok (.iconst 2, 1) := by decide +kernel
theorem dL_law_643 : decode cL_law 643 = .ok (.iadd, 1) := by decide +kernel
theorem dL_law_644 : decode cL_law 644 = .ok (.iaload, 1) := by decide +kernel
theorem dL_law_645 : decode cL_law 645 = .ok (.aload_n 0, 1) := by decide +kernel
theorem dL_law_646 : decode cL_law 646 = .ok (.iload_n 3, 1) := by decide +kernel
theorem dL_law_647 : decode cL_law 647 = .ok (.iconst 3, 1) := by decide +kernel
theorem dL_law_648 : decode cL_law 648 = .ok (.iadd, 1) := by decide +kernel
theorem dL_law_649 : decode cL_law 649 = .ok (.iaload, 1) := by decide +kernel
theorem dL_law_650 : decode cL_law 650 = .ok (.invokevirtual 65, 3) := by decide +kernel
theorem dL_law_653 : decode cL_law 653 = .ok (.if_icmp .eq 244, 3) := by decide +kernel
theorem dL_law_656 : decode cL_law 656 = .ok (.iconst 0, 1) := by decide +kernel
theorem dL_law_657 : decode cL_law 657 = .ok (.ireturn, 1) := by decide +kernel
theorem dL_law_658 : decode cL_law 658 = .ok (.aload_n 1, 1) := by decide +kernel
theorem dL_law_659 : decode cL_law 659 = .ok (.aload_n 0, 1) := by decide +kernel
theorem dL_law_660 : decode cL_law 660 = .ok (.iload_n 3, 1) := by decide +kernel
theorem dL_law_661 : decode cL_law 661 = .ok (.iconst 1, 1) := by decide +kernel
theorem dL_law_662 : decode cL_law 662 = .ok (.iadd, 1) := by decide +kernel
theorem dL_law_663 : decode cL_law 663 = .ok (.iaload, 1) := by decide +kernel
theorem dL_law_664 : decode cL_law 664 = .ok (.aload_n 0, 1) := by decide +kernel
theorem dL_law_665 : decode cL_law 665 = .ok (.iload_n 3, 1) := by decide +kernel
theorem dL_law_666 : decode cL_law 666 = .ok (.iconst 2, 1) := by decide +kernel
theorem dL_law_667 : decode cL_law 667 = .ok (.iadd, 1) := by decide +kernel
theorem dL_law_668 : decode cL_law 668 = .ok (.iaload, 1) := by decide +kernel
theorem dL_law_669 : decode cL_law 669 = .ok (.aload_n 0, 1) := by decide +kernel
theorem dL_law_670 : decode cL_law 670 = .ok (.iload_n 3, 1) := by decide +kernel
theorem dL_law_671 : decode cL_law 671 = .ok (.iconst 3, 1) := by decide +kernel
theorem dL_law_672 : decode cL_law 672 = .ok (.iadd, 1) := by decide +kernel
theorem dL_law_673 : decode cL_law 673 = .ok (.iaload, 1) := by decide +kernel
theorem dL_law_674 : decode cL_law 674 = .ok (.invokevirtual 66, 3) := by decide +kernel
theorem dL_law_677 : decode cL_law 677 = .ok (.aload_n 2, 1) := by decide +kernel
theorem dL_law_678 : decode cL_law 678 = .ok (.aload_n 0, 1) := by decide +kernel
theorem dL_law_679 : decode cL_law 679 = .ok (.iload_n 3, 1) := by decide +kernel
theorem dL_law_680 : decode cL_law 680 = .ok (.iconst 1, 1) := by decide +kernel
theorem dL_law_681 : decode cL_law 681 = .ok (.iadd, 1) := by decide +kernel
theorem dL_law_682 : decode cL_law 682 = .ok (.iaload, 1) := by decide +kernel
theorem dL_law_683 : decode cL_law 683 = .ok (.aload_n 0, 1) := by decide +kernel
theorem dL_law_684 : decode cL_law 684 = .ok (.iload_n 3, 1) := by decide +kernel
theorem dL_law_685 : decode cL_law 685 = .ok (.iconst 2, 1) := by decide +kernel
theorem dL_law_686 : decode cL_law 686 = .ok (.iadd, 1) := by decide +kernel
theorem dL_law_687 : decode cL_law 687 = .ok (.iaload, 1) := by decide +kernel
theorem dL_law_688 : decode cL_law 688 = .ok (.aload_n 0, 1) := by decide +kernel
theorem dL_law_689 : decode cL_law 689 = .ok (.iload_n 3, 1) := by decide +kernel
theorem dL_law_690 : decode cL_law 690 = .ok (.iconst 3, 1) := by decide +kernel
theorem dL_law_691 : decode cL_law 691 = .ok (.iadd, 1) := by decide +kernel
theorem dL_law_692 : decode cL_law 692 = .ok (.iaload, 1) := by decide +kernel
theorem dL_law_693 : decode cL_law 693 = .ok (.invokevirtual 69, 3) := by decide +kernel
theorem dL_law_696 : decode cL_law 696 = .ok (.if_icmp .eq 201, 3) := by decide +kernel
theorem dL_law_699 : decode cL_law 699 = .ok (.iconst 0, 1) := by decide +kernel
theorem dL_law_700 : decode cL_law 700 = .ok (.ireturn, 1) := by decide +kernel
theorem dL_law_701 : decode cL_law 701 = .ok (.aload_n 1, 1) := by decide +kernel
theorem dL_law_702 : decode cL_law 702 = .ok (.aload_n 0, 1) := by decide +kernel
theorem dL_law_703 : decode cL_law 703 = .ok (.iload_n 3, 1) := by decide +kernel
theorem dL_law_704 : decode cL_law 704 = .ok (.iconst 1, 1) := by decide +kernel
theorem dL_law_705 : decode cL_law 705 = .ok (.iadd, 1) := by decide +kernel
theorem dL_law_706 : decode cL_law 706 = .ok (.iaload, 1) := by decide +kernel
theorem dL_law_707 : decode cL_law 707 = .ok (.aload_n 0, 1) := by decide +kernel
theorem dL_law_708 : decode cL_law 708 = .ok (.iload_n 3, 1) := by decide +kernel
theorem dL_law_709 : decode cL_law 709 = .ok (.iconst 2, 1) := by decide +kernel
theorem dL_law_710 : decode cL_law 710 = .ok (.iadd, 1) := by decide +kernel
theorem dL_law_711 : decode cL_law 711 = .ok (.iaload, 1) := by decide +kernel
theorem dL_law_712 : decode cL_law 712 = .ok (.invokevirtual 70, 3) := by decide +kernel
theorem dL_law_715 : decode cL_law 715 = .ok (.aload_n 2, 1) := by decide +kernel
theorem dL_law_716 : decode cL_law 716 = .ok (.aload_n 0, 1) := by decide +kernel
theorem dL_law_717 : decode cL_law 717 = .ok (.iload_n 3, 1) := by decide +kernel
theorem dL_law_718 : decode cL_law 718 = .ok (.iconst 1, 1) := by decide +kernel
theorem dL_law_719 : decode cL_law 719 = .ok (.iadd, 1) := by decide +kernel
theorem dL_law_720 : decode cL_law 720 = .ok (.iaload, 1) := by decide +kernel
theorem dL_law_721 : decode cL_law 721 = .ok (.aload_n 0, 1) := by decide +kernel
theorem dL_law_722 : decode cL_law 722 = .ok (.iload_n 3, 1) := by decide +kernel
theorem dL_law_723 : decode cL_law 723 = .ok (.iconst 2, 1) := by decide +kernel
theorem dL_law_724 : decode cL_law 724 = .ok (.iadd, 1) := by decide +kernel
theorem dL_law_725 : decode cL_law 725 = .ok (.iaload, 1) := by decide +kernel
theorem dL_law_726 : decode cL_law 726 = .ok (.invokevirtual 73, 3) := by decide +kernel
theorem dL_law_729 : decode cL_law 729 = .ok (.if_icmp .eq 168, 3) := by decide +kernel
theorem dL_law_732 : decode cL_law 732 = .ok (.iconst 0, 1) := by decide +kernel
theorem dL_law_733 : decode cL_law 733 = .ok (.ireturn, 1) := by decide +kernel
theorem dL_law_734 : decode cL_law 734 = .ok (.aload_n 1, 1) := by decide +kernel
theorem dL_law_735 : decode cL_law 735 = .ok (.aload_n 0, 1) := by decide +kernel
theorem dL_law_736 : decode cL_law 736 = .ok (.iload_n 3, 1) := by decide +kernel
theorem dL_law_737 : decode cL_law 737 = .ok (.iconst 1, 1) := by decide +kernel
theorem dL_law_738 : decode cL_law 738 = .ok (.iadd, 1) := by decide +kernel
theorem dL_law_739 : decode cL_law 739 = .ok (.iaload, 1) := by decide +kernel
theorem dL_law_740 : decode cL_law 740 = .ok (.aload_n 0, 1) := by decide +kernel
theorem dL_law_741 : decode cL_law 741 = .ok (.iload_n 3, 1) := by decide +kernel
theorem dL_law_742 : decode cL_law 742 = .ok (.iconst 2, 1) := by decide +kernel
theorem dL_law_743 : decode cL_law 743 = .ok (.iadd, 1) := by decide +kernel
theorem dL_law_744 : decode cL_law 744 = .ok (.iaload, 1) := by decide +kernel
theorem dL_law_745 : decode cL_law 745 = .ok (.aload_n 0, 1) := by decide +kernel
theorem dL_law_746 : decode cL_law 746 = .ok (.iload_n 3, 1) := by decide +kernel
theorem dL_law_747 : decode cL_law 747 = .ok (.iconst 3, 1) := by decide +kernel
theorem dL_law_748 : decode cL_law 748 = .ok (.iadd, 1) := by decide +kernel
theorem dL_law_749 : decode cL_law 749 = .ok (.iaload, 1) := by decide +kernel
theorem dL_law_750 : decode cL_law 750 = .ok (.aload_n 0, 1) := by decide +kernel
theorem dL_law_751 : decode cL_law 751 = .ok (.iload_n 3, 1) := by decide +kernel
theorem dL_law_752 : decode cL_law 752 = .ok (.iconst 4, 1) := by decide +kernel
theorem dL_law_753 : decode cL_law 753 = .ok (.iadd, 1) := by decide +kernel
theorem dL_law_754 : decode cL_law 754 = .ok (.iaload, 1) := by decide +kernel
theorem dL_law_755 : decode cL_law 755 = .ok (.invokevirtual 74, 3) := by decide +kernel
theorem dL_law_758 : decode cL_law 758 = .ok (.aload_n 2, 1) := by decide +kernel
theorem dL_law_759 : decode cL_law 759 = .ok (.aload_n 0, 1) := by decide +kernel
theorem dL_law_760 : decode cL_law 760 = .ok (.iload_n 3, 1) := by decide +kernel
theorem dL_law_761 : decode cL_law 761 = .ok (.iconst 1, 1) := by decide +kernel
theorem dL_law_762 : decode cL_law 762 = .ok (.iadd, 1) := by decide +kernel
theorem dL_law_763 : decode cL_law 763 = .ok (.iaload, 1) := by decide +kernel
theorem dL_law_764 : decode cL_law 764 = .ok (.aload_n 0, 1) := by decide +kernel
theorem dL_law_765 : decode cL_law 765 = .ok (.iload_n 3, 1) := by decide +kernel
theorem dL_law_766 : decode cL_law 766 = .ok (.iconst 2, 1) := by decide +kernel
theorem dL_law_767 : decode cL_law 767 = .ok (.iadd, 1) := by decide +kernel
theorem dL_law_768 : decode cL_law 768 = .ok (.iaload, 1) := by decide +kernel
theorem dL_law_769 : decode cL_law 769 = .ok (.aload_n 0, 1) := by decide +kernel
theorem dL_law_770 : decode cL_law 770 = .ok (.iload_n 3, 1) := by decide +kernel
theorem dL_law_771 : decode cL_law 771 = .ok (.iconst 3, 1) := by decide +kernel
theorem dL_law_772 : decode cL_law 772 = .ok (.iadd, 1) := by decide +kernel
theorem dL_law_773 : decode cL_law 773 = .ok (.iaload, 1) := by decide +kernel
theorem dL_law_774 : decode cL_law 774 = .ok (.aload_n 0, 1) := by decide +kernel
theorem dL_law_775 : decode cL_law 775 = .ok (.iload_n 3, 1) := by decide +kernel
theorem dL_law_776 : decode cL_law 776 = .ok (.iconst 4, 1) := by decide +kernel
theorem dL_law_777 : decode cL_law 777 = .ok (.iadd, 1) := by decide +kernel
theorem dL_law_778 : decode cL_law 778 = .ok (.iaload, 1) := by decide +kernel
theorem dL_law_779 : decode cL_law 779 = .ok (.invokevirtual 78, 3) := by decide +kernel
theorem dL_law_782 : decode cL_law 782 = .ok (.lcmp, 1) := by decide +kernel
theorem dL_law_783 : decode cL_law 783 = .ok (.ifCond .eq 114, 3) := by decide +kernel
theorem dL_law_786 : decode cL_law 786 = .ok (.iconst 0, 1) := by decide +kernel
theorem dL_law_787 : decode cL_law 787 = .ok (.ireturn, 1) := by decide +kernel
theorem dL_law_788 : decode cL_law 788 = .ok (.aload_n 1, 1) := by decide +kernel
theorem dL_law_789 : decode cL_law 789 = .ok (.aload_n 0, 1) := by decide +kernel
theorem dL_law_790 : decode cL_law 790 = .ok (.iload_n 3, 1) := by decide +kernel
theorem dL_law_791 : decode cL_law 791 = .ok (.iconst 1, 1) := by decide +kernel
theorem dL_law_792 : decode cL_law 792 = .ok (.iadd, 1) := by decide +kernel
theorem dL_law_793 : decode cL_law 793 = .ok (.iaload, 1) := by decide +kernel
theorem dL_law_794 : decode cL_law 794 = .ok (.aload_n 0, 1) := by decide +kernel
theorem dL_law_795 : decode cL_law 795 = .ok (.iload_n 3, 1) := by decide +kernel
theorem dL_law_796 : decode cL_law 796 = .ok (.iconst 2, 1) := by decide +kernel
theorem dL_law_797 : decode cL_law 797 = .ok (.iadd, 1) := by decide +kernel
theorem dL_law_798 : decode cL_law 798 = .ok (.iaload, 1) := by decide +kernel
theorem dL_law_799 : decode cL_law 799 = .ok (.i2l, 1) := by decide +kernel
theorem dL_law_800 : decode cL_law 800 = .ok (.bipush 32, 2) := by decide +kernel
theorem dL_law_802 : decode cL_law 802 = .ok (.lshl, 1) := by decide +kernel
theorem dL_law_803 : decode cL_law 803 = .ok (.aload_n 0, 1) := by decide +kernel
theorem dL_law_804 : decode cL_law 804 = .ok (.iload_n 3, 1) := by decide +kernel
theorem dL_law_805 : decode cL_law 805 = .ok (.iconst 3, 1) := by decide +kernel
theorem dL_law_806 : decode cL_law 806 = .ok (.iadd, 1) := by decide +kernel
theorem dL_law_807 : decode cL_law 807 = .ok (.iaload, 1) := by decide +kernel
theorem dL_law_808 : decode cL_law 808 = .ok (.i2l, 1) := by decide +kernel
theorem dL_law_809 : decode cL_law 809 = .ok (.ldc2_w 13, 3) := by decide +kernel
theorem dL_law_812 : decode cL_law 812 = .ok (.land, 1) := by decide +kernel
theorem dL_law_813 : decode cL_law 813 = .ok (.lor, 1) := by decide +kernel
theorem dL_law_814 : decode cL_law 814 = .ok (.invokevirtual 79, 3) := by decide +kernel
theorem dL_law_817 : decode cL_law 817 = .ok (.aload_n 2, 1) := by decide +kernel
theorem dL_law_818 : decode cL_law 818 = .ok (.aload_n 0, 1) := by decide +kernel
theorem dL_law_819 : decode cL_law 819 = .ok (.iload_n 3, 1) := by decide +kernel
theorem dL_law_820 : decode cL_law 820 = .ok (.iconst 1, 1) := by decide +kernel
theorem dL_law_821 : decode cL_law 821 = .ok (.iadd, 1) := by decide +kernel
theorem dL_law_822 : decode cL_law 822 = .ok (.iaload, 1) := by decide +kernel
theorem dL_law_823 : decode cL_law 823 = .ok (.aload_n 0, 1) := by decide +kernel
theorem dL_law_824 : decode cL_law 824 = .ok (.iload_n 3, 1) := by decide +kernel
theorem dL_law_825 : decode cL_law 825 = .ok (.iconst 2, 1) := by decide +kernel
theorem dL_law_826 : decode cL_law 826 = .ok (.iadd, 1) := by decide +kernel
theorem dL_law_827 : decode cL_law 827 = .ok (.iaload, 1) := by decide +kernel
theorem dL_law_828 : decode cL_law 828 = .ok (.i2l, 1) := by decide +kernel
theorem dL_law_829 : decode cL_law 829 = .ok (.bipush 32, 2) := by decide +kernel
theorem dL_law_831 : decode cL_law 831 = .ok (.lshl, 1) := by decide +kernel
theorem dL_law_832 : decode cL_law 832 = .ok (.aload_n 0, 1) := by decide +kernel
theorem dL_law_833 : decode cL_law 833 = .ok (.iload_n 3, 1) := by decide +kernel
theorem dL_law_834 : decode cL_law 834 = .ok (.iconst 3, 1) := by decide +kernel
theorem dL_law_835 : decode cL_law 835 = .ok (.iadd, 1) := by decide +kernel
theorem dL_law_836 : decode cL_law 836 = .ok (.iaload, 1) := by decide +kernel
theorem dL_law_837 : decode cL_law 837 = .ok (.i2l, 1) := by decide +kernel
theorem dL_law_838 : decode cL_law 838 = .ok (.ldc2_w 13, 3) := by decide +kernel
theorem dL_law_841 : decode cL_law 841 = .ok (.land, 1) := by decide +kernel
theorem dL_law_842 : decode cL_law 842 = .ok (.lor, 1) := by decide +kernel
theorem dL_law_843 : decode cL_law 843 = .ok (.invokevirtual 83, 3) := by decide +kernel
theorem dL_law_846 : decode cL_law 846 = .ok (.if_icmp .eq 51, 3) := by decide +kernel
theorem dL_law_849 : decode cL_law 849 = .ok (.iconst 0, 1) := by decide +kernel
theorem dL_law_850 : decode cL_law 850 = .ok (.ireturn, 1) := by decide +kernel
theorem dL_law_851 : decode cL_law 851 = .ok (.aload_n 1, 1) := by decide +kernel
theorem dL_law_852 : decode cL_law 852 = .ok (.invokevirtual 84, 3) := by decide +kernel
theorem dL_law_855 : decode cL_law 855 = .ok (.aload_n 2, 1) := by decide +kernel
theorem dL_law_856 : decode cL_law 856 = .ok (.invokevirtual 88, 3) := by decide +kernel
theorem dL_law_859 : decode cL_law 859 = .ok (.if_icmp .eq 38, 3) := by decide +kernel
theorem dL_law_862 : decode cL_law 862 = .ok (.iconst 0, 1) := by decide +kernel
theorem dL_law_863 : decode cL_law 863 = .ok (.ireturn, 1) := by decide +kernel
theorem dL_law_864 : decode cL_law 864 = .ok (.aload_n 1, 1) := by decide +kernel
theorem dL_law_865 : decode cL_law 865 = .ok (.aload_n 0, 1) := by decide +kernel
theorem dL_law_866 : decode cL_law 866 = .ok (.iload_n 3, 1) := by decide +kernel
theorem dL_law_867 : decode cL_law 867 = .ok (.iconst 1, 1) := by decide +kernel
theorem dL_law_868 : decode cL_law 868 = .ok (.iadd, 1) := by decide +kernel
theorem dL_law_869 : decode cL_law 869 = .ok (.iaload, 1) := by decide +kernel
theorem dL_law_870 : decode cL_law 870 = .ok (.aload_n 0, 1) := by decide +kernel
theorem dL_law_871 : decode cL_law 871 = .ok (.iload_n 3, 1) := by decide +kernel
theorem dL_law_872 : decode cL_law 872 = .ok (.iconst 2, 1) := by decide +kernel
theorem dL_law_873 : decode cL_law 873 = .ok (.iadd, 1) := by decide +kernel
theorem dL_law_874 : decode cL_law 874 = .ok (.iaload, 1) := by decide +kernel
theorem dL_law_875 : decode cL_law 875 = .ok (.invokevirtual 89, 3) := by decide +kernel
theorem dL_law_878 : decode cL_law 878 = .ok (.aload_n 2, 1) := by decide +kernel
theorem dL_law_879 : decode cL_law 879 = .ok (.aload_n 0, 1) := by decide +kernel
theorem dL_law_880 : decode cL_law 880 = .ok (.iload_n 3, 1) := by decide +kernel
theorem dL_law_881 : decode cL_law 881 = .ok (.iconst 1, 1) := by decide +kernel
theorem dL_law_882 : decode cL_law 882 = .ok (.iadd, 1) := by decide +kernel
theorem dL_law_883 : decode cL_law 883 = .ok (.iaload, 1) := by decide +kernel
theorem dL_law_884 : decode cL_law 884 = .ok (.aload_n 0, 1) := by decide +kernel
theorem dL_law_885 : decode cL_law 885 = .ok (.iload_n 3, 1) := by decide +kernel
theorem dL_law_886 : decode cL_law 886 = .ok (.iconst 2, 1) := by decide +kernel
theorem dL_law_887 : decode cL_law 887 = .ok (.iadd, 1) := by decide +kernel
theorem dL_law_888 : decode cL_law 888 = .ok (.iaload, 1) := by decide +kernel
theorem dL_law_889 : decode cL_law 889 = .ok (.invokevirtual 92, 3) := by decide +kernel
theorem dL_law_892 : decode cL_law 892 = .ok (.if_icmp .eq 5, 3) := by decide +kernel
theorem dL_law_895 : decode cL_law 895 = .ok (.iconst 0, 1) := by decide +kernel
theorem dL_law_896 : decode cL_law 896 = .ok (.ireturn, 1) := by decide +kernel
theorem dL_law_897 : decode cL_law 897 = .ok (.iinc 3 7, 3) := by decide +kernel
theorem dL_law_900 : decode cL_law 900 = .ok (.goto (-882), 3) := by decide +kernel
theorem dL_law_903 : decode cL_law 903 = .ok (.iconst 1, 1) := by decide +kernel
theorem dL_law_904 : decode cL_law 904 = .ok (.ireturn, 1) := by decide +kernel
end
section
/-! the machine layer: a judgement that hides the machine; locals as a list, the cells of a footprint as a list, their addresses ad 0, ad 1, .. -/
def TB : List Cond := lw_tbl.filter goodWord
theorem TB_good : ∀ w ∈ TB, (w.onTables && w.keeps) = true ∨ ∃ ty, w = .arrayClass ty := fun w h => good_of_word (List.mem_filter.mp h).2
theorem TB_at {w : Cond} (k : Nat) (h : lw_tbl[k]? = some w) (g : goodWord w = true) : w ∈ TB := List.mem_filter.mpr ⟨List.mem_of_getElem? h, g⟩
/-- a list's place, by structure -/
def gt {α : Type} : List α → Nat → Option α
  | [], _ => none
  | a :: _, 0 => some a
  | _ :: r, n + 1 => gt r n
theorem gt_eq {α : Type} : ∀ (l : List α) (k : Nat), gt l k = l[k]?
  | [], k => by simp [gt]
  | a :: r, 0 => by simp [gt]
  | a :: r, n + 1 => by simp [gt, gt_eq r n]
def isL : Value → Bool
  | .long _ => true
  | .double _ => true
  | _ => false
theorem isL_cat (v : Value) : isL v = true ↔ v.category = 2 := by cases v <;> simp [isL, Value.category]
def lkill : List (Option Value) → List (Option Value)
  | [] => []
  | _ :: r => none :: r
def lkeep : Option Value → Option Value
  | some v => bif isL v then none else some v
  | none => none
/-- storing into the locals -/
def lset : List (Option Value) → Nat → Value → List (Option Value)
  | [], _, _ => []
  | _ :: r, 0, v => some v :: (bif isL v then lkill r else r)
  | o :: r, 1, v => lkeep o :: lset r 0 v
  | o :: r, n + 2, v => o :: lset r (n + 1) v
theorem lkill_len (r : List (Option Value)) : (lkill r).length = r.length := by cases r <;> rfl
theorem lset_len : ∀ (lv : List (Option Value)) (i : Nat) (v : Value), (lset lv i v).length = lv.length
  | [], _, _ => rfl
  | _ :: r, 0, v => by
    simp only [lset, List.length_cons]
    cases isL v <;> simp [lkill_len]
  | o :: r, 1, v => by simp only [lset, List.length_cons, lset_len r 0 v]
  | o :: r, n + 2, v => by simp only [lset, List.length_cons, lset_len r (n + 1) v]
theorem lset_get : ∀ (lv : List (Option Value)) (i : Nat) (v : Value) (j : Nat) (w : Value), (lset lv i v)[j]? = some (some w) → (j = i ∧ w = v) ∨ (j ≠ i ∧ lv[j]? = some (some w) ∧ ¬ (j + 1 = i ∧ w.category = 2) ∧ (v.category = 2 → j ≠ i + 1))
  | [], i, v, j, w, h => by simp [lset] at h
  | o :: r, 0, v, 0, w, h => by simp [lset] at h; exact Or.inl ⟨rfl, h.symm⟩
  | o :: r, 0, v, j + 1, w, h => by
    simp only [lset, List.getElem?_cons_succ] at h
    refine Or.inr ⟨by omega, ?_, by omega, ?_⟩
    · cases hL : isL v with
      | true =>
        rw [hL] at h
        cases r with
        | nil => simp [lkill] at h
        | cons a r =>
          cases j with
          | zero => simp [lkill] at h
          | succ j => simpa [lkill] using h
      | false => rw [hL] at h; simpa using h
    · intro hv hj
      have hL := (isL_cat v).mpr hv
      rw [hL] at h
      have : j = 0 := by omega
      subst this
      cases r with
      | nil => simp [lkill] at h
      | cons a r => simp [lkill] at h
  | o :: r, 1, v, 0, w, h => by
    simp only [lset, List.getElem?_cons_zero] at h
    cases o with
    | none => simp [lkeep] at h
    | some z =>
      cases hL : isL z with
      | true => simp [lkeep, hL] at h
      | false =>
        simp [lkeep, hL] at h
        subst h
        refine Or.inr ⟨by omega, by simp, ?_, by omega⟩
        intro hh
        rw [← isL_cat, hL] at hh
        simp at hh
  | o :: r, 1, v, j + 1, w, h => by
    simp only [lset, List.getElem?_cons_succ] at h
    rcases lset_get r 0 v j w h with ⟨h1, h2⟩ | ⟨h1, h2, h3, h4⟩
    · exact Or.inl ⟨by omega, h2⟩
    · exact Or.inr ⟨by omega, by simpa using h2, by omega, fun hv => by have := h4 hv; omega⟩
  | o :: r, n + 2, v, 0, w, h => by
    simp only [lset, List.getElem?_cons_zero] at h
    exact Or.inr ⟨by omega, by simpa using h, by omega, by omega⟩
  | o :: r, n + 2, v, j + 1, w, h => by
    simp only [lset, List.getElem?_cons_succ] at h
    rcases lset_get r (n + 1) v j w h with ⟨h1, h2⟩ | ⟨h1, h2, h3, h4⟩
    · exact Or.inl ⟨by omega, h2⟩
    · exact Or.inr ⟨by omega, by simpa using h2, fun q => h3 ⟨by omega, q.2⟩, fun hv => by have := h4 hv; omega⟩
/-- the locals held -/
def LH (ls : Array Slot) (lv : List (Option Value)) : Prop := ls.size = lv.length ∧ lv_wf ls ∧ ∀ (i : Nat) (v : Value), lv[i]? = some (some v) → ls[i]? = some (Slot.val v)
def las (lv : List (Option Value)) : List (Nat × Value) := (List.range lv.length).filterMap (fun i => match lv[i]? with
  | some (some v) => some (i, v)
  | _ => none)
theorem las_mem {lv : List (Option Value)} {q : Nat × Value} : q ∈ las lv ↔ lv[q.1]? = some (some q.2) := by
  unfold las
  rw [List.mem_filterMap]
  constructor
  · rintro ⟨i, -, h⟩
    split at h
    · next v hv => cases h; exact hv
    · cases h
  · intro h
    refine ⟨q.1, List.mem_range.mpr (List.getElem?_eq_some_iff.mp h).1, ?_⟩
    rw [h]
theorem LH.has {ls : Array Slot} {lv : List (Option Value)} (h : LH ls lv) : lv_has ls lv.length (las lv) := ⟨h.1, h.2.1, fun q hq => h.2.2 q.1 q.2 (las_mem.mp hq)⟩
theorem LH.at {ls : Array Slot} {lv : List (Option Value)} (h : LH ls lv) {i : Nat} {v : Value} (hv : gt lv i = some (some v)) : ls[i]? = some (.val v) := h.2.2 i v (by rw [← gt_eq]; exact hv)
theorem LH.set1 {ls : Array Slot} {lv : List (Option Value)} {i : Nat} {v : Value} (h : lv_has ls lv.length ((i, v) :: (las lv).filter (fun q => !(q.1 == i) && !(q.1 + 1 == i && q.2.category == 2)))) : LH ls (lset lv i v) := by
  refine ⟨by rw [lset_len]; exact h.1, h.2.1, fun j w hw => ?_⟩
  rcases lset_get lv i v j w hw with ⟨h1, h2⟩ | ⟨h1, h2, h3, -⟩
  · subst h1; subst h2; exact h.2.2 (j, w) List.mem_cons_self
  · refine h.2.2 (j, w) (List.mem_cons_of_mem _ (List.mem_filter.mpr ⟨las_mem.mpr h2, ?_⟩))
    simp only [Bool.and_eq_true, Bool.not_eq_true', beq_eq_false_iff_ne, ne_eq, Bool.and_eq_false_iff]
    refine ⟨h1, ?_⟩
    by_cases hj : j + 1 = i
    · exact Or.inr (by simpa using fun q => h3 ⟨hj, q⟩)
    · exact Or.inl (by simpa using hj)
theorem LH.set2 {ls : Array Slot} {lv : List (Option Value)} {i : Nat} {v : Value} (hc : v.category = 2) (h : lv_has ls lv.length ((i, v) :: (las lv).filter (fun q => !(q.1 == i) && (!(q.1 == i + 1) && !(q.1 + 1 == i && q.2.category == 2))))) : LH ls (lset lv i v) := by
  refine ⟨by rw [lset_len]; exact h.1, h.2.1, fun j w hw => ?_⟩
  rcases lset_get lv i v j w hw with ⟨h1, h2⟩ | ⟨h1, h2, h3, h4⟩
  · subst h1; subst h2; exact h.2.2 (j, w) List.mem_cons_self
  · refine h.2.2 (j, w) (List.mem_cons_of_mem _ (List.mem_filter.mpr ⟨las_mem.mpr h2, ?_⟩))
    simp only [Bool.and_eq_true, Bool.not_eq_true', beq_eq_false_iff_ne, ne_eq, Bool.and_eq_false_iff]
    refine ⟨h1, h4 hc, ?_⟩
    by_cases hj : j + 1 = i
    · exact Or.inr (by simpa using fun q => h3 ⟨hj, q⟩)
    · exact Or.inl (by simpa using hj)
/-- the locals at a method's entry -/
def lent : List Value → List (Option Value)
  | [] => []
  | v :: r => some v :: (bif isL v then none :: lent r else lent r)
def lpad : Nat → List (Option Value)
  | 0 => []
  | n + 1 => none :: lpad n
theorem lpad_len : ∀ n, (lpad n).length = n
  | 0 => rfl
  | n + 1 => by simp [lpad, lpad_len n]
theorem lpad_get : ∀ (n i : Nat) (v : Value), (lpad n)[i]? ≠ some (some v)
  | 0, i, v => by simp [lpad]
  | n + 1, 0, v => by simp [lpad]
  | n + 1, i + 1, v => by simp [lpad]; exact lpad_get n i v
theorem lent_len : ∀ (vs : List Value), (lent vs).length = (lg_sl vs).length
  | [] => rfl
  | v :: r => by
    have ih := lent_len r
    have h := isL_cat v
    cases hL : isL v with
    | true =>
      have hc := h.mp hL
      simp [lent, lg_sl, hL, hc] at ih ⊢
      simpa [lg_sl] using ih
    | false =>
      have hc : ¬ v.category = 2 := fun q => by rw [h.mpr q] at hL; cases hL
      simp [lent, lg_sl, hL, hc] at ih ⊢
      simpa [lg_sl] using ih
theorem lent_get : ∀ (vs : List Value) (o i : Nat) (v : Value), (lent vs)[i]? = some (some v) → (o + i, v) ∈ lv_args o vs
  | [], o, i, v, h => by simp [lent] at h
  | w :: r, o, 0, v, h => by
    simp [lent] at h
    subst h
    simp [lv_args]
  | w :: r, o, i + 1, v, h => by
    have hh := isL_cat w
    simp only [lent, List.getElem?_cons_succ] at h
    cases hL : isL w with
    | true =>
      have hc := hh.mp hL
      rw [hL] at h
      cases i with
      | zero => simp at h
      | succ i =>
        have := lent_get r (o + 2) i v (by simpa using h)
        simp only [lv_args, hc, if_true]
        refine List.mem_cons_of_mem _ ?_
        rw [show o + (i + 1 + 1) = o + 2 + i by omega]
        exact this
    | false =>
      have hc : ¬ w.category = 2 := fun q => by rw [hh.mpr q] at hL; cases hL
      rw [hL] at h
      have := lent_get r (o + 1) i v (by simpa using h)
      simp only [lv_args, hc, if_false]
      refine List.mem_cons_of_mem _ ?_
      rw [show o + (i + 1) = o + 1 + i by omega]
      exact this
theorem LH.entry (vs : List Value) {n : Nat} (h : (lg_sl vs).length ≤ n) : LH ((lg_sl vs ++ List.replicate (n - (lg_sl vs).length) Slot.unset).toArray) (lent vs ++ lpad (n - (lg_sl vs).length)) := by
  have h0 := lv_entry vs h
  refine ⟨by rw [h0.1, List.length_append, lent_len, lpad_len]; omega, h0.2.1, fun i v hv => ?_⟩
  by_cases hi : i < (lent vs).length
  · rw [List.getElem?_append_left hi] at hv
    have := lent_get vs 0 i v hv
    rw [Nat.zero_add] at this
    exact h0.2.2 (i, v) this
  · rw [List.getElem?_append_right (by omega)] at hv
    exact absurd hv (lpad_get _ _ _)
end
section
/-! the judgement G: from this program counter, with these locals, operands and cells, the machine comes to Q -/
abbrev DD : Type := va_G × (Nat → ClassId)
abbrev MX : Type := Program × Launch × Env × Room × State × MethodId × Array Value × List Frame × Method × Code
def vcl : List vw_C := [(RX0, TX0, 6), (RX1, TX1, 4), (RX2, TX2, 2), (RX3, TX3, 3), (RX4, TX4, 10), (RX5, TX5, 6), (RX6, TX6, 2), (RX7, TX7, 17)]
def tysO (D : DD) : List (ClassId × FieldType) := [(D.2 0, .int), (D.2 1, .long), (D.2 2, .boolean), (D.2 3, .object "StreamCounts$Stream")]
def wsO (ad : Nat → Nat) (cs : List va_E) : va_W := cs.mapIdx (fun k c => (ad k, c))
theorem wsO_get (ad : Nat → Nat) (cs : List va_E) (k : Nat) : (wsO ad cs)[k]? = (cs[k]?).map (fun c => (ad k, c)) := by simp [wsO]
theorem wsO_at {ad : Nat → Nat} {cs : List va_E} {k : Nat} {c : va_E} (h : gt cs k = some c) : (wsO ad cs)[k]? = some (ad k, c) := by rw [wsO_get, ← gt_eq, h]; rfl
theorem wsO_set (ad : Nat → Nat) (cs : List va_E) (k : Nat) (c : va_E) : (wsO ad cs).set k (ad k, c) = wsO ad (cs.set k c) := by
  apply List.ext_getElem?
  intro i
  rw [wsO_get]
  by_cases hi : i = k
  · subst hi
    by_cases hl : i < cs.length
    · rw [List.getElem?_set_self (by simp [wsO]; exact hl), List.getElem?_set_self hl]; rfl
    · rw [List.getElem?_eq_none (by simp [wsO]; omega), List.getElem?_eq_none (by simp; omega)]; rfl
  · rw [List.getElem?_set_ne (fun q => hi q.symm), List.getElem?_set_ne (fun q => hi q.symm), wsO_get]
/-- the links to private members of other classes of the nest: they are no words, they are carried beside -/
def nst : List (String × Nat × MethodName × String) := [("StreamCounts$Stream", 11, ⟨"StreamCounts$Counters", "<init>", "()V"⟩, "StreamCounts"), ("StreamCounts$Stream", 20, ⟨"StreamCounts$Forest", "<init>", "()V"⟩, "StreamCounts"), ("StreamCounts$Stream", 27, ⟨"StreamCounts$Thinned", "<init>", "()V"⟩, "StreamCounts"), ("StreamCounts$Stream", 34, ⟨"StreamCounts$Matching", "<init>", "()V"⟩, "StreamCounts"), ("StreamCounts$Stream", 41, ⟨"StreamCounts$Rows", "<init>", "()V"⟩, "StreamCounts"), ("StreamCounts$Forest", 46, ⟨"StreamCounts", "lesserNode", "(I)I"⟩, "StreamCounts"), ("StreamCounts$Forest", 49, ⟨"StreamCounts", "greaterNode", "(I)I"⟩, "StreamCounts"), ("StreamCounts$Forest", 33, ⟨"StreamCounts", "keyOf", "(II)I"⟩, "StreamCounts"), ("StreamCounts$Thinned", 46, ⟨"StreamCounts", "holds", "(JI)Z"⟩, "StreamCounts"), ("StreamCounts$Thinned", 42, ⟨"StreamCounts", "keyOf", "(II)I"⟩, "StreamCounts"), ("StreamCounts$Rows", 29, ⟨"StreamCounts", "keyOf", "(II)I"⟩, "StreamCounts"), ("StreamCounts$Rows", 57, ⟨"StreamCounts", "holds", "(JI)Z"⟩, "StreamCounts"), ("StreamCounts$Counters", 57, ⟨"StreamCounts", "holds", "(JI)Z"⟩, "StreamCounts"), ("StreamCounts$Rows", 50, ⟨"StreamCounts", "lesserNode", "(I)I"⟩, "StreamCounts"), ("StreamCounts$Rows", 54, ⟨"StreamCounts", "greaterNode", "(I)I"⟩, "StreamCounts")]
def NL (U : State) : Prop := ∀ q ∈ nst, va_Nw (.methodLinkNest q.1 q.2.1 q.2.2.1 q.2.2.2) U
theorem NL.warm {s U : State} (hW : s.WarmedH U.vm) (h : NL s) : NL U := fun q hq => va_Nw.warmM hW (h q hq)
/-- cells -/
def ia (D : DD) (n : Nat) (f : Nat → Int32) : va_E := .inl (D.2 0, n, .inl f)
def la (D : DD) (n : Nat) (f : Nat → Int64) : va_E := .inl (D.2 1, n, .inr (.inl f))
def za (D : DD) (n : Nat) (f : Nat → Int32) : va_E := .inl (D.2 2, n, .inl f)
def qa (D : DD) (n : Nat) (f : Nat → Option Nat) : va_E := .inl (D.2 3, n, .inr (.inr (.inr (.inr f))))
def ob (ci : Nat) (fs : List Value) : va_E := .inr (ci, fs)
def CX (D : DD) (X : MX) (A : Nat → Prop) (own : String) (cc : ByteArray) (nL : Nat) (R : Room) : Prop :=
  X.1.tables.exec = Jvm.exec ∧ X.2.2.2.2.2.2.2.2.2.code = cc ∧ X.2.2.2.2.2.2.2.2.2.maxLocals = nL ∧ X.2.2.2.2.1.vm.findClass own = some X.2.2.2.2.2.1.cls ∧ (∀ w ∈ TB, w.before X.2.2.2.2.2.2.1 X.2.2.2.2.1 = true) ∧ va_K D.1 vcl (tysO D) X.2.2.2.2.1 ∧ NL X.2.2.2.2.1 ∧ (∀ q : Nat, X.2.2.2.2.1.heap.size ≤ q → A q) ∧ X.2.2.2.1 = R
def G (D : DD) (X : MX) (A : Nat → Prop) (kc ks : Nat) (Q : State → Prop) (ad : Nat → Nat) (pc : Nat) (lv : List (Option Value)) (st : List Value) (cs : List va_E) : Prop :=
  ∀ (ls : Array Slot) (H : Heap) (locs : List Loc), LH ls lv → va_P D.1 vcl (wsO ad cs) H → va_D A (wsO ad cs) → va_S A X.2.2.2.2.1.heap H locs →
    W X.1 X.2.1 X.2.2.1 X.2.2.2.1 X.2.2.2.2.1 X.2.2.2.2.2.1 X.2.2.2.2.2.2.1 X.2.2.2.2.2.2.2.1 X.2.2.2.2.2.2.2.2.1 X.2.2.2.2.2.2.2.2.2 H locs kc ks Q (F0 X.2.2.2.2.2.1 pc ls st)
section GR
variable {D : DD} {X : MX} {A : Nat → Prop} {own : String} {cc : ByteArray} {nL kc ks : Nat} {R : Room} {Q : State → Prop} {ad : Nat → Nat} {pc : Nat} {lv : List (Option Value)} {st : List Value} {cs : List va_E}

theorem G_iconst (M : CX D X A own cc nL R) {n : Int} {v : Int32} (d : decode cc pc = .ok (.iconst n, 1)) (hv : Int32.ofInt n = v) (k : G D X A kc ks Q ad (pc + 1) lv (.int v :: st) cs) : G D X A kc ks Q ad pc lv st cs := fun ls H locs hL hP hD hS => lv_iconst M.1 M.2.1 d hv (k ls H locs hL hP hD hS)
theorem G_bipush (M : CX D X A own cc nL R) {n : Int} {v : Int32} (d : decode cc pc = .ok (.bipush n, 2)) (hv : (Int8.ofInt n).toInt32 = v) (k : G D X A kc ks Q ad (pc + 2) lv (.int v :: st) cs) : G D X A kc ks Q ad pc lv st cs := fun ls H locs hL hP hD hS => lv_bipush M.1 M.2.1 d hv (k ls H locs hL hP hD hS)
theorem G_sipush (M : CX D X A own cc nL R) {n : Int} {v : Int32} (d : decode cc pc = .ok (.sipush n, 3)) (hv : (Int16.ofInt n).toInt32 = v) (k : G D X A kc ks Q ad (pc + 3) lv (.int v :: st) cs) : G D X A kc ks Q ad pc lv st cs := fun ls H locs hL hP hD hS => lv_sipush M.1 M.2.1 d hv (k ls H locs hL hP hD hS)
theorem G_lconst (M : CX D X A own cc nL R) {n : Fin 2} {v : Int64} (d : decode cc pc = .ok (.lconst n, 1)) (hv : Int64.ofNat (n : Nat) = v) (k : G D X A kc ks Q ad (pc + 1) lv (.long v :: st) cs) : G D X A kc ks Q ad pc lv st cs := fun ls H locs hL hP hD hS => lv_lconst M.1 M.2.1 d hv (k ls H locs hL hP hD hS)
theorem G_iload_n (M : CX D X A own cc nL R) {i : Fin 4} {x : Int32} (d : decode cc pc = .ok (.iload_n i, 1)) (h : gt lv (i : Nat) = some (some (.int x))) (k : G D X A kc ks Q ad (pc + 1) lv (.int x :: st) cs) : G D X A kc ks Q ad pc lv st cs := fun ls H locs hL hP hD hS => lv_iload_n M.1 M.2.1 d rfl (hL.at h) (k ls H locs hL hP hD hS)
theorem G_iload (M : CX D X A own cc nL R) {i : Nat} {x : Int32} (d : decode cc pc = .ok (.iload i, 2)) (h : gt lv i = some (some (.int x))) (k : G D X A kc ks Q ad (pc + 2) lv (.int x :: st) cs) : G D X A kc ks Q ad pc lv st cs := fun ls H locs hL hP hD hS => lv_iload M.1 M.2.1 d (hL.at h) (k ls H locs hL hP hD hS)
theorem G_istore_n (M : CX D X A own cc nL R) {i : Fin 4} {x : Int32} (d : decode cc pc = .ok (.istore_n i, 1)) (hn : (i : Nat) < lv.length) (k : G D X A kc ks Q ad (pc + 1) (lset lv (i : Nat) (.int x)) st cs) : G D X A kc ks Q ad pc lv (.int x :: st) cs := fun ls H locs hL hP hD hS => lv_istore_n M.1 M.2.1 d rfl hL.has hn rfl (fun ls2 hL2 => k ls2 H locs (LH.set1 hL2) hP hD hS)
theorem G_istore (M : CX D X A own cc nL R) {i : Nat} {x : Int32} (d : decode cc pc = .ok (.istore i, 2)) (hn : i < lv.length) (k : G D X A kc ks Q ad (pc + 2) (lset lv i (.int x)) st cs) : G D X A kc ks Q ad pc lv (.int x :: st) cs := fun ls H locs hL hP hD hS => lv_istore M.1 M.2.1 d hL.has hn rfl (fun ls2 hL2 => k ls2 H locs (LH.set1 hL2) hP hD hS)
theorem G_lload_n (M : CX D X A own cc nL R) {i : Fin 4} {x : Int64} (d : decode cc pc = .ok (.lload_n i, 1)) (h : gt lv (i : Nat) = some (some (.long x))) (k : G D X A kc ks Q ad (pc + 1) lv (.long x :: st) cs) : G D X A kc ks Q ad pc lv st cs := fun ls H locs hL hP hD hS => lv_lload_n M.1 M.2.1 d rfl (hL.at h) (k ls H locs hL hP hD hS)
theorem G_lload (M : CX D X A own cc nL R) {i : Nat} {x : Int64} (d : decode cc pc = .ok (.lload i, 2)) (h : gt lv i = some (some (.long x))) (k : G D X A kc ks Q ad (pc + 2) lv (.long x :: st) cs) : G D X A kc ks Q ad pc lv st cs := fun ls H locs hL hP hD hS => lv_lload M.1 M.2.1 d (hL.at h) (k ls H locs hL hP hD hS)
theorem G_lstore_n (M : CX D X A own cc nL R) {i : Fin 4} {x : Int64} (d : decode cc pc = .ok (.lstore_n i, 1)) (hn : (i : Nat) + 1 < lv.length) (k : G D X A kc ks Q ad (pc + 1) (lset lv (i : Nat) (.long x)) st cs) : G D X A kc ks Q ad pc lv (.long x :: st) cs := fun ls H locs hL hP hD hS => lv_lstore_n M.1 M.2.1 d rfl hL.has hn rfl (fun ls2 hL2 => k ls2 H locs (LH.set2 rfl hL2) hP hD hS)
theorem G_lstore (M : CX D X A own cc nL R) {i : Nat} {x : Int64} (d : decode cc pc = .ok (.lstore i, 2)) (hn : i + 1 < lv.length) (k : G D X A kc ks Q ad (pc + 2) (lset lv i (.long x)) st cs) : G D X A kc ks Q ad pc lv (.long x :: st) cs := fun ls H locs hL hP hD hS => lv_lstore M.1 M.2.1 d hL.has hn rfl (fun ls2 hL2 => k ls2 H locs (LH.set2 rfl hL2) hP hD hS)
theorem G_aload_n (M : CX D X A own cc nL R) {i : Fin 4} {x : Nat} (d : decode cc pc = .ok (.aload_n i, 1)) (h : gt lv (i : Nat) = some (some (.ref x))) (k : G D X A kc ks Q ad (pc + 1) lv (.ref x :: st) cs) : G D X A kc ks Q ad pc lv st cs := fun ls H locs hL hP hD hS => lv_aload_n M.1 M.2.1 d rfl (hL.at h) (k ls H locs hL hP hD hS)
theorem G_aload (M : CX D X A own cc nL R) {i : Nat} {x : Nat} (d : decode cc pc = .ok (.aload i, 2)) (h : gt lv i = some (some (.ref x))) (k : G D X A kc ks Q ad (pc + 2) lv (.ref x :: st) cs) : G D X A kc ks Q ad pc lv st cs := fun ls H locs hL hP hD hS => lv_aload M.1 M.2.1 d (hL.at h) (k ls H locs hL hP hD hS)
theorem G_astore_n (M : CX D X A own cc nL R) {i : Fin 4} {x : Nat} (d : decode cc pc = .ok (.astore_n i, 1)) (hn : (i : Nat) < lv.length) (k : G D X A kc ks Q ad (pc + 1) (lset lv (i : Nat) (.ref x)) st cs) : G D X A kc ks Q ad pc lv (.ref x :: st) cs := fun ls H locs hL hP hD hS => lv_astore_n M.1 M.2.1 d rfl hL.has hn rfl (fun ls2 hL2 => k ls2 H locs (LH.set1 hL2) hP hD hS)
theorem G_astore (M : CX D X A own cc nL R) {i : Nat} {x : Nat} (d : decode cc pc = .ok (.astore i, 2)) (hn : i < lv.length) (k : G D X A kc ks Q ad (pc + 2) (lset lv i (.ref x)) st cs) : G D X A kc ks Q ad pc lv (.ref x :: st) cs := fun ls H locs hL hP hD hS => lv_astore M.1 M.2.1 d hL.has hn rfl (fun ls2 hL2 => k ls2 H locs (LH.set1 hL2) hP hD hS)
theorem G_iinc (M : CX D X A own cc nL R) {i : Nat} {n : Int} {x v : Int32} (d : decode cc pc = .ok (.iinc i n, 3)) (h : gt lv i = some (some (.int x))) (hv : Int32.ofInt n = v) (hn : i < lv.length) (k : G D X A kc ks Q ad (pc + 3) (lset lv i (.int (x + v))) st cs) : G D X A kc ks Q ad pc lv st cs := fun ls H locs hL hP hD hS => by
  subst hv
  obtain ⟨q, hq⟩ := List.getElem?_of_mem (las_mem (q := (i, Value.int x)).mpr (by rw [← gt_eq]; exact h))
  exact lv_iinc M.1 M.2.1 d hL.has hq rfl hn rfl (fun ls2 hL2 => k ls2 H locs (LH.set1 hL2) hP hD hS)
theorem G_iadd (M : CX D X A own cc nL R) {x y : Int32} (d : decode cc pc = .ok (.iadd, 1)) (k : G D X A kc ks Q ad (pc + 1) lv (.int (x + y) :: st) cs) : G D X A kc ks Q ad pc lv (.int y :: .int x :: st) cs := fun ls H locs hL hP hD hS => lv_iadd M.1 M.2.1 d (k ls H locs hL hP hD hS)
theorem G_isub (M : CX D X A own cc nL R) {x y : Int32} (d : decode cc pc = .ok (.isub, 1)) (k : G D X A kc ks Q ad (pc + 1) lv (.int (x - y) :: st) cs) : G D X A kc ks Q ad pc lv (.int y :: .int x :: st) cs := fun ls H locs hL hP hD hS => lv_isub M.1 M.2.1 d (k ls H locs hL hP hD hS)
theorem G_imul (M : CX D X A own cc nL R) {x y : Int32} (d : decode cc pc = .ok (.imul, 1)) (k : G D X A kc ks Q ad (pc + 1) lv (.int (x * y) :: st) cs) : G D X A kc ks Q ad pc lv (.int y :: .int x :: st) cs := fun ls H locs hL hP hD hS => lv_imul M.1 M.2.1 d (k ls H locs hL hP hD hS)
theorem G_iand (M : CX D X A own cc nL R) {x y : Int32} (d : decode cc pc = .ok (.iand, 1)) (k : G D X A kc ks Q ad (pc + 1) lv (.int (x &&& y) :: st) cs) : G D X A kc ks Q ad pc lv (.int y :: .int x :: st) cs := fun ls H locs hL hP hD hS => lv_iand M.1 M.2.1 d (k ls H locs hL hP hD hS)
theorem G_ior (M : CX D X A own cc nL R) {x y : Int32} (d : decode cc pc = .ok (.ior, 1)) (k : G D X A kc ks Q ad (pc + 1) lv (.int (x ||| y) :: st) cs) : G D X A kc ks Q ad pc lv (.int y :: .int x :: st) cs := fun ls H locs hL hP hD hS => lv_ior M.1 M.2.1 d (k ls H locs hL hP hD hS)
theorem G_ixor (M : CX D X A own cc nL R) {x y : Int32} (d : decode cc pc = .ok (.ixor, 1)) (k : G D X A kc ks Q ad (pc + 1) lv (.int (x ^^^ y) :: st) cs) : G D X A kc ks Q ad pc lv (.int y :: .int x :: st) cs := fun ls H locs hL hP hD hS => lv_ixor M.1 M.2.1 d (k ls H locs hL hP hD hS)
theorem G_ladd (M : CX D X A own cc nL R) {x y : Int64} (d : decode cc pc = .ok (.ladd, 1)) (k : G D X A kc ks Q ad (pc + 1) lv (.long (x + y) :: st) cs) : G D X A kc ks Q ad pc lv (.long y :: .long x :: st) cs := fun ls H locs hL hP hD hS => lv_ladd M.1 M.2.1 d (k ls H locs hL hP hD hS)
theorem G_lsub (M : CX D X A own cc nL R) {x y : Int64} (d : decode cc pc = .ok (.lsub, 1)) (k : G D X A kc ks Q ad (pc + 1) lv (.long (x - y) :: st) cs) : G D X A kc ks Q ad pc lv (.long y :: .long x :: st) cs := fun ls H locs hL hP hD hS => lv_lsub M.1 M.2.1 d (k ls H locs hL hP hD hS)
theorem G_lmul (M : CX D X A own cc nL R) {x y : Int64} (d : decode cc pc = .ok (.lmul, 1)) (k : G D X A kc ks Q ad (pc + 1) lv (.long (x * y) :: st) cs) : G D X A kc ks Q ad pc lv (.long y :: .long x :: st) cs := fun ls H locs hL hP hD hS => lv_lmul M.1 M.2.1 d (k ls H locs hL hP hD hS)
theorem G_land (M : CX D X A own cc nL R) {x y : Int64} (d : decode cc pc = .ok (.land, 1)) (k : G D X A kc ks Q ad (pc + 1) lv (.long (x &&& y) :: st) cs) : G D X A kc ks Q ad pc lv (.long y :: .long x :: st) cs := fun ls H locs hL hP hD hS => lv_land M.1 M.2.1 d (k ls H locs hL hP hD hS)
theorem G_lor (M : CX D X A own cc nL R) {x y : Int64} (d : decode cc pc = .ok (.lor, 1)) (k : G D X A kc ks Q ad (pc + 1) lv (.long (x ||| y) :: st) cs) : G D X A kc ks Q ad pc lv (.long y :: .long x :: st) cs := fun ls H locs hL hP hD hS => lv_lor M.1 M.2.1 d (k ls H locs hL hP hD hS)
theorem G_lxor (M : CX D X A own cc nL R) {x y : Int64} (d : decode cc pc = .ok (.lxor, 1)) (k : G D X A kc ks Q ad (pc + 1) lv (.long (x ^^^ y) :: st) cs) : G D X A kc ks Q ad pc lv (.long y :: .long x :: st) cs := fun ls H locs hL hP hD hS => lv_lxor M.1 M.2.1 d (k ls H locs hL hP hD hS)
theorem G_idiv (M : CX D X A own cc nL R) {x y : Int32} (d : decode cc pc = .ok (.idiv, 1)) (hne : ¬ y = 0) (k : G D X A kc ks Q ad (pc + 1) lv (.int (x / y) :: st) cs) : G D X A kc ks Q ad pc lv (.int y :: .int x :: st) cs := fun ls H locs hL hP hD hS => lv_idiv M.1 M.2.1 d hne (k ls H locs hL hP hD hS)
theorem G_irem (M : CX D X A own cc nL R) {x y : Int32} (d : decode cc pc = .ok (.irem, 1)) (hne : ¬ y = 0) (k : G D X A kc ks Q ad (pc + 1) lv (.int (x - x / y * y) :: st) cs) : G D X A kc ks Q ad pc lv (.int y :: .int x :: st) cs := fun ls H locs hL hP hD hS => lv_irem M.1 M.2.1 d hne (k ls H locs hL hP hD hS)
theorem G_ineg (M : CX D X A own cc nL R) {x : Int32} (d : decode cc pc = .ok (.ineg, 1)) (k : G D X A kc ks Q ad (pc + 1) lv (.int (-x) :: st) cs) : G D X A kc ks Q ad pc lv (.int x :: st) cs := fun ls H locs hL hP hD hS => lv_ineg M.1 M.2.1 d (k ls H locs hL hP hD hS)
theorem G_lneg (M : CX D X A own cc nL R) {x : Int64} (d : decode cc pc = .ok (.lneg, 1)) (k : G D X A kc ks Q ad (pc + 1) lv (.long (-x) :: st) cs) : G D X A kc ks Q ad pc lv (.long x :: st) cs := fun ls H locs hL hP hD hS => lv_lneg M.1 M.2.1 d (k ls H locs hL hP hD hS)
theorem G_i2l (M : CX D X A own cc nL R) {x : Int32} (d : decode cc pc = .ok (.i2l, 1)) (k : G D X A kc ks Q ad (pc + 1) lv (.long x.toInt64 :: st) cs) : G D X A kc ks Q ad pc lv (.int x :: st) cs := fun ls H locs hL hP hD hS => lv_i2l M.1 M.2.1 d rfl (k ls H locs hL hP hD hS)
theorem G_l2i (M : CX D X A own cc nL R) {x : Int64} (d : decode cc pc = .ok (.l2i, 1)) (k : G D X A kc ks Q ad (pc + 1) lv (.int x.toInt32 :: st) cs) : G D X A kc ks Q ad pc lv (.long x :: st) cs := fun ls H locs hL hP hD hS => lv_l2i M.1 M.2.1 d rfl (k ls H locs hL hP hD hS)
theorem G_lushr (M : CX D X A own cc nL R) {x : Int64} {y : Int32} (d : decode cc pc = .ok (.lushr, 1)) (k : G D X A kc ks Q ad (pc + 1) lv (.long (x.toUInt64 >>> (y.toInt64.toUInt64 &&& Int64.toUInt64 63)).toInt64 :: st) cs) : G D X A kc ks Q ad pc lv (.int y :: .long x :: st) cs := fun ls H locs hL hP hD hS => lv_lushr M.1 M.2.1 d rfl (k ls H locs hL hP hD hS)
theorem G_lshl (M : CX D X A own cc nL R) {x : Int64} {y : Int32} (d : decode cc pc = .ok (.lshl, 1)) (k : G D X A kc ks Q ad (pc + 1) lv (.long (x <<< (y.toInt64 &&& 63)) :: st) cs) : G D X A kc ks Q ad pc lv (.int y :: .long x :: st) cs := fun ls H locs hL hP hD hS => lv_lshl M.1 M.2.1 d rfl (k ls H locs hL hP hD hS)
theorem G_lshr (M : CX D X A own cc nL R) {x : Int64} {y : Int32} (d : decode cc pc = .ok (.lshr, 1)) (k : G D X A kc ks Q ad (pc + 1) lv (.long (x >>> (y.toInt64 &&& 63)) :: st) cs) : G D X A kc ks Q ad pc lv (.int y :: .long x :: st) cs := fun ls H locs hL hP hD hS => lv_lshr M.1 M.2.1 d rfl (k ls H locs hL hP hD hS)
theorem G_lcmp (M : CX D X A own cc nL R) {x y : Int64} (d : decode cc pc = .ok (.lcmp, 1)) (k : G D X A kc ks Q ad (pc + 1) lv (.int (lg_cmp x y) :: st) cs) : G D X A kc ks Q ad pc lv (.long y :: .long x :: st) cs := fun ls H locs hL hP hD hS => W.lcmp M.1 M.2.1 d (k ls H locs hL hP hD hS)
theorem G_dup (M : CX D X A own cc nL R) {va : Value} (d : decode cc pc = .ok (.dup, 1)) (hva : va.category = 1) (k : G D X A kc ks Q ad (pc + 1) lv (va :: va :: st) cs) : G D X A kc ks Q ad pc lv (va :: st) cs := fun ls H locs hL hP hD hS => lv_dup M.1 M.2.1 d hva (k ls H locs hL hP hD hS)
theorem G_dup_x1 (M : CX D X A own cc nL R) {va vb : Value} (d : decode cc pc = .ok (.dup_x1, 1)) (hva : va.category = 1) (hvb : vb.category = 1) (k : G D X A kc ks Q ad (pc + 1) lv (va :: vb :: va :: st) cs) : G D X A kc ks Q ad pc lv (va :: vb :: st) cs := fun ls H locs hL hP hD hS => lv_dup_x1 M.1 M.2.1 d hva hvb (k ls H locs hL hP hD hS)
theorem G_dup2 (M : CX D X A own cc nL R) {va vb : Value} (d : decode cc pc = .ok (.dup2, 1)) (hva : va.category = 1) (hvb : vb.category = 1) (k : G D X A kc ks Q ad (pc + 1) lv (va :: vb :: va :: vb :: st) cs) : G D X A kc ks Q ad pc lv (va :: vb :: st) cs := fun ls H locs hL hP hD hS => lv_dup2_11 M.1 M.2.1 d hva hvb (k ls H locs hL hP hD hS)
theorem G_dup2L (M : CX D X A own cc nL R) {va : Value} (d : decode cc pc = .ok (.dup2, 1)) (hva : va.category = 2) (k : G D X A kc ks Q ad (pc + 1) lv (va :: va :: st) cs) : G D X A kc ks Q ad pc lv (va :: st) cs := fun ls H locs hL hP hD hS => lv_dup2_2 M.1 M.2.1 d hva (k ls H locs hL hP hD hS)
theorem G_pop (M : CX D X A own cc nL R) {va : Value} (d : decode cc pc = .ok (.pop, 1)) (hva : va.category = 1) (k : G D X A kc ks Q ad (pc + 1) lv st cs) : G D X A kc ks Q ad pc lv (va :: st) cs := fun ls H locs hL hP hD hS => lv_pop M.1 M.2.1 d hva (k ls H locs hL hP hD hS)
theorem G_goto (M : CX D X A own cc nL R) {off : Int} (tgt : Nat) (d : decode cc pc = .ok (.goto off, 3)) (ht : (pc : Int) + off = (tgt : Int)) (k : G D X A kc ks Q ad tgt lv st cs) : G D X A kc ks Q ad pc lv st cs := fun ls H locs hL hP hD hS => lv_goto M.1 M.2.1 d ht (k ls H locs hL hP hD hS)
theorem G_if_eq (M : CX D X A own cc nL R) {x : Int32} {off : Int} (tgt : Nat) (d : decode cc pc = .ok (.ifCond .eq off, 3)) (ht : (pc : Int) + off = (tgt : Int)) (kt : x = 0 → G D X A kc ks Q ad tgt lv st cs) (kf : ¬ x = 0 → G D X A kc ks Q ad (pc + 3) lv st cs) : G D X A kc ks Q ad pc lv (.int x :: st) cs := fun ls H locs hL hP hD hS => lv_if_eq M.1 M.2.1 d ht (fun h => kt h ls H locs hL hP hD hS) (fun h => kf h ls H locs hL hP hD hS)
theorem G_icmp_eq (M : CX D X A own cc nL R) {x y : Int32} {off : Int} (tgt : Nat) (d : decode cc pc = .ok (.if_icmp .eq off, 3)) (ht : (pc : Int) + off = (tgt : Int)) (kt : x = y → G D X A kc ks Q ad tgt lv st cs) (kf : ¬ x = y → G D X A kc ks Q ad (pc + 3) lv st cs) : G D X A kc ks Q ad pc lv (.int y :: .int x :: st) cs := fun ls H locs hL hP hD hS => lv_icmp_eq M.1 M.2.1 d ht (fun h => kt h ls H locs hL hP hD hS) (fun h => kf h ls H locs hL hP hD hS)
theorem G_if_ne (M : CX D X A own cc nL R) {x : Int32} {off : Int} (tgt : Nat) (d : decode cc pc = .ok (.ifCond .ne off, 3)) (ht : (pc : Int) + off = (tgt : Int)) (kt : ¬ x = 0 → G D X A kc ks Q ad tgt lv st cs) (kf : x = 0 → G D X A kc ks Q ad (pc + 3) lv st cs) : G D X A kc ks Q ad pc lv (.int x :: st) cs := fun ls H locs hL hP hD hS => lv_if_ne M.1 M.2.1 d ht (fun h => kt h ls H locs hL hP hD hS) (fun h => kf h ls H locs hL hP hD hS)
theorem G_icmp_ne (M : CX D X A own cc nL R) {x y : Int32} {off : Int} (tgt : Nat) (d : decode cc pc = .ok (.if_icmp .ne off, 3)) (ht : (pc : Int) + off = (tgt : Int)) (kt : ¬ x = y → G D X A kc ks Q ad tgt lv st cs) (kf : x = y → G D X A kc ks Q ad (pc + 3) lv st cs) : G D X A kc ks Q ad pc lv (.int y :: .int x :: st) cs := fun ls H locs hL hP hD hS => lv_icmp_ne M.1 M.2.1 d ht (fun h => kt h ls H locs hL hP hD hS) (fun h => kf h ls H locs hL hP hD hS)
theorem G_if_lt (M : CX D X A own cc nL R) {x : Int32} {off : Int} (tgt : Nat) (d : decode cc pc = .ok (.ifCond .lt off, 3)) (ht : (pc : Int) + off = (tgt : Int)) (kt : x < 0 → G D X A kc ks Q ad tgt lv st cs) (kf : ¬ x < 0 → G D X A kc ks Q ad (pc + 3) lv st cs) : G D X A kc ks Q ad pc lv (.int x :: st) cs := fun ls H locs hL hP hD hS => lv_if_lt M.1 M.2.1 d ht (fun h => kt h ls H locs hL hP hD hS) (fun h => kf h ls H locs hL hP hD hS)
theorem G_icmp_lt (M : CX D X A own cc nL R) {x y : Int32} {off : Int} (tgt : Nat) (d : decode cc pc = .ok (.if_icmp .lt off, 3)) (ht : (pc : Int) + off = (tgt : Int)) (kt : x < y → G D X A kc ks Q ad tgt lv st cs) (kf : ¬ x < y → G D X A kc ks Q ad (pc + 3) lv st cs) : G D X A kc ks Q ad pc lv (.int y :: .int x :: st) cs := fun ls H locs hL hP hD hS => lv_icmp_lt M.1 M.2.1 d ht (fun h => kt h ls H locs hL hP hD hS) (fun h => kf h ls H locs hL hP hD hS)
theorem G_if_ge (M : CX D X A own cc nL R) {x : Int32} {off : Int} (tgt : Nat) (d : decode cc pc = .ok (.ifCond .ge off, 3)) (ht : (pc : Int) + off = (tgt : Int)) (kt : 0 ≤ x → G D X A kc ks Q ad tgt lv st cs) (kf : ¬ 0 ≤ x → G D X A kc ks Q ad (pc + 3) lv st cs) : G D X A kc ks Q ad pc lv (.int x :: st) cs := fun ls H locs hL hP hD hS => lv_if_ge M.1 M.2.1 d ht (fun h => kt h ls H locs hL hP hD hS) (fun h => kf h ls H locs hL hP hD hS)
theorem G_icmp_ge (M : CX D X A own cc nL R) {x y : Int32} {off : Int} (tgt : Nat) (d : decode cc pc = .ok (.if_icmp .ge off, 3)) (ht : (pc : Int) + off = (tgt : Int)) (kt : y ≤ x → G D X A kc ks Q ad tgt lv st cs) (kf : ¬ y ≤ x → G D X A kc ks Q ad (pc + 3) lv st cs) : G D X A kc ks Q ad pc lv (.int y :: .int x :: st) cs := fun ls H locs hL hP hD hS => lv_icmp_ge M.1 M.2.1 d ht (fun h => kt h ls H locs hL hP hD hS) (fun h => kf h ls H locs hL hP hD hS)
theorem G_if_gt (M : CX D X A own cc nL R) {x : Int32} {off : Int} (tgt : Nat) (d : decode cc pc = .ok (.ifCond .gt off, 3)) (ht : (pc : Int) + off = (tgt : Int)) (kt : 0 < x → G D X A kc ks Q ad tgt lv st cs) (kf : ¬ 0 < x → G D X A kc ks Q ad (pc + 3) lv st cs) : G D X A kc ks Q ad pc lv (.int x :: st) cs := fun ls H locs hL hP hD hS => lv_if_gt M.1 M.2.1 d ht (fun h => kt h ls H locs hL hP hD hS) (fun h => kf h ls H locs hL hP hD hS)
theorem G_icmp_gt (M : CX D X A own cc nL R) {x y : Int32} {off : Int} (tgt : Nat) (d : decode cc pc = .ok (.if_icmp .gt off, 3)) (ht : (pc : Int) + off = (tgt : Int)) (kt : y < x → G D X A kc ks Q ad tgt lv st cs) (kf : ¬ y < x → G D X A kc ks Q ad (pc + 3) lv st cs) : G D X A kc ks Q ad pc lv (.int y :: .int x :: st) cs := fun ls H locs hL hP hD hS => lv_icmp_gt M.1 M.2.1 d ht (fun h => kt h ls H locs hL hP hD hS) (fun h => kf h ls H locs hL hP hD hS)
theorem G_if_le (M : CX D X A own cc nL R) {x : Int32} {off : Int} (tgt : Nat) (d : decode cc pc = .ok (.ifCond .le off, 3)) (ht : (pc : Int) + off = (tgt : Int)) (kt : x ≤ 0 → G D X A kc ks Q ad tgt lv st cs) (kf : ¬ x ≤ 0 → G D X A kc ks Q ad (pc + 3) lv st cs) : G D X A kc ks Q ad pc lv (.int x :: st) cs := fun ls H locs hL hP hD hS => lv_if_le M.1 M.2.1 d ht (fun h => kt h ls H locs hL hP hD hS) (fun h => kf h ls H locs hL hP hD hS)
theorem G_icmp_le (M : CX D X A own cc nL R) {x y : Int32} {off : Int} (tgt : Nat) (d : decode cc pc = .ok (.if_icmp .le off, 3)) (ht : (pc : Int) + off = (tgt : Int)) (kt : x ≤ y → G D X A kc ks Q ad tgt lv st cs) (kf : ¬ x ≤ y → G D X A kc ks Q ad (pc + 3) lv st cs) : G D X A kc ks Q ad pc lv (.int y :: .int x :: st) cs := fun ls H locs hL hP hD hS => lv_icmp_le M.1 M.2.1 d ht (fun h => kt h ls H locs hL hP hD hS) (fun h => kf h ls H locs hL hP hD hS)
theorem G_tableOut (M : CX D X A own cc nL R) {dflt lo hi : Int} {offs : Array Int} {len : Nat} {x : Int32} (tgt : Nat) (d : decode cc pc = .ok (.tableswitch dflt lo hi offs, len)) (h : x.toInt < lo ∨ hi < x.toInt) (ht : (pc : Int) + dflt = (tgt : Int)) (k : G D X A kc ks Q ad tgt lv st cs) : G D X A kc ks Q ad pc lv (.int x :: st) cs := fun ls H locs hL hP hD hS => lv_tableOut M.1 M.2.1 d h ht (k ls H locs hL hP hD hS)
theorem G_tableIn (M : CX D X A own cc nL R) {dflt lo hi off : Int} {offs : Array Int} {len : Nat} {x : Int32} (tgt : Nat) (d : decode cc pc = .ok (.tableswitch dflt lo hi offs, len)) (h1 : ¬ x.toInt < lo) (h2 : ¬ hi < x.toInt) (ho : offs[(x.toInt - lo).toNat]? = some off) (ht : (pc : Int) + off = (tgt : Int)) (k : G D X A kc ks Q ad tgt lv st cs) : G D X A kc ks Q ad pc lv (.int x :: st) cs := fun ls H locs hL hP hD hS => lv_tableIn M.1 M.2.1 d h1 h2 ho ht (k ls H locs hL hP hD hS)
theorem G_ldc (M : CX D X A own cc nL R) {i : Nat} {v : Int32} (d : decode cc pc = .ok (.ldc i, 2)) (h : Cond.constant own i v ∈ TB) (k : G D X A kc ks Q ad (pc + 2) lv (.int v :: st) cs) : G D X A kc ks Q ad pc lv st cs := fun ls H locs hL hP hD hS => lv_ldc M.1 M.2.1 M.2.2.2.1 (M.2.2.2.2.1 _ h) d (k ls H locs hL hP hD hS)
theorem G_ldc2 (M : CX D X A own cc nL R) {i : Nat} {v : Int64} (d : decode cc pc = .ok (.ldc2_w i, 3)) (h : Cond.constantLong own i v ∈ TB) (k : G D X A kc ks Q ad (pc + 3) lv (.long v :: st) cs) : G D X A kc ks Q ad pc lv st cs := fun ls H locs hL hP hD hS => lv_ldc2 M.1 M.2.1 M.2.2.2.1 (M.2.2.2.2.1 _ h) d (k ls H locs hL hP hD hS)
/-- what the tables say of a field that class own links at place i: class ci's field k, of type ty, final or not -/
def FL (own : String) (i ci k : Nat) (ty : FieldType) (fin : Bool) : Prop := ∃ (C : String) (T : u_T) (N : Nat) (tf : Nat → FieldType), vcl[ci]? = some (C, T, N) ∧ k < N ∧ (∀ w ∈ u_ws C T N, w ∈ TB) ∧ (∀ k, k < N → parseFieldDescriptor (T k).2.2.1 = some (tf k)) ∧ (∀ a, a < N → ∀ b, b < N → a ≠ b → (T a).2.1 ≠ (T b).2.1) ∧ Cond.fieldLink own i (T k).1 (T k).2.1 (T k).2.2.1 ∈ TB ∧ (T k).2.2.2 = fin ∧ parseFieldDescriptor (T k).2.2.1 = some ty ∧ (fin = true → (T k).1 = own)
theorem G_getf (M : CX D X A own cc nL R) {i ci f a : Nat} {ty : FieldType} {fin : Bool} {fs : List Value} {v : Value} (d : decode cc pc = .ok (.getfield i, 3)) (F : FL own i ci f ty fin) (hc : gt cs a = some (ob ci fs)) (hv : gt fs f = some v) (k : G D X A kc ks Q ad (pc + 3) lv (v :: st) cs) : G D X A kc ks Q ad pc lv (.ref (ad a) :: st) cs := fun ls H locs hL hP hD hS => by
  obtain ⟨C, T, N, tf, h1, h2, h3, h4, h5, h6, h7, h8, -⟩ := F
  exact va_get M.1 M.2.1 M.2.2.2.2.1 h3 M.2.2.2.1 M.2.2.2.2.2.1 hP a (wsO_at hc) h1 f h2 (M.2.2.2.2.1 _ h6) (fun _ h9 => h9) (by rw [← gt_eq]; exact hv) d (k ls H locs hL hP hD hS)
theorem G_putfi (M : CX D X A own cc nL R) {i ci f a : Nat} {fs : List Value} {v : Int32} (d : decode cc pc = .ok (.putfield i, 3)) (F : FL own i ci f .int false) (hc : gt cs a = some (ob ci fs)) (hl : f < fs.length) (k : G D X A kc ks Q ad (pc + 3) lv st (cs.set a (ob ci (fs.set f (.int v))))) : G D X A kc ks Q ad pc lv (.int v :: .ref (ad a) :: st) cs := fun ls H locs hL hP hD hS => by
  obtain ⟨C, T, N, tf, h1, h2, h3, h4, h5, h6, h7, h8, -⟩ := F
  refine va_put M.1 M.2.1 M.2.2.2.2.1 h3 tf h4 h5 M.2.2.2.1 M.2.2.2.2.2.1 hP hD hS a (wsO_at hc) h1 f h2 (M.2.2.2.2.1 _ h6) (fun _ h9 => h9) h7 h8 rfl rfl hl d (fun H1 locs1 hP1 hD1 hS1 => ?_)
  rw [wsO_set] at hP1 hD1
  exact k ls H1 locs1 hL hP1 hD1 hS1
theorem G_putfl (M : CX D X A own cc nL R) {i ci f a : Nat} {fs : List Value} {v : Int64} (d : decode cc pc = .ok (.putfield i, 3)) (F : FL own i ci f .long false) (hc : gt cs a = some (ob ci fs)) (hl : f < fs.length) (k : G D X A kc ks Q ad (pc + 3) lv st (cs.set a (ob ci (fs.set f (.long v))))) : G D X A kc ks Q ad pc lv (.long v :: .ref (ad a) :: st) cs := fun ls H locs hL hP hD hS => by
  obtain ⟨C, T, N, tf, h1, h2, h3, h4, h5, h6, h7, h8, -⟩ := F
  refine va_put M.1 M.2.1 M.2.2.2.2.1 h3 tf h4 h5 M.2.2.2.1 M.2.2.2.2.2.1 hP hD hS a (wsO_at hc) h1 f h2 (M.2.2.2.2.1 _ h6) (fun _ h9 => h9) h7 h8 rfl rfl hl d (fun H1 locs1 hP1 hD1 hS1 => ?_)
  rw [wsO_set] at hP1 hD1
  exact k ls H1 locs1 hL hP1 hD1 hS1
theorem G_iaload (M : CX D X A own cc nL R) {a n : Nat} {f : Nat → Int32} {j : Int32} (d : decode cc pc = .ok (.iaload, 1)) (hc : gt cs a = some (ia D n f)) (hin : vp_in j n) (k : G D X A kc ks Q ad (pc + 1) lv (.int (f j.toNatClampNeg) :: st) cs) : G D X A kc ks Q ad pc lv (.int j :: .ref (ad a) :: st) cs := fun ls H locs hL hP hD hS => va_iald M.1 M.2.1 M.2.2.2.2.2.1 hP a 0 (wsO_at hc) rfl hin d (k ls H locs hL hP hD hS)
theorem G_iastore (M : CX D X A own cc nL R) {a n : Nat} {f : Nat → Int32} {j : Int32} {x : Int32} (d : decode cc pc = .ok (.iastore, 1)) (hc : gt cs a = some (ia D n f)) (hin : vp_in j n) (k : G D X A kc ks Q ad (pc + 1) lv st (cs.set a (ia D n (upd f j.toNatClampNeg x)))) : G D X A kc ks Q ad pc lv (.int x :: .int j :: .ref (ad a) :: st) cs := fun ls H locs hL hP hD hS => by
  refine va_iast M.1 M.2.1 M.2.2.2.2.2.1 hP hD hS a 0 (wsO_at hc) rfl hin d (fun H1 locs1 hP1 hD1 hS1 => ?_)
  rw [wsO_set] at hP1 hD1
  exact k ls H1 locs1 hL hP1 hD1 hS1
theorem G_laload (M : CX D X A own cc nL R) {a n : Nat} {f : Nat → Int64} {j : Int32} (d : decode cc pc = .ok (.laload, 1)) (hc : gt cs a = some (la D n f)) (hin : vp_in j n) (k : G D X A kc ks Q ad (pc + 1) lv (.long (f j.toNatClampNeg) :: st) cs) : G D X A kc ks Q ad pc lv (.int j :: .ref (ad a) :: st) cs := fun ls H locs hL hP hD hS => va_lald M.1 M.2.1 M.2.2.2.2.2.1 hP a 1 (wsO_at hc) rfl hin d (k ls H locs hL hP hD hS)
theorem G_lastore (M : CX D X A own cc nL R) {a n : Nat} {f : Nat → Int64} {j : Int32} {x : Int64} (d : decode cc pc = .ok (.lastore, 1)) (hc : gt cs a = some (la D n f)) (hin : vp_in j n) (k : G D X A kc ks Q ad (pc + 1) lv st (cs.set a (la D n (vp_updL f j.toNatClampNeg x)))) : G D X A kc ks Q ad pc lv (.long x :: .int j :: .ref (ad a) :: st) cs := fun ls H locs hL hP hD hS => by
  refine va_last M.1 M.2.1 M.2.2.2.2.2.1 hP hD hS a 1 (wsO_at hc) rfl hin d (fun H1 locs1 hP1 hD1 hS1 => ?_)
  rw [wsO_set] at hP1 hD1
  exact k ls H1 locs1 hL hP1 hD1 hS1
theorem G_baload (M : CX D X A own cc nL R) {a n : Nat} {f : Nat → Int32} {j : Int32} (d : decode cc pc = .ok (.baload, 1)) (hc : gt cs a = some (za D n f)) (hin : vp_in j n) (k : G D X A kc ks Q ad (pc + 1) lv (.int (f j.toNatClampNeg) :: st) cs) : G D X A kc ks Q ad pc lv (.int j :: .ref (ad a) :: st) cs := fun ls H locs hL hP hD hS => va_zald M.1 M.2.1 M.2.2.2.2.2.1 hP a 2 (wsO_at hc) rfl hin d (k ls H locs hL hP hD hS)
theorem G_bastore (M : CX D X A own cc nL R) {a n : Nat} {f : Nat → Int32} {j : Int32} {x : Int32} (d : decode cc pc = .ok (.bastore, 1)) (hc : gt cs a = some (za D n f)) (hin : vp_in j n) (k : G D X A kc ks Q ad (pc + 1) lv st (cs.set a (za D n (upd f j.toNatClampNeg (vp_nar .boolean x))))) : G D X A kc ks Q ad pc lv (.int x :: .int j :: .ref (ad a) :: st) cs := fun ls H locs hL hP hD hS => by
  refine va_zast M.1 M.2.1 M.2.2.2.2.2.1 hP hD hS a 2 (wsO_at hc) rfl hin d (fun H1 locs1 hP1 hD1 hS1 => ?_)
  rw [wsO_set] at hP1 hD1
  exact k ls H1 locs1 hL hP1 hD1 hS1
theorem G_aaload (M : CX D X A own cc nL R) {a n r : Nat} {f : Nat → Option Nat} {j : Int32} (d : decode cc pc = .ok (.aaload, 1)) (hc : gt cs a = some (qa D n f)) (hin : vp_in j n) (hf : f j.toNatClampNeg = some r) (k : G D X A kc ks Q ad (pc + 1) lv (.ref r :: st) cs) : G D X A kc ks Q ad pc lv (.int j :: .ref (ad a) :: st) cs := fun ls H locs hL hP hD hS => va_aldq M.1 M.2.1 M.2.2.2.2.2.1 hP a 3 (wsO_at hc) rfl hin d (by rw [hf]; exact (k ls H locs hL hP hD hS))
theorem G_alen_ia (M : CX D X A own cc nL R) {a n : Nat} {f : Nat → Int32} {v : Int32} (d : decode cc pc = .ok (.arraylength, 1)) (hc : gt cs a = some (ia D n f)) (hv : Int32.ofNat n = v) (k : G D X A kc ks Q ad (pc + 1) lv (.int v :: st) cs) : G D X A kc ks Q ad pc lv (.ref (ad a) :: st) cs := fun ls H locs hL hP hD hS => va_alen M.1 M.2.1 M.2.2.2.2.2.1 hP a 0 (wsO_at hc) rfl hv d (k ls H locs hL hP hD hS)
theorem G_alen_la (M : CX D X A own cc nL R) {a n : Nat} {f : Nat → Int64} {v : Int32} (d : decode cc pc = .ok (.arraylength, 1)) (hc : gt cs a = some (la D n f)) (hv : Int32.ofNat n = v) (k : G D X A kc ks Q ad (pc + 1) lv (.int v :: st) cs) : G D X A kc ks Q ad pc lv (.ref (ad a) :: st) cs := fun ls H locs hL hP hD hS => va_alen M.1 M.2.1 M.2.2.2.2.2.1 hP a 1 (wsO_at hc) rfl hv d (k ls H locs hL hP hD hS)
theorem G_alen_za (M : CX D X A own cc nL R) {a n : Nat} {f : Nat → Int32} {v : Int32} (d : decode cc pc = .ok (.arraylength, 1)) (hc : gt cs a = some (za D n f)) (hv : Int32.ofNat n = v) (k : G D X A kc ks Q ad (pc + 1) lv (.int v :: st) cs) : G D X A kc ks Q ad pc lv (.ref (ad a) :: st) cs := fun ls H locs hL hP hD hS => va_alen M.1 M.2.1 M.2.2.2.2.2.1 hP a 2 (wsO_at hc) rfl hv d (k ls H locs hL hP hD hS)
theorem G_alen_qa (M : CX D X A own cc nL R) {a n : Nat} {f : Nat → Option Nat} {v : Int32} (d : decode cc pc = .ok (.arraylength, 1)) (hc : gt cs a = some (qa D n f)) (hv : Int32.ofNat n = v) (k : G D X A kc ks Q ad (pc + 1) lv (.int v :: st) cs) : G D X A kc ks Q ad pc lv (.ref (ad a) :: st) cs := fun ls H locs hL hP hD hS => va_alen M.1 M.2.1 M.2.2.2.2.2.1 hP a 3 (wsO_at hc) rfl hv d (k ls H locs hL hP hD hS)
end GR
end
section
/-! contracts over footprints, returns, calls -/
def CQ (D : DD) (ad : Nat → Nat) (n : Nat) (A : Nat → Prop) (Qm : Option Value → List va_E → Prop) : Array Value → State → Outcome → State → Prop := fun _ st oc t => (∃ (v : Option Value) (cs : List va_E), oc = .returned v ∧ Qm v cs ∧ cs.length = n ∧ va_P D.1 vcl (wsO ad cs) t.heap) ∧ va_F A st t
def GQ (D : DD) (X : MX) (A : Nat → Prop) (ad : Nat → Nat) (n : Nat) (Qm : Option Value → List va_E → Prop) : State → Prop := MQ X.2.2.2.2.2.2.2.1 (CQ D ad n A Qm) X.2.2.2.2.2.2.1 X.2.2.2.2.1 0 0 A
def RT (X : MX) (ret : Option FieldType) : Prop := X.2.2.2.2.2.2.2.2.1.sig.returnType = ret ∧ X.2.2.2.2.2.2.2.2.1.locks = false
abbrev MI : Type := MethodName × ByteArray × Nat × Option FieldType × Nat × Nat
def miR (mi : MI) : Room := { frames := mi.2.2.2.2.1, cells := 0, slots := 0, locals := mi.2.2.2.2.2 }
/-- the contract of a method that makes no cell: from the footprint cs at the addresses ad, with the arguments As, it returns v and leaves cs' with Qm v cs' -/
def Ct (D : DD) (l : Launch) (mi : MI) (As : List Value) (ad : Nat → Nat) (cs : List va_E) (Qm : Option Value → List va_E → Prop) : Prop :=
  ∀ sz : Nat, Met l mi.1 (Cond.code mi.1 mi.2.1 mi.2.2.1 mi.2.2.2.1 :: TB) (miR mi) (va_Pc As (fun U => U.heap.size = sz ∧ va_P D.1 vcl (wsO ad cs) U.heap ∧ va_D (fun _ => True) (wsO ad cs) ∧ va_K D.1 vcl (tysO D) U ∧ NL U)) (CQ D ad cs.length (va_A (wsO ad cs) sz) Qm) 0 0 (va_A (wsO ad cs) sz)
theorem Ct.of {D : DD} {l : Launch} {mi : MI} {As : List Value} {ad : Nat → Nat} {cs : List va_E} {Qm : Option Value → List va_E → Prop} (hy : plainName mi.1.cls = true) (hn : (lg_sl As).length ≤ mi.2.2.1)
    (body : ∀ (X : MX) (A : Nat → Prop), X.2.1 = l → CX D X A mi.1.cls mi.2.1 mi.2.2.1 (miR mi) → RT X mi.2.2.2.1 → G D X A 0 0 (GQ D X A ad cs.length Qm) ad 0 (lent As ++ lpad (mi.2.2.1 - (lg_sl As).length)) [] cs) : Ct D l mi As ad cs Qm := by
  intro sz
  refine Met.ofW (cc := mi.2.1) (maxL := mi.2.2.1) (ret := mi.2.2.2.1) hy rfl ?_
  intro p e s m args below meth c s₁ B hml hv
  obtain ⟨rfl, hsz, hP, hD0, hK, hN⟩ := hv
  have hts := atoms_spec (ws := Cond.code mi.1 mi.2.1 mi.2.2.1 mi.2.2.2.1 :: TB) B.pre
  have hown : s.vm.findClass mi.1.cls = some m.cls := findClass_of_methodNamed B.named
  subst hsz
  have hD := hD0.self (sz := s.heap.size)
  have hl := LH.entry As hn
  rw [lg_entry_eq]
  exact body (p, l, e, (headSpec (Cond.code mi.1 mi.2.1 mi.2.2.1 mi.2.2.2.1 :: TB) (miR mi)).room, s, m, As.toArray, below, meth, c) (va_A (wsO ad cs) s.heap.size) rfl
    ⟨B.exec, B.bytes, hml, hown, fun w hw => hts w (List.mem_cons_of_mem _ hw), hK, hN, fun q h => Or.inr h, rfl⟩ ⟨B.returns, B.notSynchronized⟩ _ _ _ hl hP hD va_S.rf
section GR2
variable {D : DD} {X : MX} {A : Nat → Prop} {own : String} {cc : ByteArray} {nL kc ks : Nat} {R : Room} {Q : State → Prop} {ad : Nat → Nat} {pc n : Nat} {lv : List (Option Value)} {st : List Value} {cs : List va_E} {Qm : Option Value → List va_E → Prop}
theorem G_iret (M : CX D X A own cc nL R) (hr : RT X (some .int)) {v : Int32} (d : decode cc pc = .ok (.ireturn, 1)) (hn : cs.length = n) (h : Qm (some (.int v)) cs) : G D X A 0 0 (GQ D X A ad n Qm) ad pc lv [.int v] cs := fun ls H locs hL hP hD hS =>
  W.iret M.1 M.2.1 hr.1 (fun t ht hW => ⟨⟨_, cs, rfl, h, hn, by rw [ht]; exact hP⟩, hS.F ht⟩) hS.2.2 d hr.2
theorem G_zret (M : CX D X A own cc nL R) (hr : RT X (some .boolean)) {v : Int32} (d : decode cc pc = .ok (.ireturn, 1)) (hv : narrow .boolean (.int v) = .int v) (hn : cs.length = n) (h : Qm (some (.int v)) cs) : G D X A 0 0 (GQ D X A ad n Qm) ad pc lv [.int v] cs := fun ls H locs hL hP hD hS =>
  W.zret M.1 M.2.1 hr.1 hv (fun t ht hW => ⟨⟨_, cs, rfl, h, hn, by rw [ht]; exact hP⟩, hS.F ht⟩) hS.2.2 d hr.2
theorem G_lret (M : CX D X A own cc nL R) (hr : RT X (some .long)) {v : Int64} (d : decode cc pc = .ok (.lreturn, 1)) (hn : cs.length = n) (h : Qm (some (.long v)) cs) : G D X A 0 0 (GQ D X A ad n Qm) ad pc lv [.long v] cs := fun ls H locs hL hP hD hS =>
  W.lret M.1 M.2.1 hr.1 (fun t ht hW => ⟨⟨_, cs, rfl, h, hn, by rw [ht]; exact hP⟩, hS.F ht⟩) hS.2.2 d hr.2
theorem G_vret (M : CX D X A own cc nL R) (hr : RT X none) (d : decode cc pc = .ok (.return_, 1)) (hn : cs.length = n) (h : Qm none cs) : G D X A 0 0 (GQ D X A ad n Qm) ad pc lv [] cs := fun ls H locs hL hP hD hS =>
  W.vret M.1 M.2.1 hr.1 (fun t ht hW => ⟨⟨_, cs, rfl, h, hn, by rw [ht]; exact hP⟩, hS.F ht⟩) hS.2.2 d hr.2
end GR2
/-! a callee's footprint: the caller's cells at the places is -/
def pn : List Nat → Nat → Nat
  | [], _ => 0
  | a :: _, 0 => a
  | _ :: r, n + 1 => pn r n
def Pk (cs : List va_E) : List Nat → List va_E → Prop
  | [], [] => True
  | i :: is, c :: wc => gt cs i = some c ∧ Pk cs is wc
  | _, _ => False
def sall : List va_E → List Nat → List va_E → List va_E
  | cs, i :: is, c :: r => sall (cs.set i c) is r
  | cs, _, _ => cs
def pushArgs : List Value → List Value → List Value
  | [], st => st
  | v :: vs, st => pushArgs vs (v :: st)
theorem pushArgs_eq : ∀ (vs st : List Value), pushArgs vs st = vs.reverse ++ st
  | [], st => rfl
  | v :: vs, st => by rw [pushArgs, pushArgs_eq vs]; simp
theorem Pk_len : ∀ {cs : List va_E} {is : List Nat} {wc : List va_E}, Pk cs is wc → is.length = wc.length
  | cs, [], [], _ => rfl
  | cs, i :: is, c :: wc, h => by simp [Pk_len h.2]
  | cs, [], c :: wc, h => h.elim
  | cs, i :: is, [], h => h.elim
theorem Pk_get : ∀ {cs : List va_E} {is : List Nat} {wc : List va_E}, Pk cs is wc → ∀ (j : Nat) (c : va_E), wc[j]? = some c → ∃ i, is[j]? = some i ∧ cs[i]? = some c ∧ pn is j = i
  | cs, [], [], _, j, c, h => by simp at h
  | cs, i :: is, c0 :: wc, hp, 0, c, h => by
    simp at h
    subst h
    exact ⟨i, by simp, by rw [← gt_eq]; exact hp.1, rfl⟩
  | cs, i :: is, c0 :: wc, hp, j + 1, c, h => by
    obtain ⟨i1, h1, h2, h3⟩ := Pk_get hp.2 j c (by simpa using h)
    exact ⟨i1, by simpa using h1, h2, h3⟩
  | cs, [], c0 :: wc, hp, _, _, _ => hp.elim
  | cs, i :: is, [], hp, _, _, _ => hp.elim
theorem sall_len : ∀ (cs : List va_E) (is : List Nat) (r : List va_E), (sall cs is r).length = cs.length
  | cs, [], _ => by simp [sall]
  | cs, i :: is, [] => by simp [sall]
  | cs, i :: is, c :: r => by simp [sall, sall_len]
theorem sall_out : ∀ (cs : List va_E) (is : List Nat) (r : List va_E) (k : Nat), k ∉ is → (sall cs is r)[k]? = cs[k]?
  | cs, [], _, k, _ => by simp [sall]
  | cs, i :: is, [], k, _ => by simp [sall]
  | cs, i :: is, c :: r, k, h => by
    rw [sall, sall_out _ is r k (fun q => h (List.mem_cons_of_mem _ q)), List.getElem?_set_ne (fun q => h (by rw [q]; exact List.mem_cons_self))]
theorem sall_in : ∀ (cs : List va_E) (is : List Nat) (r : List va_E) (j k : Nat) (c : va_E), va_nd is = true → is[j]? = some k → r[j]? = some c → k < cs.length → (sall cs is r)[k]? = some c
  | cs, [], _, j, k, c, _, h, _, _ => by simp at h
  | cs, i :: is, [], j, k, c, _, _, h, _ => by simp at h
  | cs, i :: is, c0 :: r, 0, k, c, hn, h1, h2, hk => by
    simp at h1 h2
    subst h1; subst h2
    simp only [va_nd, Bool.and_eq_true, decide_eq_true_eq] at hn
    rw [sall, sall_out _ _ _ _ hn.1, List.getElem?_set_self hk]
  | cs, i :: is, c0 :: r, j + 1, k, c, hn, h1, h2, hk => by
    simp only [va_nd, Bool.and_eq_true, decide_eq_true_eq] at hn
    exact sall_in (cs.set i c0) is r j k c hn.2 (by simpa using h1) (by simpa using h2) (by simpa using hk)
theorem call_P {D : DD} {ad : Nat → Nat} {cs wc : List va_E} {is : List Nat} {H : Heap} (hpk : Pk cs is wc) (hP : va_P D.1 vcl (wsO ad cs) H) : va_P D.1 vcl (wsO (fun j => ad (pn is j)) wc) H := by
  intro j q hq
  rw [wsO_get] at hq
  obtain ⟨c, hc, rfl⟩ := Option.map_eq_some_iff.mp hq
  obtain ⟨i, h1, h2, h3⟩ := Pk_get hpk j c hc
  exact hP i _ (by rw [wsO_get, h2, h3]; rfl)
theorem call_D {A B : Nat → Prop} {ad : Nat → Nat} {cs wc : List va_E} {is : List Nat} (hpk : Pk cs is wc) (hnd : va_nd is = true) (hD : va_D A (wsO ad cs)) (hAB : ∀ q, A q → B q) : va_D B (wsO (fun j => ad (pn is j)) wc) := by
  refine ⟨fun j1 j2 x y h1 h2 hxy => ?_, fun j q hq => ?_⟩
  · rw [wsO_get] at h1 h2
    obtain ⟨c1, e1, rfl⟩ := Option.map_eq_some_iff.mp h1
    obtain ⟨c2, e2, rfl⟩ := Option.map_eq_some_iff.mp h2
    obtain ⟨i1, a1, a2, a3⟩ := Pk_get hpk j1 c1 e1
    obtain ⟨i2, b1, b2, b3⟩ := Pk_get hpk j2 c2 e2
    have := hD.1 i1 i2 (ad i1, c1) (ad i2, c2) (by rw [wsO_get, a2]; rfl) (by rw [wsO_get, b2]; rfl) (by simp only [a3, b3] at hxy; exact hxy)
    subst this
    exact va_nd_inj is hnd j1 j2 i1 a1 b1
  · rw [wsO_get] at hq
    obtain ⟨c, hc, rfl⟩ := Option.map_eq_some_iff.mp hq
    obtain ⟨i, h1, h2, h3⟩ := Pk_get hpk j c hc
    exact hAB _ (by simp only [h3]; exact hD.2 i (ad i, c) (by rw [wsO_get, h2]; rfl))
theorem call_A {A : Nat → Prop} {ad : Nat → Nat} {cs wc : List va_E} {is : List Nat} {H0 H : Heap} {locs : List Loc} (hpk : Pk cs is wc) (hD : va_D A (wsO ad cs)) (hS : va_S A H0 H locs) (hA : ∀ q : Nat, H0.size ≤ q → A q) : ∀ q, va_A (wsO (fun j => ad (pn is j)) wc) H.size q → A q := by
  rintro q (⟨k, e, h⟩ | h)
  · rw [wsO_get] at h
    obtain ⟨c, hc, he⟩ := Option.map_eq_some_iff.mp h
    obtain ⟨i, h1, h2, h3⟩ := Pk_get hpk k c hc
    have : ad i = q := by rw [← h3]; exact congrArg Prod.fst he
    rw [← this]
    exact hD.2 i (ad i, c) (by rw [wsO_get, h2]; rfl)
  · exact hA q (Nat.le_trans hS.1 h)
theorem call_back {D : DD} {A : Nat → Prop} {ad : Nat → Nat} {cs wc c1 : List va_E} {is : List Nat} {H H1 : Heap} (hpk : Pk cs is wc) (hnd : va_nd is = true) (hP : va_P D.1 vcl (wsO ad cs) H) (hD : va_D A (wsO ad cs)) (hl : c1.length = wc.length)
    (hk : ∀ q : Nat, q < H.size → ¬ va_A (wsO (fun j => ad (pn is j)) wc) H.size q → H1[q]? = H[q]?) (hP1 : va_P D.1 vcl (wsO (fun j => ad (pn is j)) c1) H1) : va_P D.1 vcl (wsO ad (sall cs is c1)) H1 ∧ va_D A (wsO ad (sall cs is c1)) := by
  have hlen := Pk_len hpk
  refine ⟨fun k q hq => ?_, fun i j x y hx hy hxy => ?_, fun k q hq => ?_⟩
  · rw [wsO_get] at hq
    obtain ⟨c, hc, rfl⟩ := Option.map_eq_some_iff.mp hq
    have hkl : k < cs.length := by have := (List.getElem?_eq_some_iff.mp hc).1; rwa [sall_len] at this
    by_cases hin : k ∈ is
    · obtain ⟨j, hj⟩ := List.getElem?_of_mem hin
      have hj2 : j < c1.length := by rw [hl, ← hlen]; exact (List.getElem?_eq_some_iff.mp hj).1
      have hcj : c1[j]? = some c1[j] := List.getElem?_eq_getElem hj2
      have hs := sall_in cs is c1 j k _ hnd hj hcj hkl
      rw [hs] at hc
      cases hc
      have hw : wc[j]? = some (wc[j]'(by omega)) := List.getElem?_eq_getElem (by omega)
      obtain ⟨i, h1, h2, h3⟩ := Pk_get hpk j _ hw
      have e : i = k := Option.some.inj (h1.symm.trans hj)
      have := hP1 j (ad (pn is j), c1[j]) (by rw [wsO_get, hcj]; rfl)
      rw [h3, e] at this
      exact this
    · rw [sall_out cs is c1 k hin] at hc
      have h0 : (wsO ad cs)[k]? = some (ad k, c) := by rw [wsO_get, hc]; rfl
      refine (hP k _ h0).kept (hk _ (hP k _ h0).lt ?_)
      rintro (⟨j, e, h⟩ | h)
      · rw [wsO_get] at h
        obtain ⟨cj, hcj, he⟩ := Option.map_eq_some_iff.mp h
        obtain ⟨i, h1, h2, h3⟩ := Pk_get hpk j cj hcj
        have ha : ad i = ad k := by have := congrArg Prod.fst he; simpa [h3] using this
        have := hD.1 i k (ad i, cj) (ad k, c) (by rw [wsO_get, h2]; rfl) h0 ha
        subst this
        exact hin (List.mem_of_getElem? h1)
      · exact absurd (hP k _ h0).lt (by simpa using h)
  · rw [wsO_get] at hx hy
    obtain ⟨c2, e2, rfl⟩ := Option.map_eq_some_iff.mp hx
    obtain ⟨c3, e3, rfl⟩ := Option.map_eq_some_iff.mp hy
    have l2 : i < cs.length := by have := (List.getElem?_eq_some_iff.mp e2).1; rwa [sall_len] at this
    have l3 : j < cs.length := by have := (List.getElem?_eq_some_iff.mp e3).1; rwa [sall_len] at this
    exact hD.1 i j (ad i, cs[i]) (ad j, cs[j]) (by rw [wsO_get, List.getElem?_eq_getElem l2]; rfl) (by rw [wsO_get, List.getElem?_eq_getElem l3]; rfl) hxy
  · rw [wsO_get] at hq
    obtain ⟨c2, e2, rfl⟩ := Option.map_eq_some_iff.mp hq
    have l2 : k < cs.length := by have := (List.getElem?_eq_some_iff.mp e2).1; rwa [sall_len] at this
    exact hD.2 k (ad k, cs[k]) (by rw [wsO_get, List.getElem?_eq_getElem l2]; rfl)
section GR3
variable {D : DD} {X : MX} {A : Nat → Prop} {own : String} {cc : ByteArray} {nL kc ks : Nat} {R : Room} {Q : State → Prop} {ad : Nat → Nat} {pc n : Nat} {lv : List (Option Value)} {st st0 : List Value} {cs wc : List va_E} {Qm : Option Value → List va_E → Prop} {mi : MI} {As : List Value}
/-- behind a call -/
theorem G_back (is : List Nat) (hpk : Pk cs is wc) (hnd : va_nd is = true) {ls : Array Slot} {H : Heap} {locs : List Loc} {a : Array Value} (hL : LH ls lv) (hP : va_P D.1 vcl (wsO ad cs) H) (hD : va_D A (wsO ad cs)) (hS : va_S A X.2.2.2.2.1.heap H locs) (hA : ∀ q : Nat, X.2.2.2.2.1.heap.size ≤ q → A q)
    (hr : va_Run X.1 X.2.1 X.2.2.1 X.2.2.2.1 X.2.2.2.2.1 X.2.2.2.2.2.1 X.2.2.2.2.2.2.1 X.2.2.2.2.2.2.2.1 X.2.2.2.2.2.2.2.2.1 X.2.2.2.2.2.2.2.2.2 H locs kc ks 0 0 (F0 X.2.2.2.2.2.1 pc ls st0) st (CQ D (fun j => ad (pn is j)) wc.length (va_A (wsO (fun j => ad (pn is j)) wc) H.size) Qm a) (va_A (wsO (fun j => ad (pn is j)) wc) H.size))
    (kk : ∀ (v : Option Value) (c1 : List va_E), Qm v c1 → c1.length = wc.length → G D X A kc ks Q ad (pc + 3) lv (v.toList ++ st) (sall cs is c1)) :
    W X.1 X.2.1 X.2.2.1 X.2.2.2.1 X.2.2.2.2.1 X.2.2.2.2.2.1 X.2.2.2.2.2.2.1 X.2.2.2.2.2.2.2.1 X.2.2.2.2.2.2.2.2.1 X.2.2.2.2.2.2.2.2.2 H locs kc ks Q (F0 X.2.2.2.2.2.1 pc ls st0) := by
  intro T hT XX
  obtain ⟨v, st₀, t, T', L, h0, X', hL', e1, e2, ⟨⟨v2, c1, hv, hq, hlen, hP1⟩, hz, hk⟩, stp⟩ := hr T hT XX
  cases hv
  rw [h0] at hz hk
  have hF := call_A hpk hD hS hA
  obtain ⟨hP2, hD2⟩ := call_back (H1 := t.heap) hpk hnd hP hD hlen hk hP1
  obtain ⟨t2, a1, b1⟩ := kk v c1 hq hlen ls t.heap (locs ++ L) hL hP2 hD2
    ⟨Nat.le_trans hS.1 hz, fun q h1 h2 => by rw [hk q (Nat.lt_of_lt_of_le h1 hS.1) (fun z => h2 (hF q z))]; exact hS.2.1 q h1 h2, fun q hq => by
      rcases List.mem_append.mp hq with h | h
      · exact hS.2.2 q h
      · exact hF _ (hL' q h)⟩ T' e1 X'
  exact ⟨t2, stp t2 a1, b1⟩
theorem Ct.blind {sz : Nat} : FrameBlind (va_Pc As (fun U => U.heap.size = sz ∧ va_P D.1 vcl (wsO ad cs) U.heap ∧ va_D (fun _ => True) (wsO ad cs) ∧ va_K D.1 vcl (tysO D) U ∧ NL U)) := by
  intro a U g mk ⟨h1, h2, h3, h4, h5, h6⟩
  exact ⟨h1, h2, h3, h4, va_K.moved (u := U) (U := U.calling g mk a) (Vm.Alike.refl U.vm) h5, fun q hq => va_Nw.same rfl rfl (h6 q hq)⟩
theorem TB_pay {s : State} {args : Array Value} {w0 : Cond} (hts : ∀ w ∈ TB, w.before args s = true) (h0 : w0 ∈ TB) : ∀ w ∈ w0 :: TB, ∀ (a' : Array Value) (U : State), s.WarmedH U.vm → w.before a' U = true := by
  intro w hw a' U hW
  have hw' : w ∈ TB := by
    rcases List.mem_cons.mp hw with h | h
    · rw [h]; exact h0
    · exact h
  exact word_at hW (TB_good w hw') (hts w hw')
/-- what the tables say of a method: its code, what its descriptor takes -/
def MC (mi : MI) (np : Nat) : Prop := Cond.code mi.1 mi.2.1 mi.2.2.1 mi.2.2.2.1 ∈ TB ∧ Cond.initialized mi.1.cls ∈ TB ∧ (mi.1.cls ≠ "java/lang/invoke/MethodHandle" ∧ mi.1.cls ≠ "java/lang/invoke/VarHandle") ∧ (parseMethodDescriptor mi.1.desc).map (fun d => d.parameters.length) = some np
theorem MC.len {np : Nat} (h : MC mi np) : ∀ sig, parseMethodDescriptor mi.1.desc = some sig → np = sig.parameters.length := fun sig hs => by
  have h2 := h.2.2.2
  rw [hs] at h2
  exact (Option.some.inj h2).symm
def MV (own : String) (i : Nat) (mi : MI) (ci np : Nat) : Prop := MC mi np ∧ Cond.methodLink own i mi.1 ∈ TB ∧ Cond.instanceMethod mi.1 ∈ TB ∧ Cond.selects mi.1.cls mi.1 mi.1 ∈ TB ∧ ∃ (T : u_T) (N : Nat), vcl[ci]? = some (mi.1.cls, T, N)
def MS (own : String) (i : Nat) (mi : MI) (np : Nat) : Prop := MC mi np ∧ Cond.methodLink own i mi.1 ∈ TB ∧ Cond.static mi.1 ∈ TB
def MN (own : String) (i : Nat) (mi : MI) (np : Nat) : Prop := MC mi np ∧ (∃ host, (own, i, mi.1, host) ∈ nst) ∧ Cond.static mi.1 ∈ TB
theorem G_callv (M : CX D X A own cc nL R) {i ci np a : Nat} {fs : List Value} (is : List Nat) (d : decode cc pc = .ok (.invokevirtual i, 3)) (V : MV own i mi ci np) (C : Ct D X.2.1 mi (.ref (ad a) :: As) (fun j => ad (pn is j)) wc Qm) (hc : gt cs a = some (ob ci fs)) (hpk : Pk cs is wc) (hst : st0 = pushArgs (.ref (ad a) :: As) st) (hlv : lv.length = nL) (hnp : As.length = np) (hnd : va_nd is = true) (hw : (st.map fun v => v.category).sum ≤ 8) (hf : mi.2.2.2.2.1 + 1 ≤ R.frames) (hlo : 8 + (mi.2.2.1 + 11) + mi.2.2.2.2.2 ≤ R.locals) (hcs : kc ≤ R.cells ∧ ks ≤ R.slots)
    (kk : ∀ (v : Option Value) (c1 : List va_E), Qm v c1 → c1.length = wc.length → G D X A kc ks Q ad (pc + 3) lv (v.toList ++ st) (sall cs is c1)) : G D X A kc ks Q ad pc lv st0 cs := fun ls H locs hL hP hD hS => by
  obtain ⟨hx, hb, hml, hown, hts, hK, hN, hA, hR⟩ := M
  obtain ⟨V0, V1, V2, V3, T, N, V4⟩ := V
  subst hst
  rw [pushArgs_eq, List.reverse_cons, List.append_assoc]
  refine G_back is hpk hnd hL hP hD hS hA (va_runV (ws := Cond.code mi.1 mi.2.1 mi.2.2.1 mi.2.2.2.1 :: TB) (rm := miR mi) (C := mi.1.cls) (n := np) ⟨hx, hb, hml, hown, hts⟩ (C H.size) ⟨⟨rfl, rfl, by rw [hR]; exact hf, by rw [hR]; exact hlo, TB_pay hts V0.1, List.mem_cons_self, hts _ V0.1, hts _ V0.2.1, V0.2.2.1, V0.len, hts _ V1⟩, hts _ V2, hts _ V3⟩
    ⟨Ct.blind, va_recv hK hP V4 (wsO_at hc), fun U hU hW => ⟨rfl, by rw [hU], by rw [hU]; exact call_P hpk hP, call_D hpk hnd hD (fun _ _ => trivial), va_K.moved hW.alike hK, hN.warm hW⟩⟩ rfl hnp (hL.1.trans hlv) rfl (lv_room hw) d (by rw [hR]; exact hcs)) kk
theorem G_calls (M : CX D X A own cc nL R) {i np : Nat} (is : List Nat) (d : decode cc pc = .ok (.invokestatic i, 3)) (V : MS own i mi np) (C : Ct D X.2.1 mi As (fun j => ad (pn is j)) wc Qm) (hpk : Pk cs is wc) (hst : st0 = pushArgs As st) (hlv : lv.length = nL) (hnp : As.length = np) (hnd : va_nd is = true) (hw : (st.map fun v => v.category).sum ≤ 8) (hf : mi.2.2.2.2.1 + 1 ≤ R.frames) (hlo : 8 + (mi.2.2.1 + 11) + mi.2.2.2.2.2 ≤ R.locals) (hcs : kc ≤ R.cells ∧ ks ≤ R.slots)
    (kk : ∀ (v : Option Value) (c1 : List va_E), Qm v c1 → c1.length = wc.length → G D X A kc ks Q ad (pc + 3) lv (v.toList ++ st) (sall cs is c1)) : G D X A kc ks Q ad pc lv st0 cs := fun ls H locs hL hP hD hS => by
  obtain ⟨hx, hb, hml, hown, hts, hK, hN, hA, hR⟩ := M
  obtain ⟨V0, V1, V2⟩ := V
  subst hst
  rw [pushArgs_eq]
  refine G_back is hpk hnd hL hP hD hS hA (va_runS (ws := Cond.code mi.1 mi.2.1 mi.2.2.1 mi.2.2.2.1 :: TB) (rm := miR mi) (n := np) ⟨hx, hb, hml, hown, hts⟩ (C H.size) ⟨⟨rfl, rfl, by rw [hR]; exact hf, by rw [hR]; exact hlo, TB_pay hts V0.1, List.mem_cons_self, hts _ V0.1, hts _ V0.2.1, V0.2.2.1, V0.len, hts _ V1⟩, hts _ V2⟩
    ⟨Ct.blind, fun U hU hW => ⟨rfl, by rw [hU], by rw [hU]; exact call_P hpk hP, call_D hpk hnd hD (fun _ _ => trivial), va_K.moved hW.alike hK, hN.warm hW⟩⟩ rfl hnp (hL.1.trans hlv) rfl (lv_room hw) d (by rw [hR]; exact hcs)) kk
theorem G_calln (M : CX D X A own cc nL R) {i np : Nat} (is : List Nat) (d : decode cc pc = .ok (.invokestatic i, 3)) (V : MN own i mi np) (C : Ct D X.2.1 mi As (fun j => ad (pn is j)) wc Qm) (hpk : Pk cs is wc) (hst : st0 = pushArgs As st) (hlv : lv.length = nL) (hnp : As.length = np) (hnd : va_nd is = true) (hw : (st.map fun v => v.category).sum ≤ 8) (hf : mi.2.2.2.2.1 + 1 ≤ R.frames) (hlo : 8 + (mi.2.2.1 + 11) + mi.2.2.2.2.2 ≤ R.locals) (hcs : kc ≤ R.cells ∧ ks ≤ R.slots)
    (kk : ∀ (v : Option Value) (c1 : List va_E), Qm v c1 → c1.length = wc.length → G D X A kc ks Q ad (pc + 3) lv (v.toList ++ st) (sall cs is c1)) : G D X A kc ks Q ad pc lv st0 cs := fun ls H locs hL hP hD hS => by
  obtain ⟨hx, hb, hml, hown, hts, hK, hN, hA, hR⟩ := M
  obtain ⟨V0, ⟨host, V1⟩, V2⟩ := V
  subst hst
  rw [pushArgs_eq]
  refine G_back is hpk hnd hL hP hD hS hA (va_runSN (ws := Cond.code mi.1 mi.2.1 mi.2.2.1 mi.2.2.2.1 :: TB) (rm := miR mi) (n := np) (host := host) (index := i) ⟨hx, hb, hml, hown, hts⟩ (C H.size) ⟨⟨⟨rfl, rfl, by rw [hR]; exact hf, by rw [hR]; exact hlo, TB_pay hts V0.1, List.mem_cons_self⟩, hts _ V0.1, hts _ V0.2.1, V0.2.2.1, V0.len, va_Nw.use rfl (hN _ V1)⟩, hts _ V2, trivial⟩
    ⟨Ct.blind, fun U hU hW => ⟨rfl, by rw [hU], by rw [hU]; exact call_P hpk hP, call_D hpk hnd hD (fun _ _ => trivial), va_K.moved hW.alike hK, hN.warm hW⟩⟩ rfl hnp (hL.1.trans hlv) rfl (lv_room hw) d (by rw [hR]; exact hcs)) kk
end GR3
end
section
/-- a final field of another class of the nest, read -/
def FLr (own : String) (i ci k : Nat) (ty : FieldType) : Prop := ∃ (C : String) (T : u_T) (N : Nat) (tf : Nat → FieldType), vcl[ci]? = some (C, T, N) ∧ k < N ∧ (∀ w ∈ u_ws C T N, w ∈ TB) ∧ Cond.fieldLink own i (T k).1 (T k).2.1 (T k).2.2.1 ∈ TB
theorem G_getr {D : DD} {X : MX} {A : Nat → Prop} {own : String} {cc : ByteArray} {nL kc ks : Nat} {R : Room} {Q : State → Prop} {ad : Nat → Nat} {pc : Nat} {lv : List (Option Value)} {st : List Value} {cs : List va_E} (M : CX D X A own cc nL R) {i ci f a : Nat} {ty : FieldType} {fs : List Value} {v : Value} (d : decode cc pc = .ok (.getfield i, 3)) (F : FLr own i ci f ty) (hc : gt cs a = some (ob ci fs)) (hv : gt fs f = some v) (k : G D X A kc ks Q ad (pc + 3) lv (v :: st) cs) : G D X A kc ks Q ad pc lv (.ref (ad a) :: st) cs := fun ls H locs hL hP hD hS => by
  obtain ⟨C, T, N, tf, h1, h2, h3, h6⟩ := F
  exact va_get M.1 M.2.1 M.2.2.2.2.1 h3 M.2.2.2.1 M.2.2.2.2.2.1 hP a (wsO_at hc) h1 f h2 (M.2.2.2.2.1 _ h6) (fun _ h9 => h9) (by rw [← gt_eq]; exact hv) d (k ls H locs hL hP hD hS)
theorem inT0 : ∀ w ∈ u_ws RX0 TX0 6, w ∈ TB := by decide +kernel
theorem inT1 : ∀ w ∈ u_ws RX1 TX1 4, w ∈ TB := by decide +kernel
theorem inT2 : ∀ w ∈ u_ws RX2 TX2 2, w ∈ TB := by decide +kernel
theorem inT3 : ∀ w ∈ u_ws RX3 TX3 3, w ∈ TB := by decide +kernel
theorem inT4 : ∀ w ∈ u_ws RX4 TX4 10, w ∈ TB := by decide +kernel
theorem inT5 : ∀ w ∈ u_ws RX5 TX5 6, w ∈ TB := by decide +kernel
theorem inT6 : ∀ w ∈ u_ws RX6 TX6 2, w ∈ TB := by decide +kernel
theorem inT7 : ∀ w ∈ u_ws RX7 TX7 17, w ∈ TB := by decide +kernel
def mi_X0_init : MI := (yX0_init, cX0_init, 1, none, 1, 20)
theorem mc_X0_init : MC mi_X0_init 0 := ⟨TB_at 57 (by decide +kernel) rfl, TB_at 29 (by decide +kernel) rfl, ⟨by decide +kernel, by decide +kernel⟩, by decide +kernel⟩
def mi_X0_restart : MI := (yX0_restart, cX0_restart, 3, none, 1, 23)
theorem mc_X0_restart : MC mi_X0_restart 2 := ⟨TB_at 172 (by decide +kernel) rfl, TB_at 29 (by decide +kernel) rfl, ⟨by decide +kernel, by decide +kernel⟩, by decide +kernel⟩
def mi_X0_count : MI := (yX0_count, cX0_count, 2, none, 2, 43)
theorem mc_X0_count : MC mi_X0_count 1 := ⟨TB_at 280 (by decide +kernel) rfl, TB_at 29 (by decide +kernel) rfl, ⟨by decide +kernel, by decide +kernel⟩, by decide +kernel⟩
def mi_X0_putTogether : MI := (yX0_putTogether, cX0_putTogether, 6, (some .boolean), 3, 74)
theorem mc_X0_putTogether : MC mi_X0_putTogether 1 := ⟨TB_at 380 (by decide +kernel) rfl, TB_at 29 (by decide +kernel) rfl, ⟨by decide +kernel, by decide +kernel⟩, by decide +kernel⟩
def mi_X0_nodeAtPlace : MI := (yX0_nodeAtPlace, cX0_nodeAtPlace, 7, (some .int), 2, 48)
theorem mc_X0_nodeAtPlace : MC mi_X0_nodeAtPlace 2 := ⟨TB_at 385 (by decide +kernel) rfl, TB_at 29 (by decide +kernel) rfl, ⟨by decide +kernel, by decide +kernel⟩, by decide +kernel⟩
def mi_X0_greatest : MI := (yX0_greatest, cX0_greatest, 7, (some .int), 1, 22)
theorem mc_X0_greatest : MC mi_X0_greatest 2 := ⟨TB_at 389 (by decide +kernel) rfl, TB_at 29 (by decide +kernel) rfl, ⟨by decide +kernel, by decide +kernel⟩, by decide +kernel⟩
def mi_X0_lessen : MI := (yX0_lessen, cX0_lessen, 3, none, 1, 21)
theorem mc_X0_lessen : MC mi_X0_lessen 1 := ⟨TB_at 284 (by decide +kernel) rfl, TB_at 29 (by decide +kernel) rfl, ⟨by decide +kernel, by decide +kernel⟩, by decide +kernel⟩
def mi_X1_init : MI := (yX1_init, cX1_init, 1, none, 1, 20)
theorem mc_X1_init : MC mi_X1_init 0 := ⟨TB_at 86 (by decide +kernel) rfl, TB_at 30 (by decide +kernel) rfl, ⟨by decide +kernel, by decide +kernel⟩, by decide +kernel⟩
def mi_X1_restart : MI := (yX1_restart, cX1_restart, 1, none, 0, 0)
theorem mc_X1_restart : MC mi_X1_restart 0 := ⟨TB_at 179 (by decide +kernel) rfl, TB_at 30 (by decide +kernel) rfl, ⟨by decide +kernel, by decide +kernel⟩, by decide +kernel⟩
def mi_X1_accept : MI := (yX1_accept, cX1_accept, 5, none, 3, 69)
theorem mc_X1_accept : MC mi_X1_accept 3 := ⟨TB_at 289 (by decide +kernel) rfl, TB_at 30 (by decide +kernel) rfl, ⟨by decide +kernel, by decide +kernel⟩, by decide +kernel⟩
def mi_X1_arcsAfter : MI := (yX1_arcsAfter, cX1_arcsAfter, 4, (some .int), 0, 0)
theorem mc_X1_arcsAfter : MC mi_X1_arcsAfter 1 := ⟨TB_at 418 (by decide +kernel) rfl, TB_at 30 (by decide +kernel) rfl, ⟨by decide +kernel, by decide +kernel⟩, by decide +kernel⟩
def mi_X1_leastOfPart : MI := (yX1_leastOfPart, cX1_leastOfPart, 4, (some .int), 2, 46)
theorem mc_X1_leastOfPart : MC mi_X1_leastOfPart 2 := ⟨TB_at 426 (by decide +kernel) rfl, TB_at 30 (by decide +kernel) rfl, ⟨by decide +kernel, by decide +kernel⟩, by decide +kernel⟩
def mi_X1_oldestBetween : MI := (yX1_oldestBetween, cX1_oldestBetween, 4, (some .int), 2, 46)
theorem mc_X1_oldestBetween : MC mi_X1_oldestBetween 2 := ⟨TB_at 293 (by decide +kernel) rfl, TB_at 30 (by decide +kernel) rfl, ⟨by decide +kernel, by decide +kernel⟩, by decide +kernel⟩
def mi_X1_drop : MI := (yX1_drop, cX1_drop, 3, none, 0, 0)
theorem mc_X1_drop : MC mi_X1_drop 1 := ⟨TB_at 317 (by decide +kernel) rfl, TB_at 30 (by decide +kernel) rfl, ⟨by decide +kernel, by decide +kernel⟩, by decide +kernel⟩
def mi_X1_partAll : MI := (yX1_partAll, cX1_partAll, 2, none, 0, 0)
theorem mc_X1_partAll : MC mi_X1_partAll 0 := ⟨TB_at 297 (by decide +kernel) rfl, TB_at 30 (by decide +kernel) rfl, ⟨by decide +kernel, by decide +kernel⟩, by decide +kernel⟩
def mi_X1_joinByArc : MI := (yX1_joinByArc, cX1_joinByArc, 4, none, 1, 23)
theorem mc_X1_joinByArc : MC mi_X1_joinByArc 1 := ⟨TB_at 301 (by decide +kernel) rfl, TB_at 30 (by decide +kernel) rfl, ⟨by decide +kernel, by decide +kernel⟩, by decide +kernel⟩
def mi_X1_leaderOf : MI := (yX1_leaderOf, cX1_leaderOf, 4, (some .int), 0, 0)
theorem mc_X1_leaderOf : MC mi_X1_leaderOf 1 := ⟨TB_at 308 (by decide +kernel) rfl, TB_at 30 (by decide +kernel) rfl, ⟨by decide +kernel, by decide +kernel⟩, by decide +kernel⟩
def mi_X2_init : MI := (yX2_init, cX2_init, 1, none, 1, 20)
theorem mc_X2_init : MC mi_X2_init 0 := ⟨TB_at 137 (by decide +kernel) rfl, TB_at 32 (by decide +kernel) rfl, ⟨by decide +kernel, by decide +kernel⟩, by decide +kernel⟩
def mi_X2_restart : MI := (yX2_restart, cX2_restart, 1, none, 1, 23)
theorem mc_X2_restart : MC mi_X2_restart 0 := ⟨TB_at 190 (by decide +kernel) rfl, TB_at 32 (by decide +kernel) rfl, ⟨by decide +kernel, by decide +kernel⟩, by decide +kernel⟩
def mi_X2_accept : MI := (yX2_accept, cX2_accept, 3, none, 0, 0)
theorem mc_X2_accept : MC mi_X2_accept 2 := ⟨TB_at 341 (by decide +kernel) rfl, TB_at 32 (by decide +kernel) rfl, ⟨by decide +kernel, by decide +kernel⟩, by decide +kernel⟩
def mi_X3_init : MI := (yX3_init, cX3_init, 1, none, 1, 20)
theorem mc_X3_init : MC mi_X3_init 0 := ⟨TB_at 152 (by decide +kernel) rfl, TB_at 33 (by decide +kernel) rfl, ⟨by decide +kernel, by decide +kernel⟩, by decide +kernel⟩
def mi_X3_restart : MI := (yX3_restart, cX3_restart, 4, none, 1, 24)
theorem mc_X3_restart : MC mi_X3_restart 2 := ⟨TB_at 195 (by decide +kernel) rfl, TB_at 33 (by decide +kernel) rfl, ⟨by decide +kernel, by decide +kernel⟩, by decide +kernel⟩
def mi_X3_placeOf : MI := (yX3_placeOf, cX3_placeOf, 2, (some .int), 0, 0)
theorem mc_X3_placeOf : MC mi_X3_placeOf 2 := ⟨TB_at 357 (by decide +kernel) rfl, TB_at 33 (by decide +kernel) rfl, ⟨by decide +kernel, by decide +kernel⟩, by decide +kernel⟩
def mi_X3_change : MI := (yX3_change, cX3_change, 8, (some .int), 2, 47)
theorem mc_X3_change : MC mi_X3_change 3 := ⟨TB_at 345 (by decide +kernel) rfl, TB_at 33 (by decide +kernel) rfl, ⟨by decide +kernel, by decide +kernel⟩, by decide +kernel⟩
def mi_X3_putTogether : MI := (yX3_putTogether, cX3_putTogether, 4, none, 1, 21)
theorem mc_X3_putTogether : MC mi_X3_putTogether 1 := ⟨TB_at 397 (by decide +kernel) rfl, TB_at 33 (by decide +kernel) rfl, ⟨by decide +kernel, by decide +kernel⟩, by decide +kernel⟩
def mi_X3_isAlike : MI := (yX3_isAlike, cX3_isAlike, 4, (some .boolean), 1, 21)
theorem mc_X3_isAlike : MC mi_X3_isAlike 1 := ⟨TB_at 486 (by decide +kernel) rfl, TB_at 33 (by decide +kernel) rfl, ⟨by decide +kernel, by decide +kernel⟩, by decide +kernel⟩
def mi_X3_keyOutOf : MI := (yX3_keyOutOf, cX3_keyOutOf, 11, (some .int), 2, 49)
theorem mc_X3_keyOutOf : MC mi_X3_keyOutOf 2 := ⟨TB_at 463 (by decide +kernel) rfl, TB_at 33 (by decide +kernel) rfl, ⟨by decide +kernel, by decide +kernel⟩, by decide +kernel⟩
def mi_X3_isNothing : MI := (yX3_isNothing, cX3_isNothing, 3, (some .boolean), 2, 49)
theorem mc_X3_isNothing : MC mi_X3_isNothing 1 := ⟨TB_at 474 (by decide +kernel) rfl, TB_at 33 (by decide +kernel) rfl, ⟨by decide +kernel, by decide +kernel⟩, by decide +kernel⟩
def mi_X3_sumOf : MI := (yX3_sumOf, cX3_sumOf, 8, (some .long), 1, 22)
theorem mc_X3_sumOf : MC mi_X3_sumOf 3 := ⟨TB_at 467 (by decide +kernel) rfl, TB_at 33 (by decide +kernel) rfl, ⟨by decide +kernel, by decide +kernel⟩, by decide +kernel⟩
def mi_X3_addTo : MI := (yX3_addTo, cX3_addTo, 5, none, 0, 0)
theorem mc_X3_addTo : MC mi_X3_addTo 3 := ⟨TB_at 361 (by decide +kernel) rfl, TB_at 33 (by decide +kernel) rfl, ⟨by decide +kernel, by decide +kernel⟩, by decide +kernel⟩
def mi_X3_levelOf : MI := (yX3_levelOf, cX3_levelOf, 6, (some .int), 1, 22)
theorem mc_X3_levelOf : MC mi_X3_levelOf 1 := ⟨TB_at 350 (by decide +kernel) rfl, TB_at 33 (by decide +kernel) rfl, ⟨by decide +kernel, by decide +kernel⟩, by decide +kernel⟩
def mi_X4_init : MI := (yX4_init, cX4_init, 1, none, 3, 72)
theorem mc_X4_init : MC mi_X4_init 0 := ⟨TB_at 51 (by decide +kernel) rfl, TB_at 28 (by decide +kernel) rfl, ⟨by decide +kernel, by decide +kernel⟩, by decide +kernel⟩
def mi_X4_restart : MI := (yX4_restart, cX4_restart, 6, none, 2, 47)
theorem mc_X4_restart : MC mi_X4_restart 4 := ⟨TB_at 168 (by decide +kernel) rfl, TB_at 28 (by decide +kernel) rfl, ⟨by decide +kernel, by decide +kernel⟩, by decide +kernel⟩
def mi_X4_accept : MI := (yX4_accept, cX4_accept, 5, (some .int), 4, 98)
theorem mc_X4_accept : MC mi_X4_accept 2 := ⟨TB_at 270 (by decide +kernel) rfl, TB_at 28 (by decide +kernel) rfl, ⟨by decide +kernel, by decide +kernel⟩, by decide +kernel⟩
def mi_X4_isApartFrom : MI := (yX4_isApartFrom, cX4_isApartFrom, 2, (some .boolean), 0, 0)
theorem mc_X4_isApartFrom : MC mi_X4_isApartFrom 1 := ⟨TB_at 376 (by decide +kernel) rfl, TB_at 28 (by decide +kernel) rfl, ⟨by decide +kernel, by decide +kernel⟩, by decide +kernel⟩
def mi_X5_init : MI := (yX5_init, cX5_init, 1, none, 1, 20)
theorem mc_X5_init : MC mi_X5_init 0 := ⟨TB_at 108 (by decide +kernel) rfl, TB_at 31 (by decide +kernel) rfl, ⟨by decide +kernel, by decide +kernel⟩, by decide +kernel⟩
def mi_X5_restart : MI := (yX5_restart, cX5_restart, 3, none, 1, 24)
theorem mc_X5_restart : MC mi_X5_restart 2 := ⟨TB_at 183 (by decide +kernel) rfl, TB_at 31 (by decide +kernel) rfl, ⟨by decide +kernel, by decide +kernel⟩, by decide +kernel⟩
def mi_X5_accept : MI := (yX5_accept, cX5_accept, 4, none, 3, 75)
theorem mc_X5_accept : MC mi_X5_accept 3 := ⟨TB_at 324 (by decide +kernel) rfl, TB_at 31 (by decide +kernel) rfl, ⟨by decide +kernel, by decide +kernel⟩, by decide +kernel⟩
def mi_X5_distance : MI := (yX5_distance, cX5_distance, 9, (some .int), 2, 47)
theorem mc_X5_distance : MC mi_X5_distance 3 := ⟨TB_at 328 (by decide +kernel) rfl, TB_at 31 (by decide +kernel) rfl, ⟨by decide +kernel, by decide +kernel⟩, by decide +kernel⟩
def mi_X5_neighboursOf : MI := (yX5_neighboursOf, cX5_neighboursOf, 6, (some .long), 1, 22)
theorem mc_X5_neighboursOf : MC mi_X5_neighboursOf 1 := ⟨TB_at 335 (by decide +kernel) rfl, TB_at 31 (by decide +kernel) rfl, ⟨by decide +kernel, by decide +kernel⟩, by decide +kernel⟩
def mi_X6_init : MI := (yX6_init, cX6_init, 2, none, 4, 92)
theorem mc_X6_init : MC mi_X6_init 0 := ⟨TB_at 42 (by decide +kernel) rfl, TB_at 27 (by decide +kernel) rfl, ⟨by decide +kernel, by decide +kernel⟩, by decide +kernel⟩
def mi_X6_begin : MI := (yX6_begin, cX6_begin, 8, (some .int), 3, 72)
theorem mc_X6_begin : MC mi_X6_begin 5 := ⟨TB_at 247 (by decide +kernel) rfl, TB_at 27 (by decide +kernel) rfl, ⟨by decide +kernel, by decide +kernel⟩, by decide +kernel⟩
def mi_X6_add : MI := (yX6_add, cX6_add, 4, (some .int), 5, 122)
theorem mc_X6_add : MC mi_X6_add 3 := ⟨TB_at 258 (by decide +kernel) rfl, TB_at 27 (by decide +kernel) rfl, ⟨by decide +kernel, by decide +kernel⟩, by decide +kernel⟩
def mi_X6_take : MI := (yX6_take, cX6_take, 4, (some .int), 3, 74)
theorem mc_X6_take : MC mi_X6_take 3 := ⟨TB_at 365 (by decide +kernel) rfl, TB_at 27 (by decide +kernel) rfl, ⟨by decide +kernel, by decide +kernel⟩, by decide +kernel⟩
def mi_X6_merge : MI := (yX6_merge, cX6_merge, 5, (some .int), 4, 99)
theorem mc_X6_merge : MC mi_X6_merge 2 := ⟨TB_at 372 (by decide +kernel) rfl, TB_at 27 (by decide +kernel) rfl, ⟨by decide +kernel, by decide +kernel⟩, by decide +kernel⟩
def mi_X6_told : MI := (yX6_told, cX6_told, 4, (some .int), 1, 20)
theorem mc_X6_told : MC mi_X6_told 2 := ⟨TB_at 401 (by decide +kernel) rfl, TB_at 27 (by decide +kernel) rfl, ⟨by decide +kernel, by decide +kernel⟩, by decide +kernel⟩
def mi_X6_span : MI := (yX6_span, cX6_span, 5, (some .int), 2, 42)
theorem mc_X6_span : MC mi_X6_span 3 := ⟨TB_at 405 (by decide +kernel) rfl, TB_at 27 (by decide +kernel) rfl, ⟨by decide +kernel, by decide +kernel⟩, by decide +kernel⟩
def mi_X6_slot : MI := (yX6_slot, cX6_slot, 6, (some .int), 3, 74)
theorem mc_X6_slot : MC mi_X6_slot 3 := ⟨TB_at 409 (by decide +kernel) rfl, TB_at 27 (by decide +kernel) rfl, ⟨by decide +kernel, by decide +kernel⟩, by decide +kernel⟩
def mi_X6_parts : MI := (yX6_parts, cX6_parts, 4, (some .int), 1, 23)
theorem mc_X6_parts : MC mi_X6_parts 2 := ⟨TB_at 414 (by decide +kernel) rfl, TB_at 27 (by decide +kernel) rfl, ⟨by decide +kernel, by decide +kernel⟩, by decide +kernel⟩
def mi_X6_part : MI := (yX6_part, cX6_part, 5, (some .int), 3, 69)
theorem mc_X6_part : MC mi_X6_part 3 := ⟨TB_at 422 (by decide +kernel) rfl, TB_at 27 (by decide +kernel) rfl, ⟨by decide +kernel, by decide +kernel⟩, by decide +kernel⟩
def mi_X6_tree : MI := (yX6_tree, cX6_tree, 5, (some .int), 1, 20)
theorem mc_X6_tree : MC mi_X6_tree 3 := ⟨TB_at 430 (by decide +kernel) rfl, TB_at 27 (by decide +kernel) rfl, ⟨by decide +kernel, by decide +kernel⟩, by decide +kernel⟩
def mi_X6_since : MI := (yX6_since, cX6_since, 6, (some .int), 3, 69)
theorem mc_X6_since : MC mi_X6_since 3 := ⟨TB_at 436 (by decide +kernel) rfl, TB_at 27 (by decide +kernel) rfl, ⟨by decide +kernel, by decide +kernel⟩, by decide +kernel⟩
def mi_X6_far : MI := (yX6_far, cX6_far, 4, (some .int), 3, 75)
theorem mc_X6_far : MC mi_X6_far 3 := ⟨TB_at 441 (by decide +kernel) rfl, TB_at 27 (by decide +kernel) rfl, ⟨by decide +kernel, by decide +kernel⟩, by decide +kernel⟩
def mi_X6_kept : MI := (yX6_kept, cX6_kept, 5, (some .int), 1, 20)
theorem mc_X6_kept : MC mi_X6_kept 3 := ⟨TB_at 446 (by decide +kernel) rfl, TB_at 27 (by decide +kernel) rfl, ⟨by decide +kernel, by decide +kernel⟩, by decide +kernel⟩
def mi_X6_mate : MI := (yX6_mate, cX6_mate, 3, (some .int), 2, 42)
theorem mc_X6_mate : MC mi_X6_mate 2 := ⟨TB_at 450 (by decide +kernel) rfl, TB_at 27 (by decide +kernel) rfl, ⟨by decide +kernel, by decide +kernel⟩, by decide +kernel⟩
def mi_X6_sum : MI := (yX6_sum, cX6_sum, 5, (some .long), 2, 42)
theorem mc_X6_sum : MC mi_X6_sum 4 := ⟨TB_at 454 (by decide +kernel) rfl, TB_at 27 (by decide +kernel) rfl, ⟨by decide +kernel, by decide +kernel⟩, by decide +kernel⟩
def mi_X6_out : MI := (yX6_out, cX6_out, 7, (some .int), 3, 79)
theorem mc_X6_out : MC mi_X6_out 2 := ⟨TB_at 459 (by decide +kernel) rfl, TB_at 27 (by decide +kernel) rfl, ⟨by decide +kernel, by decide +kernel⟩, by decide +kernel⟩
def mi_X6_level : MI := (yX6_level, cX6_level, 1, (some .int), 0, 0)
theorem mc_X6_level : MC mi_X6_level 0 := ⟨TB_at 478 (by decide +kernel) rfl, TB_at 27 (by decide +kernel) rfl, ⟨by decide +kernel, by decide +kernel⟩, by decide +kernel⟩
def mi_X6_same : MI := (yX6_same, cX6_same, 5, (some .int), 2, 44)
theorem mc_X6_same : MC mi_X6_same 2 := ⟨TB_at 482 (by decide +kernel) rfl, TB_at 27 (by decide +kernel) rfl, ⟨by decide +kernel, by decide +kernel⟩, by decide +kernel⟩
def mi_X6_isStretch : MI := (yX6_isStretch, cX6_isStretch, 1, (some .boolean), 0, 0)
theorem mc_X6_isStretch : MC mi_X6_isStretch 1 := ⟨TB_at 253 (by decide +kernel) rfl, TB_at 27 (by decide +kernel) rfl, ⟨by decide +kernel, by decide +kernel⟩, by decide +kernel⟩
def mi_X6_noStream : MI := (yX6_noStream, cX6_noStream, 1, (some .boolean), 0, 0)
theorem mc_X6_noStream : MC mi_X6_noStream 1 := ⟨TB_at 250 (by decide +kernel) rfl, TB_at 27 (by decide +kernel) rfl, ⟨by decide +kernel, by decide +kernel⟩, by decide +kernel⟩
def mi_X6_noNode : MI := (yX6_noNode, cX6_noNode, 3, (some .boolean), 1, 20)
theorem mc_X6_noNode : MC mi_X6_noNode 2 := ⟨TB_at 266 (by decide +kernel) rfl, TB_at 27 (by decide +kernel) rfl, ⟨by decide +kernel, by decide +kernel⟩, by decide +kernel⟩
def mi_X6_noArc : MI := (yX6_noArc, cX6_noArc, 4, (some .boolean), 2, 42)
theorem mc_X6_noArc : MC mi_X6_noArc 3 := ⟨TB_at 262 (by decide +kernel) rfl, TB_at 27 (by decide +kernel) rfl, ⟨by decide +kernel, by decide +kernel⟩, by decide +kernel⟩
def mi_X6_keyOf : MI := (yX6_keyOf, cX6_keyOf, 2, (some .int), 0, 0)
theorem mc_X6_keyOf : MC mi_X6_keyOf 2 := ⟨TB_at 320 (by decide +kernel) rfl, TB_at 27 (by decide +kernel) rfl, ⟨by decide +kernel, by decide +kernel⟩, by decide +kernel⟩
def mi_X6_lesserNode : MI := (yX6_lesserNode, cX6_lesserNode, 1, (some .int), 0, 0)
theorem mc_X6_lesserNode : MC mi_X6_lesserNode 1 := ⟨TB_at 304 (by decide +kernel) rfl, TB_at 27 (by decide +kernel) rfl, ⟨by decide +kernel, by decide +kernel⟩, by decide +kernel⟩
def mi_X6_greaterNode : MI := (yX6_greaterNode, cX6_greaterNode, 1, (some .int), 0, 0)
theorem mc_X6_greaterNode : MC mi_X6_greaterNode 1 := ⟨TB_at 311 (by decide +kernel) rfl, TB_at 27 (by decide +kernel) rfl, ⟨by decide +kernel, by decide +kernel⟩, by decide +kernel⟩
def mi_X6_holds : MI := (yX6_holds, cX6_holds, 3, (some .boolean), 0, 0)
theorem mc_X6_holds : MC mi_X6_holds 2 := ⟨TB_at 331 (by decide +kernel) rfl, TB_at 27 (by decide +kernel) rfl, ⟨by decide +kernel, by decide +kernel⟩, by decide +kernel⟩
def mi_X7_init : MI := (yX7_init, cX7_init, 1, none, 1, 20)
theorem mc_X7_init : MC mi_X7_init 0 := ⟨TB_at 491 (by decide +kernel) rfl, TB_at 35 (by decide +kernel) rfl, ⟨by decide +kernel, by decide +kernel⟩, by decide +kernel⟩
def mi_X7_isStream : MI := (yX7_isStream, cX7_isStream, 1, (some .boolean), 0, 0)
theorem mc_X7_isStream : MC mi_X7_isStream 1 := ⟨TB_at 552 (by decide +kernel) rfl, TB_at 35 (by decide +kernel) rfl, ⟨by decide +kernel, by decide +kernel⟩, by decide +kernel⟩
def mi_X7_isNode : MI := (yX7_isNode, cX7_isNode, 3, (some .boolean), 1, 20)
theorem mc_X7_isNode : MC mi_X7_isNode 2 := ⟨TB_at 560 (by decide +kernel) rfl, TB_at 35 (by decide +kernel) rfl, ⟨by decide +kernel, by decide +kernel⟩, by decide +kernel⟩
def mi_X7_begin : MI := (yX7_begin, cX7_begin, 10, (some .int), 1, 20)
theorem mc_X7_begin : MC mi_X7_begin 5 := ⟨TB_at 549 (by decide +kernel) rfl, TB_at 35 (by decide +kernel) rfl, ⟨by decide +kernel, by decide +kernel⟩, by decide +kernel⟩
def mi_X7_taken : MI := (yX7_taken, cX7_taken, 4, (some .int), 0, 0)
theorem mc_X7_taken : MC mi_X7_taken 1 := ⟨TB_at 568 (by decide +kernel) rfl, TB_at 35 (by decide +kernel) rfl, ⟨by decide +kernel, by decide +kernel⟩, by decide +kernel⟩
def mi_X7_less : MI := (yX7_less, cX7_less, 5, none, 0, 0)
theorem mc_X7_less : MC mi_X7_less 2 := ⟨TB_at 572 (by decide +kernel) rfl, TB_at 35 (by decide +kernel) rfl, ⟨by decide +kernel, by decide +kernel⟩, by decide +kernel⟩
def mi_X7_count : MI := (yX7_count, cX7_count, 3, none, 1, 24)
theorem mc_X7_count : MC mi_X7_count 2 := ⟨TB_at 564 (by decide +kernel) rfl, TB_at 35 (by decide +kernel) rfl, ⟨by decide +kernel, by decide +kernel⟩, by decide +kernel⟩
def mi_X7_add : MI := (yX7_add, cX7_add, 7, (some .int), 2, 59)
theorem mc_X7_add : MC mi_X7_add 3 := ⟨TB_at 556 (by decide +kernel) rfl, TB_at 35 (by decide +kernel) rfl, ⟨by decide +kernel, by decide +kernel⟩, by decide +kernel⟩
def mi_X7_levelOf : MI := (yX7_levelOf, cX7_levelOf, 7, (some .int), 0, 0)
theorem mc_X7_levelOf : MC mi_X7_levelOf 2 := ⟨TB_at 585 (by decide +kernel) rfl, TB_at 35 (by decide +kernel) rfl, ⟨by decide +kernel, by decide +kernel⟩, by decide +kernel⟩
def mi_X7_change : MI := (yX7_change, cX7_change, 14, (some .int), 1, 26)
theorem mc_X7_change : MC mi_X7_change 4 := ⟨TB_at 580 (by decide +kernel) rfl, TB_at 35 (by decide +kernel) rfl, ⟨by decide +kernel, by decide +kernel⟩, by decide +kernel⟩
def mi_X7_take : MI := (yX7_take, cX7_take, 4, (some .int), 2, 59)
theorem mc_X7_take : MC mi_X7_take 3 := ⟨TB_at 592 (by decide +kernel) rfl, TB_at 35 (by decide +kernel) rfl, ⟨by decide +kernel, by decide +kernel⟩, by decide +kernel⟩
def mi_X7_isApart : MI := (yX7_isApart, cX7_isApart, 3, (some .boolean), 0, 0)
theorem mc_X7_isApart : MC mi_X7_isApart 2 := ⟨TB_at 601 (by decide +kernel) rfl, TB_at 35 (by decide +kernel) rfl, ⟨by decide +kernel, by decide +kernel⟩, by decide +kernel⟩
def mi_X7_merge : MI := (yX7_merge, cX7_merge, 6, (some .int), 1, 27)
theorem mc_X7_merge : MC mi_X7_merge 2 := ⟨TB_at 597 (by decide +kernel) rfl, TB_at 35 (by decide +kernel) rfl, ⟨by decide +kernel, by decide +kernel⟩, by decide +kernel⟩
def mi_X7_ranked : MI := (yX7_ranked, cX7_ranked, 8, (some .int), 0, 0)
theorem mc_X7_ranked : MC mi_X7_ranked 2 := ⟨TB_at 606 (by decide +kernel) rfl, TB_at 35 (by decide +kernel) rfl, ⟨by decide +kernel, by decide +kernel⟩, by decide +kernel⟩
def mi_X7_told : MI := (yX7_told, cX7_told, 3, (some .int), 2, 51)
theorem mc_X7_told : MC mi_X7_told 2 := ⟨TB_at 611 (by decide +kernel) rfl, TB_at 35 (by decide +kernel) rfl, ⟨by decide +kernel, by decide +kernel⟩, by decide +kernel⟩
def mi_X7_pairs : MI := (yX7_pairs, cX7_pairs, 4, (some .int), 0, 0)
theorem mc_X7_pairs : MC mi_X7_pairs 1 := ⟨TB_at 623 (by decide +kernel) rfl, TB_at 35 (by decide +kernel) rfl, ⟨by decide +kernel, by decide +kernel⟩, by decide +kernel⟩
def mi_X7_span : MI := (yX7_span, cX7_span, 4, (some .int), 2, 42)
theorem mc_X7_span : MC mi_X7_span 3 := ⟨TB_at 627 (by decide +kernel) rfl, TB_at 35 (by decide +kernel) rfl, ⟨by decide +kernel, by decide +kernel⟩, by decide +kernel⟩
def mi_X7_slot : MI := (yX7_slot, cX7_slot, 5, (some .int), 1, 27)
theorem mc_X7_slot : MC mi_X7_slot 3 := ⟨TB_at 631 (by decide +kernel) rfl, TB_at 35 (by decide +kernel) rfl, ⟨by decide +kernel, by decide +kernel⟩, by decide +kernel⟩
def mi_X7_join : MI := (yX7_join, cX7_join, 8, (some .int), 1, 24)
theorem mc_X7_join : MC mi_X7_join 2 := ⟨TB_at 615 (by decide +kernel) rfl, TB_at 35 (by decide +kernel) rfl, ⟨by decide +kernel, by decide +kernel⟩, by decide +kernel⟩
def mi_X7_unite : MI := (yX7_unite, cX7_unite, 5, none, 0, 0)
theorem mc_X7_unite : MC mi_X7_unite 2 := ⟨TB_at 619 (by decide +kernel) rfl, TB_at 35 (by decide +kernel) rfl, ⟨by decide +kernel, by decide +kernel⟩, by decide +kernel⟩
def mi_X7_parts : MI := (yX7_parts, cX7_parts, 3, (some .int), 2, 51)
theorem mc_X7_parts : MC mi_X7_parts 2 := ⟨TB_at 635 (by decide +kernel) rfl, TB_at 35 (by decide +kernel) rfl, ⟨by decide +kernel, by decide +kernel⟩, by decide +kernel⟩
def mi_X7_part : MI := (yX7_part, cX7_part, 5, (some .int), 2, 51)
theorem mc_X7_part : MC mi_X7_part 3 := ⟨TB_at 639 (by decide +kernel) rfl, TB_at 35 (by decide +kernel) rfl, ⟨by decide +kernel, by decide +kernel⟩, by decide +kernel⟩
def mi_X7_tree : MI := (yX7_tree, cX7_tree, 7, (some .int), 2, 51)
theorem mc_X7_tree : MC mi_X7_tree 3 := ⟨TB_at 643 (by decide +kernel) rfl, TB_at 35 (by decide +kernel) rfl, ⟨by decide +kernel, by decide +kernel⟩, by decide +kernel⟩
def mi_X7_since : MI := (yX7_since, cX7_since, 10, (some .int), 2, 51)
theorem mc_X7_since : MC mi_X7_since 3 := ⟨TB_at 647 (by decide +kernel) rfl, TB_at 35 (by decide +kernel) rfl, ⟨by decide +kernel, by decide +kernel⟩, by decide +kernel⟩
def mi_X7_shortest : MI := (yX7_shortest, cX7_shortest, 8, (some .int), 0, 0)
theorem mc_X7_shortest : MC mi_X7_shortest 3 := ⟨TB_at 576 (by decide +kernel) rfl, TB_at 35 (by decide +kernel) rfl, ⟨by decide +kernel, by decide +kernel⟩, by decide +kernel⟩
def mi_X7_far : MI := (yX7_far, cX7_far, 5, (some .int), 2, 42)
theorem mc_X7_far : MC mi_X7_far 3 := ⟨TB_at 651 (by decide +kernel) rfl, TB_at 35 (by decide +kernel) rfl, ⟨by decide +kernel, by decide +kernel⟩, by decide +kernel⟩
def mi_X7_kept : MI := (yX7_kept, cX7_kept, 5, (some .int), 1, 20)
theorem mc_X7_kept : MC mi_X7_kept 3 := ⟨TB_at 655 (by decide +kernel) rfl, TB_at 35 (by decide +kernel) rfl, ⟨by decide +kernel, by decide +kernel⟩, by decide +kernel⟩
def mi_X7_mate : MI := (yX7_mate, cX7_mate, 3, (some .int), 2, 42)
theorem mc_X7_mate : MC mi_X7_mate 2 := ⟨TB_at 659 (by decide +kernel) rfl, TB_at 35 (by decide +kernel) rfl, ⟨by decide +kernel, by decide +kernel⟩, by decide +kernel⟩
def mi_X7_sum : MI := (yX7_sum, cX7_sum, 6, (some .long), 2, 42)
theorem mc_X7_sum : MC mi_X7_sum 4 := ⟨TB_at 663 (by decide +kernel) rfl, TB_at 35 (by decide +kernel) rfl, ⟨by decide +kernel, by decide +kernel⟩, by decide +kernel⟩
def mi_X7_ofSet : MI := (yX7_ofSet, cX7_ofSet, 9, (some .long), 0, 0)
theorem mc_X7_ofSet : MC mi_X7_ofSet 4 := ⟨TB_at 671 (by decide +kernel) rfl, TB_at 35 (by decide +kernel) rfl, ⟨by decide +kernel, by decide +kernel⟩, by decide +kernel⟩
def mi_X7_out : MI := (yX7_out, cX7_out, 10, (some .int), 1, 30)
theorem mc_X7_out : MC mi_X7_out 2 := ⟨TB_at 667 (by decide +kernel) rfl, TB_at 35 (by decide +kernel) rfl, ⟨by decide +kernel, by decide +kernel⟩, by decide +kernel⟩
def mi_X7_leads : MI := (yX7_leads, cX7_leads, 11, (some .boolean), 0, 0)
theorem mc_X7_leads : MC mi_X7_leads 4 := ⟨TB_at 676 (by decide +kernel) rfl, TB_at 35 (by decide +kernel) rfl, ⟨by decide +kernel, by decide +kernel⟩, by decide +kernel⟩
def mi_X7_level : MI := (yX7_level, cX7_level, 1, (some .int), 0, 0)
theorem mc_X7_level : MC mi_X7_level 0 := ⟨TB_at 680 (by decide +kernel) rfl, TB_at 35 (by decide +kernel) rfl, ⟨by decide +kernel, by decide +kernel⟩, by decide +kernel⟩
def mi_X7_same : MI := (yX7_same, cX7_same, 4, (some .int), 1, 22)
theorem mc_X7_same : MC mi_X7_same 2 := ⟨TB_at 684 (by decide +kernel) rfl, TB_at 35 (by decide +kernel) rfl, ⟨by decide +kernel, by decide +kernel⟩, by decide +kernel⟩
def mi_J9_max_7cf53 : MI := (yJ9_max_7cf53, cJ9_max_7cf53, 2, (some .int), 0, 0)
theorem mc_J9_max_7cf53 : MC mi_J9_max_7cf53 2 := ⟨TB_at 276 (by decide +kernel) rfl, TB_at 36 (by decide +kernel) rfl, ⟨by decide +kernel, by decide +kernel⟩, by decide +kernel⟩
def mi_J9_min_7cf53 : MI := (yJ9_min_7cf53, cJ9_min_7cf53, 2, (some .int), 0, 0)
theorem mc_J9_min_7cf53 : MC mi_J9_min_7cf53 2 := ⟨TB_at 273 (by decide +kernel) rfl, TB_at 36 (by decide +kernel) rfl, ⟨by decide +kernel, by decide +kernel⟩, by decide +kernel⟩
def mi_J7_fill_d0a16 : MI := (yJ7_fill_d0a16, cJ7_fill_d0a16, 5, none, 0, 0)
theorem mc_J7_fill_d0a16 : MC mi_J7_fill_d0a16 2 := ⟨TB_at 186 (by decide +kernel) rfl, TB_at 34 (by decide +kernel) rfl, ⟨by decide +kernel, by decide +kernel⟩, by decide +kernel⟩
def mi_J7_fill_53178 : MI := (yJ7_fill_53178, cJ7_fill_53178, 4, none, 0, 0)
theorem mc_J7_fill_53178 : MC mi_J7_fill_53178 2 := ⟨TB_at 175 (by decide +kernel) rfl, TB_at 34 (by decide +kernel) rfl, ⟨by decide +kernel, by decide +kernel⟩, by decide +kernel⟩
theorem fl_X6_11 : FL RX6 11 6 0 (.array (.object "StreamCounts$Stream")) true := ⟨RX6, TX6, 2, tyX6, rfl, by decide, inT6, tyX6_ok, nmX6, TB_at 237 (by decide +kernel) rfl, rfl, by decide +kernel, fun _ => rfl⟩
theorem fl_X6_16 : FL RX6 16 6 1 .int false := ⟨RX6, TX6, 2, tyX6, rfl, by decide, inT6, tyX6_ok, nmX6, TB_at 238 (by decide +kernel) rfl, rfl, by decide +kernel, fun h => by cases h⟩
theorem fl_X6_27 : FL RX6 27 4 9 .int false := ⟨RX4, TX4, 10, tyX4, rfl, by decide, inT4, tyX4_ok, nmX4, TB_at 215 (by decide +kernel) rfl, rfl, by decide +kernel, fun h => by cases h⟩
theorem fl_X6_42 : FLr RX6 42 4 4 (.object "StreamCounts$Rows") := ⟨RX4, TX4, 10, tyX4, rfl, by decide, inT4, TB_at 206 (by decide +kernel) rfl⟩
theorem fl_X6_64 : FLr RX6 64 4 0 (.object "StreamCounts$Counters") := ⟨RX4, TX4, 10, tyX4, rfl, by decide, inT4, TB_at 198 (by decide +kernel) rfl⟩
theorem fl_X6_77 : FL RX6 77 0 4 .int false := ⟨RX0, TX0, 6, tyX0, rfl, by decide, inT0, tyX0_ok, nmX0, TB_at 65 (by decide +kernel) rfl, rfl, by decide +kernel, fun h => by cases h⟩
theorem fl_X6_80 : FL RX6 80 0 5 .int false := ⟨RX0, TX0, 6, tyX0, rfl, by decide, inT0, tyX0_ok, nmX0, TB_at 67 (by decide +kernel) rfl, rfl, by decide +kernel, fun h => by cases h⟩
theorem fl_X6_83 : FLr RX6 83 4 1 (.object "StreamCounts$Forest") := ⟨RX4, TX4, 10, tyX4, rfl, by decide, inT4, TB_at 200 (by decide +kernel) rfl⟩
theorem fl_X6_87 : FL RX6 87 1 3 .int false := ⟨RX1, TX1, 4, tyX1, rfl, by decide, inT1, tyX1_ok, nmX1, TB_at 94 (by decide +kernel) rfl, rfl, by decide +kernel, fun h => by cases h⟩
theorem fl_X6_92 : FLr RX6 92 4 2 (.object "StreamCounts$Thinned") := ⟨RX4, TX4, 10, tyX4, rfl, by decide, inT4, TB_at 202 (by decide +kernel) rfl⟩
theorem fl_X6_96 : FL RX6 96 5 5 .int false := ⟨RX5, TX5, 6, tyX5, rfl, by decide, inT5, tyX5_ok, nmX5, TB_at 118 (by decide +kernel) rfl, rfl, by decide +kernel, fun h => by cases h⟩
theorem fl_X6_99 : FLr RX6 99 4 3 (.object "StreamCounts$Matching") := ⟨RX4, TX4, 10, tyX4, rfl, by decide, inT4, TB_at 204 (by decide +kernel) rfl⟩
theorem fl_X6_103 : FL RX6 103 2 1 .int false := ⟨RX2, TX2, 2, tyX2, rfl, by decide, inT2, tyX2_ok, nmX2, TB_at 142 (by decide +kernel) rfl, rfl, by decide +kernel, fun h => by cases h⟩
theorem fl_X6_108 : FL RX6 108 4 5 .int false := ⟨RX4, TX4, 10, tyX4, rfl, by decide, inT4, tyX4_ok, nmX4, TB_at 208 (by decide +kernel) rfl, rfl, by decide +kernel, fun h => by cases h⟩
theorem fl_X6_111 : FL RX6 111 4 6 .int false := ⟨RX4, TX4, 10, tyX4, rfl, by decide, inT4, tyX4_ok, nmX4, TB_at 210 (by decide +kernel) rfl, rfl, by decide +kernel, fun h => by cases h⟩
theorem fl_X6_114 : FL RX6 114 4 7 .int false := ⟨RX4, TX4, 10, tyX4, rfl, by decide, inT4, tyX4_ok, nmX4, TB_at 212 (by decide +kernel) rfl, rfl, by decide +kernel, fun h => by cases h⟩
theorem fl_X6_121 : FLr RX6 121 0 0 (.array .int) := ⟨RX0, TX0, 6, tyX0, rfl, by decide, inT0, TB_at 60 (by decide +kernel) rfl⟩
theorem fl_X6_136 : FLr RX6 136 1 0 (.array .int) := ⟨RX1, TX1, 4, tyX1, rfl, by decide, inT1, TB_at 89 (by decide +kernel) rfl⟩
theorem fl_X6_139 : FLr RX6 139 1 1 (.array .int) := ⟨RX1, TX1, 4, tyX1, rfl, by decide, inT1, TB_at 91 (by decide +kernel) rfl⟩
theorem fl_X6_154 : FLr RX6 154 5 0 (.array .int) := ⟨RX5, TX5, 6, tyX5, rfl, by decide, inT5, TB_at 111 (by decide +kernel) rfl⟩
theorem fl_X6_155 : FLr RX6 155 5 1 (.array .int) := ⟨RX5, TX5, 6, tyX5, rfl, by decide, inT5, TB_at 113 (by decide +kernel) rfl⟩
theorem fl_X6_156 : FLr RX6 156 2 0 (.array .int) := ⟨RX2, TX2, 2, tyX2, rfl, by decide, inT2, TB_at 140 (by decide +kernel) rfl⟩
theorem fl_X6_159 : FLr RX6 159 3 0 (.array .long) := ⟨RX3, TX3, 3, tyX3, rfl, by decide, inT3, TB_at 155 (by decide +kernel) rfl⟩
theorem fl_X0_9 : FL RX0 9 0 0 (.array .int) true := ⟨RX0, TX0, 6, tyX0, rfl, by decide, inT0, tyX0_ok, nmX0, TB_at 59 (by decide +kernel) rfl, rfl, by decide +kernel, fun _ => rfl⟩
theorem fl_X0_15 : FL RX0 15 0 1 (.array .int) true := ⟨RX0, TX0, 6, tyX0, rfl, by decide, inT0, tyX0_ok, nmX0, TB_at 61 (by decide +kernel) rfl, rfl, by decide +kernel, fun _ => rfl⟩
theorem fl_X0_18 : FL RX0 18 0 2 .int false := ⟨RX0, TX0, 6, tyX0, rfl, by decide, inT0, tyX0_ok, nmX0, TB_at 62 (by decide +kernel) rfl, rfl, by decide +kernel, fun h => by cases h⟩
theorem fl_X0_22 : FL RX0 22 0 3 .int false := ⟨RX0, TX0, 6, tyX0, rfl, by decide, inT0, tyX0_ok, nmX0, TB_at 63 (by decide +kernel) rfl, rfl, by decide +kernel, fun h => by cases h⟩
theorem fl_X0_25 : FL RX0 25 0 4 .int false := ⟨RX0, TX0, 6, tyX0, rfl, by decide, inT0, tyX0_ok, nmX0, TB_at 64 (by decide +kernel) rfl, rfl, by decide +kernel, fun h => by cases h⟩
theorem fl_X0_28 : FL RX0 28 0 5 .int false := ⟨RX0, TX0, 6, tyX0, rfl, by decide, inT0, tyX0_ok, nmX0, TB_at 66 (by decide +kernel) rfl, rfl, by decide +kernel, fun h => by cases h⟩
theorem fl_X1_9 : FL RX1 9 1 0 (.array .int) true := ⟨RX1, TX1, 4, tyX1, rfl, by decide, inT1, tyX1_ok, nmX1, TB_at 88 (by decide +kernel) rfl, rfl, by decide +kernel, fun _ => rfl⟩
theorem fl_X1_15 : FL RX1 15 1 1 (.array .int) true := ⟨RX1, TX1, 4, tyX1, rfl, by decide, inT1, tyX1_ok, nmX1, TB_at 90 (by decide +kernel) rfl, rfl, by decide +kernel, fun _ => rfl⟩
theorem fl_X1_18 : FL RX1 18 1 2 (.array .int) true := ⟨RX1, TX1, 4, tyX1, rfl, by decide, inT1, tyX1_ok, nmX1, TB_at 92 (by decide +kernel) rfl, rfl, by decide +kernel, fun _ => rfl⟩
theorem fl_X1_21 : FL RX1 21 1 3 .int false := ⟨RX1, TX1, 4, tyX1, rfl, by decide, inT1, tyX1_ok, nmX1, TB_at 93 (by decide +kernel) rfl, rfl, by decide +kernel, fun h => by cases h⟩
theorem fl_X2_9 : FL RX2 9 2 0 (.array .int) true := ⟨RX2, TX2, 2, tyX2, rfl, by decide, inT2, tyX2_ok, nmX2, TB_at 139 (by decide +kernel) rfl, rfl, by decide +kernel, fun _ => rfl⟩
theorem fl_X2_15 : FL RX2 15 2 1 .int false := ⟨RX2, TX2, 2, tyX2, rfl, by decide, inT2, tyX2_ok, nmX2, TB_at 141 (by decide +kernel) rfl, rfl, by decide +kernel, fun h => by cases h⟩
theorem fl_X3_9 : FL RX3 9 3 0 (.array .long) true := ⟨RX3, TX3, 3, tyX3, rfl, by decide, inT3, tyX3_ok, nmX3, TB_at 154 (by decide +kernel) rfl, rfl, by decide +kernel, fun _ => rfl⟩
theorem fl_X3_15 : FL RX3 15 3 1 .int false := ⟨RX3, TX3, 3, tyX3, rfl, by decide, inT3, tyX3_ok, nmX3, TB_at 156 (by decide +kernel) rfl, rfl, by decide +kernel, fun h => by cases h⟩
theorem fl_X3_19 : FL RX3 19 3 2 .long false := ⟨RX3, TX3, 3, tyX3, rfl, by decide, inT3, tyX3_ok, nmX3, TB_at 157 (by decide +kernel) rfl, rfl, by decide +kernel, fun h => by cases h⟩
theorem fl_X4_12 : FL RX4 12 4 0 (.object "StreamCounts$Counters") true := ⟨RX4, TX4, 10, tyX4, rfl, by decide, inT4, tyX4_ok, nmX4, TB_at 197 (by decide +kernel) rfl, rfl, by decide +kernel, fun _ => rfl⟩
theorem fl_X4_21 : FL RX4 21 4 1 (.object "StreamCounts$Forest") true := ⟨RX4, TX4, 10, tyX4, rfl, by decide, inT4, tyX4_ok, nmX4, TB_at 199 (by decide +kernel) rfl, rfl, by decide +kernel, fun _ => rfl⟩
theorem fl_X4_28 : FL RX4 28 4 2 (.object "StreamCounts$Thinned") true := ⟨RX4, TX4, 10, tyX4, rfl, by decide, inT4, tyX4_ok, nmX4, TB_at 201 (by decide +kernel) rfl, rfl, by decide +kernel, fun _ => rfl⟩
theorem fl_X4_35 : FL RX4 35 4 3 (.object "StreamCounts$Matching") true := ⟨RX4, TX4, 10, tyX4, rfl, by decide, inT4, tyX4_ok, nmX4, TB_at 203 (by decide +kernel) rfl, rfl, by decide +kernel, fun _ => rfl⟩
theorem fl_X4_42 : FL RX4 42 4 4 (.object "StreamCounts$Rows") true := ⟨RX4, TX4, 10, tyX4, rfl, by decide, inT4, tyX4_ok, nmX4, TB_at 205 (by decide +kernel) rfl, rfl, by decide +kernel, fun _ => rfl⟩
theorem fl_X4_50 : FL RX4 50 4 5 .int false := ⟨RX4, TX4, 10, tyX4, rfl, by decide, inT4, tyX4_ok, nmX4, TB_at 207 (by decide +kernel) rfl, rfl, by decide +kernel, fun h => by cases h⟩
theorem fl_X4_54 : FL RX4 54 4 6 .int false := ⟨RX4, TX4, 10, tyX4, rfl, by decide, inT4, tyX4_ok, nmX4, TB_at 209 (by decide +kernel) rfl, rfl, by decide +kernel, fun h => by cases h⟩
theorem fl_X4_57 : FL RX4 57 4 7 .int false := ⟨RX4, TX4, 10, tyX4, rfl, by decide, inT4, tyX4_ok, nmX4, TB_at 211 (by decide +kernel) rfl, rfl, by decide +kernel, fun h => by cases h⟩
theorem fl_X4_60 : FL RX4 60 4 8 .long false := ⟨RX4, TX4, 10, tyX4, rfl, by decide, inT4, tyX4_ok, nmX4, TB_at 213 (by decide +kernel) rfl, rfl, by decide +kernel, fun h => by cases h⟩
theorem fl_X4_64 : FL RX4 64 4 9 .int false := ⟨RX4, TX4, 10, tyX4, rfl, by decide, inT4, tyX4_ok, nmX4, TB_at 214 (by decide +kernel) rfl, rfl, by decide +kernel, fun h => by cases h⟩
theorem fl_X5_9 : FL RX5 9 5 0 (.array .int) true := ⟨RX5, TX5, 6, tyX5, rfl, by decide, inT5, tyX5_ok, nmX5, TB_at 110 (by decide +kernel) rfl, rfl, by decide +kernel, fun _ => rfl⟩
theorem fl_X5_15 : FL RX5 15 5 1 (.array .int) true := ⟨RX5, TX5, 6, tyX5, rfl, by decide, inT5, tyX5_ok, nmX5, TB_at 112 (by decide +kernel) rfl, rfl, by decide +kernel, fun _ => rfl⟩
theorem fl_X5_18 : FL RX5 18 5 2 (.array .long) true := ⟨RX5, TX5, 6, tyX5, rfl, by decide, inT5, tyX5_ok, nmX5, TB_at 114 (by decide +kernel) rfl, rfl, by decide +kernel, fun _ => rfl⟩
theorem fl_X5_22 : FL RX5 22 5 3 .int false := ⟨RX5, TX5, 6, tyX5, rfl, by decide, inT5, tyX5_ok, nmX5, TB_at 115 (by decide +kernel) rfl, rfl, by decide +kernel, fun h => by cases h⟩
theorem fl_X5_26 : FL RX5 26 5 4 .int false := ⟨RX5, TX5, 6, tyX5, rfl, by decide, inT5, tyX5_ok, nmX5, TB_at 116 (by decide +kernel) rfl, rfl, by decide +kernel, fun h => by cases h⟩
theorem fl_X5_29 : FL RX5 29 5 5 .int false := ⟨RX5, TX5, 6, tyX5, rfl, by decide, inT5, tyX5_ok, nmX5, TB_at 117 (by decide +kernel) rfl, rfl, by decide +kernel, fun h => by cases h⟩
theorem fl_X7_7 : FL RX7 7 7 0 (.array .int) true := ⟨RX7, TX7, 17, tyX7, rfl, by decide, inT7, tyX7_ok, nmX7, TB_at 493 (by decide +kernel) rfl, rfl, by decide +kernel, fun _ => rfl⟩
theorem fl_X7_13 : FL RX7 13 7 1 (.array .int) true := ⟨RX7, TX7, 17, tyX7, rfl, by decide, inT7, tyX7_ok, nmX7, TB_at 494 (by decide +kernel) rfl, rfl, by decide +kernel, fun _ => rfl⟩
theorem fl_X7_16 : FL RX7 16 7 2 (.array .int) true := ⟨RX7, TX7, 17, tyX7, rfl, by decide, inT7, tyX7_ok, nmX7, TB_at 495 (by decide +kernel) rfl, rfl, by decide +kernel, fun _ => rfl⟩
theorem fl_X7_19 : FL RX7 19 7 3 (.array .long) true := ⟨RX7, TX7, 17, tyX7, rfl, by decide, inT7, tyX7_ok, nmX7, TB_at 496 (by decide +kernel) rfl, rfl, by decide +kernel, fun _ => rfl⟩
theorem fl_X7_23 : FL RX7 23 7 4 (.array .int) true := ⟨RX7, TX7, 17, tyX7, rfl, by decide, inT7, tyX7_ok, nmX7, TB_at 497 (by decide +kernel) rfl, rfl, by decide +kernel, fun _ => rfl⟩
theorem fl_X7_26 : FL RX7 26 7 5 (.array .int) true := ⟨RX7, TX7, 17, tyX7, rfl, by decide, inT7, tyX7_ok, nmX7, TB_at 498 (by decide +kernel) rfl, rfl, by decide +kernel, fun _ => rfl⟩
theorem fl_X7_29 : FL RX7 29 7 6 (.array .int) true := ⟨RX7, TX7, 17, tyX7, rfl, by decide, inT7, tyX7_ok, nmX7, TB_at 499 (by decide +kernel) rfl, rfl, by decide +kernel, fun _ => rfl⟩
theorem fl_X7_32 : FL RX7 32 7 7 (.array .int) true := ⟨RX7, TX7, 17, tyX7, rfl, by decide, inT7, tyX7_ok, nmX7, TB_at 500 (by decide +kernel) rfl, rfl, by decide +kernel, fun _ => rfl⟩
theorem fl_X7_35 : FL RX7 35 7 8 (.array .int) true := ⟨RX7, TX7, 17, tyX7, rfl, by decide, inT7, tyX7_ok, nmX7, TB_at 501 (by decide +kernel) rfl, rfl, by decide +kernel, fun _ => rfl⟩
theorem fl_X7_38 : FL RX7 38 7 9 (.array .int) true := ⟨RX7, TX7, 17, tyX7, rfl, by decide, inT7, tyX7_ok, nmX7, TB_at 502 (by decide +kernel) rfl, rfl, by decide +kernel, fun _ => rfl⟩
theorem fl_X7_41 : FL RX7 41 7 10 (.array .long) true := ⟨RX7, TX7, 17, tyX7, rfl, by decide, inT7, tyX7_ok, nmX7, TB_at 503 (by decide +kernel) rfl, rfl, by decide +kernel, fun _ => rfl⟩
theorem fl_X7_44 : FL RX7 44 7 11 (.array .int) true := ⟨RX7, TX7, 17, tyX7, rfl, by decide, inT7, tyX7_ok, nmX7, TB_at 504 (by decide +kernel) rfl, rfl, by decide +kernel, fun _ => rfl⟩
theorem fl_X7_47 : FL RX7 47 7 12 (.array .int) true := ⟨RX7, TX7, 17, tyX7, rfl, by decide, inT7, tyX7_ok, nmX7, TB_at 505 (by decide +kernel) rfl, rfl, by decide +kernel, fun _ => rfl⟩
theorem fl_X7_50 : FL RX7 50 7 13 .int false := ⟨RX7, TX7, 17, tyX7, rfl, by decide, inT7, tyX7_ok, nmX7, TB_at 506 (by decide +kernel) rfl, rfl, by decide +kernel, fun h => by cases h⟩
theorem fl_X7_54 : FL RX7 54 7 14 (.array .int) true := ⟨RX7, TX7, 17, tyX7, rfl, by decide, inT7, tyX7_ok, nmX7, TB_at 507 (by decide +kernel) rfl, rfl, by decide +kernel, fun _ => rfl⟩
theorem fl_X7_57 : FL RX7 57 7 15 (.array .boolean) true := ⟨RX7, TX7, 17, tyX7, rfl, by decide, inT7, tyX7_ok, nmX7, TB_at 508 (by decide +kernel) rfl, rfl, by decide +kernel, fun _ => rfl⟩
theorem fl_X7_61 : FL RX7 61 7 16 (.array .int) true := ⟨RX7, TX7, 17, tyX7, rfl, by decide, inT7, tyX7_ok, nmX7, TB_at 509 (by decide +kernel) rfl, rfl, by decide +kernel, fun _ => rfl⟩
theorem ms_X0_31 : MS RX0 31 mi_J7_fill_53178 2 := ⟨mc_J7_fill_53178, TB_at 173 (by decide +kernel) rfl, TB_at 174 (by decide +kernel) rfl⟩
theorem mv_X0_37 : MV RX0 37 mi_X0_lessen 0 1 := ⟨mc_X0_lessen, TB_at 281 (by decide +kernel) rfl, TB_at 283 (by decide +kernel) rfl, TB_at 2 (by decide +kernel) rfl, TX0, 6, rfl⟩
theorem mv_X0_43 : MV RX0 43 mi_X0_nodeAtPlace 0 2 := ⟨mc_X0_nodeAtPlace, TB_at 382 (by decide +kernel) rfl, TB_at 383 (by decide +kernel) rfl, TB_at 384 (by decide +kernel) rfl, TX0, 6, rfl⟩
theorem mv_X0_53 : MV RX0 53 mi_X0_greatest 0 2 := ⟨mc_X0_greatest, TB_at 386 (by decide +kernel) rfl, TB_at 388 (by decide +kernel) rfl, TB_at 10 (by decide +kernel) rfl, TX0, 6, rfl⟩
theorem mn_X0_57 : MN RX0 57 mi_X6_holds 2 := ⟨mc_X6_holds, ⟨"StreamCounts", by decide +kernel⟩, TB_at 330 (by decide +kernel) rfl⟩
theorem ms_X0_61 : MS RX0 61 mi_J9_max_7cf53 2 := ⟨mc_J9_max_7cf53, TB_at 285 (by decide +kernel) rfl, TB_at 275 (by decide +kernel) rfl⟩
theorem mv_X1_25 : MV RX1 25 mi_X1_oldestBetween 1 2 := ⟨mc_X1_oldestBetween, TB_at 290 (by decide +kernel) rfl, TB_at 291 (by decide +kernel) rfl, TB_at 292 (by decide +kernel) rfl, TX1, 4, rfl⟩
theorem mv_X1_29 : MV RX1 29 mi_X1_drop 1 1 := ⟨mc_X1_drop, TB_at 314 (by decide +kernel) rfl, TB_at 316 (by decide +kernel) rfl, TB_at 6 (by decide +kernel) rfl, TX1, 4, rfl⟩
theorem mn_X1_33 : MN RX1 33 mi_X6_keyOf 2 := ⟨mc_X6_keyOf, ⟨"StreamCounts", by decide +kernel⟩, TB_at 319 (by decide +kernel) rfl⟩
theorem mv_X1_36 : MV RX1 36 mi_X1_partAll 1 0 := ⟨mc_X1_partAll, TB_at 294 (by decide +kernel) rfl, TB_at 296 (by decide +kernel) rfl, TB_at 3 (by decide +kernel) rfl, TX1, 4, rfl⟩
theorem mv_X1_39 : MV RX1 39 mi_X1_joinByArc 1 1 := ⟨mc_X1_joinByArc, TB_at 298 (by decide +kernel) rfl, TB_at 300 (by decide +kernel) rfl, TB_at 4 (by decide +kernel) rfl, TX1, 4, rfl⟩
theorem mv_X1_42 : MV RX1 42 mi_X1_leaderOf 1 1 := ⟨mc_X1_leaderOf, TB_at 305 (by decide +kernel) rfl, TB_at 307 (by decide +kernel) rfl, TB_at 5 (by decide +kernel) rfl, TX1, 4, rfl⟩
theorem mn_X1_46 : MN RX1 46 mi_X6_lesserNode 1 := ⟨mc_X6_lesserNode, ⟨"StreamCounts", by decide +kernel⟩, TB_at 303 (by decide +kernel) rfl⟩
theorem mn_X1_49 : MN RX1 49 mi_X6_greaterNode 1 := ⟨mc_X6_greaterNode, ⟨"StreamCounts", by decide +kernel⟩, TB_at 310 (by decide +kernel) rfl⟩
theorem ms_X1_52 : MS RX1 52 mi_J9_max_7cf53 2 := ⟨mc_J9_max_7cf53, TB_at 312 (by decide +kernel) rfl, TB_at 275 (by decide +kernel) rfl⟩
theorem ms_X1_57 : MS RX1 57 mi_J9_min_7cf53 2 := ⟨mc_J9_min_7cf53, TB_at 313 (by decide +kernel) rfl, TB_at 272 (by decide +kernel) rfl⟩
theorem ms_X2_19 : MS RX2 19 mi_J7_fill_53178 2 := ⟨mc_J7_fill_53178, TB_at 191 (by decide +kernel) rfl, TB_at 174 (by decide +kernel) rfl⟩
theorem ms_X3_23 : MS RX3 23 mi_J7_fill_d0a16 2 := ⟨mc_J7_fill_d0a16, TB_at 196 (by decide +kernel) rfl, TB_at 185 (by decide +kernel) rfl⟩
theorem mn_X3_29 : MN RX3 29 mi_X6_keyOf 2 := ⟨mc_X6_keyOf, ⟨"StreamCounts", by decide +kernel⟩, TB_at 319 (by decide +kernel) rfl⟩
theorem mv_X3_33 : MV RX3 33 mi_X3_levelOf 3 1 := ⟨mc_X3_levelOf, TB_at 347 (by decide +kernel) rfl, TB_at 349 (by decide +kernel) rfl, TB_at 8 (by decide +kernel) rfl, TX3, 3, rfl⟩
theorem ms_X3_37 : MS RX3 37 mi_X3_placeOf 2 := ⟨mc_X3_placeOf, TB_at 355 (by decide +kernel) rfl, TB_at 356 (by decide +kernel) rfl⟩
theorem mv_X3_40 : MV RX3 40 mi_X3_addTo 3 3 := ⟨mc_X3_addTo, TB_at 358 (by decide +kernel) rfl, TB_at 360 (by decide +kernel) rfl, TB_at 9 (by decide +kernel) rfl, TX3, 3, rfl⟩
theorem mv_X3_44 : MV RX3 44 mi_X3_sumOf 3 3 := ⟨mc_X3_sumOf, TB_at 464 (by decide +kernel) rfl, TB_at 466 (by decide +kernel) rfl, TB_at 11 (by decide +kernel) rfl, TX3, 3, rfl⟩
theorem mn_X3_50 : MN RX3 50 mi_X6_lesserNode 1 := ⟨mc_X6_lesserNode, ⟨"StreamCounts", by decide +kernel⟩, TB_at 303 (by decide +kernel) rfl⟩
theorem mn_X3_54 : MN RX3 54 mi_X6_greaterNode 1 := ⟨mc_X6_greaterNode, ⟨"StreamCounts", by decide +kernel⟩, TB_at 310 (by decide +kernel) rfl⟩
theorem mn_X3_57 : MN RX3 57 mi_X6_holds 2 := ⟨mc_X6_holds, ⟨"StreamCounts", by decide +kernel⟩, TB_at 330 (by decide +kernel) rfl⟩
theorem mv_X4_46 : MV RX4 46 mi_X4_restart 4 4 := ⟨mc_X4_restart, TB_at 165 (by decide +kernel) rfl, TB_at 166 (by decide +kernel) rfl, TB_at 167 (by decide +kernel) rfl, TX4, 10, rfl⟩
theorem mv_X4_67 : MV RX4 67 mi_X0_restart 0 2 := ⟨mc_X0_restart, TB_at 169 (by decide +kernel) rfl, TB_at 170 (by decide +kernel) rfl, TB_at 171 (by decide +kernel) rfl, TX0, 6, rfl⟩
theorem mv_X4_70 : MV RX4 70 mi_X1_restart 1 0 := ⟨mc_X1_restart, TB_at 176 (by decide +kernel) rfl, TB_at 177 (by decide +kernel) rfl, TB_at 178 (by decide +kernel) rfl, TX1, 4, rfl⟩
theorem mv_X4_72 : MV RX4 72 mi_X5_restart 5 2 := ⟨mc_X5_restart, TB_at 180 (by decide +kernel) rfl, TB_at 181 (by decide +kernel) rfl, TB_at 182 (by decide +kernel) rfl, TX5, 6, rfl⟩
theorem mv_X4_73 : MV RX4 73 mi_X2_restart 2 0 := ⟨mc_X2_restart, TB_at 187 (by decide +kernel) rfl, TB_at 188 (by decide +kernel) rfl, TB_at 189 (by decide +kernel) rfl, TX2, 2, rfl⟩
theorem mv_X4_74 : MV RX4 74 mi_X3_restart 3 2 := ⟨mc_X3_restart, TB_at 192 (by decide +kernel) rfl, TB_at 193 (by decide +kernel) rfl, TB_at 194 (by decide +kernel) rfl, TX3, 3, rfl⟩
theorem ms_X4_77 : MS RX4 77 mi_J9_min_7cf53 2 := ⟨mc_J9_min_7cf53, TB_at 271 (by decide +kernel) rfl, TB_at 272 (by decide +kernel) rfl⟩
theorem ms_X4_83 : MS RX4 83 mi_J9_max_7cf53 2 := ⟨mc_J9_max_7cf53, TB_at 274 (by decide +kernel) rfl, TB_at 275 (by decide +kernel) rfl⟩
theorem mv_X4_86 : MV RX4 86 mi_X0_count 0 1 := ⟨mc_X0_count, TB_at 277 (by decide +kernel) rfl, TB_at 278 (by decide +kernel) rfl, TB_at 279 (by decide +kernel) rfl, TX0, 6, rfl⟩
theorem mv_X4_90 : MV RX4 90 mi_X1_accept 1 3 := ⟨mc_X1_accept, TB_at 286 (by decide +kernel) rfl, TB_at 287 (by decide +kernel) rfl, TB_at 288 (by decide +kernel) rfl, TX1, 4, rfl⟩
theorem mv_X4_94 : MV RX4 94 mi_X5_accept 5 3 := ⟨mc_X5_accept, TB_at 321 (by decide +kernel) rfl, TB_at 322 (by decide +kernel) rfl, TB_at 323 (by decide +kernel) rfl, TX5, 6, rfl⟩
theorem mv_X4_95 : MV RX4 95 mi_X2_accept 2 2 := ⟨mc_X2_accept, TB_at 338 (by decide +kernel) rfl, TB_at 339 (by decide +kernel) rfl, TB_at 340 (by decide +kernel) rfl, TX2, 2, rfl⟩
theorem mv_X4_97 : MV RX4 97 mi_X3_change 3 3 := ⟨mc_X3_change, TB_at 342 (by decide +kernel) rfl, TB_at 343 (by decide +kernel) rfl, TB_at 344 (by decide +kernel) rfl, TX3, 3, rfl⟩
theorem ms_X5_32 : MS RX5 32 mi_J7_fill_d0a16 2 := ⟨mc_J7_fill_d0a16, TB_at 184 (by decide +kernel) rfl, TB_at 185 (by decide +kernel) rfl⟩
theorem mv_X5_38 : MV RX5 38 mi_X5_distance 5 3 := ⟨mc_X5_distance, TB_at 325 (by decide +kernel) rfl, TB_at 326 (by decide +kernel) rfl, TB_at 327 (by decide +kernel) rfl, TX5, 6, rfl⟩
theorem mn_X5_42 : MN RX5 42 mi_X6_keyOf 2 := ⟨mc_X6_keyOf, ⟨"StreamCounts", by decide +kernel⟩, TB_at 319 (by decide +kernel) rfl⟩
theorem mn_X5_46 : MN RX5 46 mi_X6_holds 2 := ⟨mc_X6_holds, ⟨"StreamCounts", by decide +kernel⟩, TB_at 330 (by decide +kernel) rfl⟩
theorem mv_X5_50 : MV RX5 50 mi_X5_neighboursOf 5 1 := ⟨mc_X5_neighboursOf, TB_at 332 (by decide +kernel) rfl, TB_at 334 (by decide +kernel) rfl, TB_at 7 (by decide +kernel) rfl, TX5, 6, rfl⟩
theorem ms_X6_20 : MS RX6 20 mi_X6_noStream 1 := ⟨mc_X6_noStream, TB_at 248 (by decide +kernel) rfl, TB_at 249 (by decide +kernel) rfl⟩
theorem ms_X6_24 : MS RX6 24 mi_X6_isStretch 1 := ⟨mc_X6_isStretch, TB_at 251 (by decide +kernel) rfl, TB_at 252 (by decide +kernel) rfl⟩
theorem mv_X6_30 : MV RX6 30 mi_X4_restart 4 4 := ⟨mc_X4_restart, TB_at 254 (by decide +kernel) rfl, TB_at 166 (by decide +kernel) rfl, TB_at 167 (by decide +kernel) rfl, TX4, 10, rfl⟩
theorem mv_X6_34 : MV RX6 34 mi_X6_noArc 6 3 := ⟨mc_X6_noArc, TB_at 259 (by decide +kernel) rfl, TB_at 261 (by decide +kernel) rfl, TB_at 0 (by decide +kernel) rfl, TX6, 2, rfl⟩
theorem mv_X6_38 : MV RX6 38 mi_X4_accept 4 2 := ⟨mc_X4_accept, TB_at 267 (by decide +kernel) rfl, TB_at 268 (by decide +kernel) rfl, TB_at 269 (by decide +kernel) rfl, TX4, 10, rfl⟩
theorem ms_X6_46 : MS RX6 46 mi_J9_min_7cf53 2 := ⟨mc_J9_min_7cf53, TB_at 366 (by decide +kernel) rfl, TB_at 272 (by decide +kernel) rfl⟩
theorem ms_X6_51 : MS RX6 51 mi_J9_max_7cf53 2 := ⟨mc_J9_max_7cf53, TB_at 367 (by decide +kernel) rfl, TB_at 275 (by decide +kernel) rfl⟩
theorem mv_X6_54 : MV RX6 54 mi_X3_change 3 3 := ⟨mc_X3_change, TB_at 368 (by decide +kernel) rfl, TB_at 343 (by decide +kernel) rfl, TB_at 344 (by decide +kernel) rfl, TX3, 3, rfl⟩
theorem mv_X6_60 : MV RX6 60 mi_X4_isApartFrom 4 1 := ⟨mc_X4_isApartFrom, TB_at 373 (by decide +kernel) rfl, TB_at 374 (by decide +kernel) rfl, TB_at 375 (by decide +kernel) rfl, TX4, 10, rfl⟩
theorem mv_X6_68 : MV RX6 68 mi_X0_putTogether 0 1 := ⟨mc_X0_putTogether, TB_at 377 (by decide +kernel) rfl, TB_at 378 (by decide +kernel) rfl, TB_at 379 (by decide +kernel) rfl, TX0, 6, rfl⟩
theorem mv_X6_74 : MV RX6 74 mi_X3_putTogether 3 1 := ⟨mc_X3_putTogether, TB_at 394 (by decide +kernel) rfl, TB_at 395 (by decide +kernel) rfl, TB_at 396 (by decide +kernel) rfl, TX3, 3, rfl⟩
theorem mv_X6_117 : MV RX6 117 mi_X6_noNode 6 2 := ⟨mc_X6_noNode, TB_at 263 (by decide +kernel) rfl, TB_at 265 (by decide +kernel) rfl, TB_at 1 (by decide +kernel) rfl, TX6, 2, rfl⟩
theorem mv_X6_125 : MV RX6 125 mi_X0_nodeAtPlace 0 2 := ⟨mc_X0_nodeAtPlace, TB_at 410 (by decide +kernel) rfl, TB_at 383 (by decide +kernel) rfl, TB_at 384 (by decide +kernel) rfl, TX0, 6, rfl⟩
theorem mv_X6_129 : MV RX6 129 mi_X1_arcsAfter 1 1 := ⟨mc_X1_arcsAfter, TB_at 415 (by decide +kernel) rfl, TB_at 416 (by decide +kernel) rfl, TB_at 417 (by decide +kernel) rfl, TX1, 4, rfl⟩
theorem mv_X6_133 : MV RX6 133 mi_X1_leastOfPart 1 2 := ⟨mc_X1_leastOfPart, TB_at 423 (by decide +kernel) rfl, TB_at 424 (by decide +kernel) rfl, TB_at 425 (by decide +kernel) rfl, TX1, 4, rfl⟩
theorem ms_X6_142 : MS RX6 142 mi_X6_lesserNode 1 := ⟨mc_X6_lesserNode, TB_at 431 (by decide +kernel) rfl, TB_at 303 (by decide +kernel) rfl⟩
theorem ms_X6_145 : MS RX6 145 mi_X6_greaterNode 1 := ⟨mc_X6_greaterNode, TB_at 432 (by decide +kernel) rfl, TB_at 310 (by decide +kernel) rfl⟩
theorem mv_X6_148 : MV RX6 148 mi_X1_oldestBetween 1 2 := ⟨mc_X1_oldestBetween, TB_at 437 (by decide +kernel) rfl, TB_at 291 (by decide +kernel) rfl, TB_at 292 (by decide +kernel) rfl, TX1, 4, rfl⟩
theorem mv_X6_151 : MV RX6 151 mi_X5_distance 5 3 := ⟨mc_X5_distance, TB_at 442 (by decide +kernel) rfl, TB_at 326 (by decide +kernel) rfl, TB_at 327 (by decide +kernel) rfl, TX5, 6, rfl⟩
theorem ms_X6_163 : MS RX6 163 mi_X3_placeOf 2 := ⟨mc_X3_placeOf, TB_at 455 (by decide +kernel) rfl, TB_at 356 (by decide +kernel) rfl⟩
theorem mv_X6_166 : MV RX6 166 mi_X3_keyOutOf 3 2 := ⟨mc_X3_keyOutOf, TB_at 460 (by decide +kernel) rfl, TB_at 461 (by decide +kernel) rfl, TB_at 462 (by decide +kernel) rfl, TX3, 3, rfl⟩
theorem mv_X6_170 : MV RX6 170 mi_X3_isNothing 3 1 := ⟨mc_X3_isNothing, TB_at 471 (by decide +kernel) rfl, TB_at 472 (by decide +kernel) rfl, TB_at 473 (by decide +kernel) rfl, TX3, 3, rfl⟩
theorem mv_X6_174 : MV RX6 174 mi_X3_isAlike 3 1 := ⟨mc_X3_isAlike, TB_at 483 (by decide +kernel) rfl, TB_at 484 (by decide +kernel) rfl, TB_at 485 (by decide +kernel) rfl, TX3, 3, rfl⟩
theorem ms_X7_64 : MS RX7 64 mi_X7_isStream 1 := ⟨mc_X7_isStream, TB_at 550 (by decide +kernel) rfl, TB_at 551 (by decide +kernel) rfl⟩
theorem mv_X7_68 : MV RX7 68 mi_X7_taken 7 1 := ⟨mc_X7_taken, TB_at 565 (by decide +kernel) rfl, TB_at 567 (by decide +kernel) rfl, TB_at 14 (by decide +kernel) rfl, TX7, 17, rfl⟩
theorem mv_X7_72 : MV RX7 72 mi_X7_less 7 2 := ⟨mc_X7_less, TB_at 569 (by decide +kernel) rfl, TB_at 571 (by decide +kernel) rfl, TB_at 15 (by decide +kernel) rfl, TX7, 17, rfl⟩
theorem mv_X7_76 : MV RX7 76 mi_X7_isNode 7 2 := ⟨mc_X7_isNode, TB_at 557 (by decide +kernel) rfl, TB_at 559 (by decide +kernel) rfl, TB_at 12 (by decide +kernel) rfl, TX7, 17, rfl⟩
theorem mv_X7_80 : MV RX7 80 mi_X7_count 7 2 := ⟨mc_X7_count, TB_at 561 (by decide +kernel) rfl, TB_at 563 (by decide +kernel) rfl, TB_at 13 (by decide +kernel) rfl, TX7, 17, rfl⟩
theorem mv_X7_83 : MV RX7 83 mi_X7_shortest 7 3 := ⟨mc_X7_shortest, TB_at 573 (by decide +kernel) rfl, TB_at 575 (by decide +kernel) rfl, TB_at 16 (by decide +kernel) rfl, TX7, 17, rfl⟩
theorem mv_X7_87 : MV RX7 87 mi_X7_change 7 4 := ⟨mc_X7_change, TB_at 577 (by decide +kernel) rfl, TB_at 579 (by decide +kernel) rfl, TB_at 17 (by decide +kernel) rfl, TX7, 17, rfl⟩
theorem mv_X7_99 : MV RX7 99 mi_X7_levelOf 7 2 := ⟨mc_X7_levelOf, TB_at 582 (by decide +kernel) rfl, TB_at 584 (by decide +kernel) rfl, TB_at 18 (by decide +kernel) rfl, TX7, 17, rfl⟩
theorem mv_X7_105 : MV RX7 105 mi_X7_isApart 7 2 := ⟨mc_X7_isApart, TB_at 598 (by decide +kernel) rfl, TB_at 600 (by decide +kernel) rfl, TB_at 19 (by decide +kernel) rfl, TX7, 17, rfl⟩
theorem mv_X7_109 : MV RX7 109 mi_X7_ranked 7 2 := ⟨mc_X7_ranked, TB_at 603 (by decide +kernel) rfl, TB_at 605 (by decide +kernel) rfl, TB_at 20 (by decide +kernel) rfl, TX7, 17, rfl⟩
theorem mv_X7_115 : MV RX7 115 mi_X7_join 7 2 := ⟨mc_X7_join, TB_at 612 (by decide +kernel) rfl, TB_at 614 (by decide +kernel) rfl, TB_at 21 (by decide +kernel) rfl, TX7, 17, rfl⟩
theorem mv_X7_118 : MV RX7 118 mi_X7_pairs 7 1 := ⟨mc_X7_pairs, TB_at 620 (by decide +kernel) rfl, TB_at 622 (by decide +kernel) rfl, TB_at 23 (by decide +kernel) rfl, TX7, 17, rfl⟩
theorem mv_X7_121 : MV RX7 121 mi_X7_unite 7 2 := ⟨mc_X7_unite, TB_at 616 (by decide +kernel) rfl, TB_at 618 (by decide +kernel) rfl, TB_at 22 (by decide +kernel) rfl, TX7, 17, rfl⟩
theorem mv_X7_124 : MV RX7 124 mi_X7_ofSet 7 4 := ⟨mc_X7_ofSet, TB_at 668 (by decide +kernel) rfl, TB_at 670 (by decide +kernel) rfl, TB_at 24 (by decide +kernel) rfl, TX7, 17, rfl⟩
theorem mv_X7_130 : MV RX7 130 mi_X7_leads 7 4 := ⟨mc_X7_leads, TB_at 673 (by decide +kernel) rfl, TB_at 675 (by decide +kernel) rfl, TB_at 25 (by decide +kernel) rfl, TX7, 17, rfl⟩
theorem mv_L_15 : MV RL 15 mi_X6_begin 6 5 := ⟨mc_X6_begin, TB_at 244 (by decide +kernel) rfl, TB_at 245 (by decide +kernel) rfl, TB_at 246 (by decide +kernel) rfl, TX6, 2, rfl⟩
theorem mv_L_19 : MV RL 19 mi_X7_begin 7 5 := ⟨mc_X7_begin, TB_at 546 (by decide +kernel) rfl, TB_at 547 (by decide +kernel) rfl, TB_at 548 (by decide +kernel) rfl, TX7, 17, rfl⟩
theorem mv_L_20 : MV RL 20 mi_X6_add 6 3 := ⟨mc_X6_add, TB_at 255 (by decide +kernel) rfl, TB_at 256 (by decide +kernel) rfl, TB_at 257 (by decide +kernel) rfl, TX6, 2, rfl⟩
theorem mv_L_24 : MV RL 24 mi_X7_add 7 3 := ⟨mc_X7_add, TB_at 553 (by decide +kernel) rfl, TB_at 554 (by decide +kernel) rfl, TB_at 555 (by decide +kernel) rfl, TX7, 17, rfl⟩
theorem mv_L_25 : MV RL 25 mi_X6_take 6 3 := ⟨mc_X6_take, TB_at 362 (by decide +kernel) rfl, TB_at 363 (by decide +kernel) rfl, TB_at 364 (by decide +kernel) rfl, TX6, 2, rfl⟩
theorem mv_L_28 : MV RL 28 mi_X7_take 7 3 := ⟨mc_X7_take, TB_at 589 (by decide +kernel) rfl, TB_at 590 (by decide +kernel) rfl, TB_at 591 (by decide +kernel) rfl, TX7, 17, rfl⟩
theorem mv_L_29 : MV RL 29 mi_X6_merge 6 2 := ⟨mc_X6_merge, TB_at 369 (by decide +kernel) rfl, TB_at 370 (by decide +kernel) rfl, TB_at 371 (by decide +kernel) rfl, TX6, 2, rfl⟩
theorem mv_L_33 : MV RL 33 mi_X7_merge 7 2 := ⟨mc_X7_merge, TB_at 594 (by decide +kernel) rfl, TB_at 595 (by decide +kernel) rfl, TB_at 596 (by decide +kernel) rfl, TX7, 17, rfl⟩
theorem mv_L_34 : MV RL 34 mi_X6_told 6 2 := ⟨mc_X6_told, TB_at 398 (by decide +kernel) rfl, TB_at 399 (by decide +kernel) rfl, TB_at 400 (by decide +kernel) rfl, TX6, 2, rfl⟩
theorem mv_L_37 : MV RL 37 mi_X7_told 7 2 := ⟨mc_X7_told, TB_at 608 (by decide +kernel) rfl, TB_at 609 (by decide +kernel) rfl, TB_at 610 (by decide +kernel) rfl, TX7, 17, rfl⟩
theorem mv_L_38 : MV RL 38 mi_X6_span 6 3 := ⟨mc_X6_span, TB_at 402 (by decide +kernel) rfl, TB_at 403 (by decide +kernel) rfl, TB_at 404 (by decide +kernel) rfl, TX6, 2, rfl⟩
theorem mv_L_41 : MV RL 41 mi_X7_span 7 3 := ⟨mc_X7_span, TB_at 624 (by decide +kernel) rfl, TB_at 625 (by decide +kernel) rfl, TB_at 626 (by decide +kernel) rfl, TX7, 17, rfl⟩
theorem mv_L_42 : MV RL 42 mi_X6_slot 6 3 := ⟨mc_X6_slot, TB_at 406 (by decide +kernel) rfl, TB_at 407 (by decide +kernel) rfl, TB_at 408 (by decide +kernel) rfl, TX6, 2, rfl⟩
theorem mv_L_45 : MV RL 45 mi_X7_slot 7 3 := ⟨mc_X7_slot, TB_at 628 (by decide +kernel) rfl, TB_at 629 (by decide +kernel) rfl, TB_at 630 (by decide +kernel) rfl, TX7, 17, rfl⟩
theorem mv_L_46 : MV RL 46 mi_X6_parts 6 2 := ⟨mc_X6_parts, TB_at 411 (by decide +kernel) rfl, TB_at 412 (by decide +kernel) rfl, TB_at 413 (by decide +kernel) rfl, TX6, 2, rfl⟩
theorem mv_L_49 : MV RL 49 mi_X7_parts 7 2 := ⟨mc_X7_parts, TB_at 632 (by decide +kernel) rfl, TB_at 633 (by decide +kernel) rfl, TB_at 634 (by decide +kernel) rfl, TX7, 17, rfl⟩
theorem mv_L_50 : MV RL 50 mi_X6_part 6 3 := ⟨mc_X6_part, TB_at 419 (by decide +kernel) rfl, TB_at 420 (by decide +kernel) rfl, TB_at 421 (by decide +kernel) rfl, TX6, 2, rfl⟩
theorem mv_L_53 : MV RL 53 mi_X7_part 7 3 := ⟨mc_X7_part, TB_at 636 (by decide +kernel) rfl, TB_at 637 (by decide +kernel) rfl, TB_at 638 (by decide +kernel) rfl, TX7, 17, rfl⟩
theorem mv_L_54 : MV RL 54 mi_X6_tree 6 3 := ⟨mc_X6_tree, TB_at 427 (by decide +kernel) rfl, TB_at 428 (by decide +kernel) rfl, TB_at 429 (by decide +kernel) rfl, TX6, 2, rfl⟩
theorem mv_L_57 : MV RL 57 mi_X7_tree 7 3 := ⟨mc_X7_tree, TB_at 640 (by decide +kernel) rfl, TB_at 641 (by decide +kernel) rfl, TB_at 642 (by decide +kernel) rfl, TX7, 17, rfl⟩
theorem mv_L_58 : MV RL 58 mi_X6_since 6 3 := ⟨mc_X6_since, TB_at 433 (by decide +kernel) rfl, TB_at 434 (by decide +kernel) rfl, TB_at 435 (by decide +kernel) rfl, TX6, 2, rfl⟩
theorem mv_L_61 : MV RL 61 mi_X7_since 7 3 := ⟨mc_X7_since, TB_at 644 (by decide +kernel) rfl, TB_at 645 (by decide +kernel) rfl, TB_at 646 (by decide +kernel) rfl, TX7, 17, rfl⟩
theorem mv_L_62 : MV RL 62 mi_X6_far 6 3 := ⟨mc_X6_far, TB_at 438 (by decide +kernel) rfl, TB_at 439 (by decide +kernel) rfl, TB_at 440 (by decide +kernel) rfl, TX6, 2, rfl⟩
theorem mv_L_65 : MV RL 65 mi_X7_far 7 3 := ⟨mc_X7_far, TB_at 648 (by decide +kernel) rfl, TB_at 649 (by decide +kernel) rfl, TB_at 650 (by decide +kernel) rfl, TX7, 17, rfl⟩
theorem mv_L_66 : MV RL 66 mi_X6_kept 6 3 := ⟨mc_X6_kept, TB_at 443 (by decide +kernel) rfl, TB_at 444 (by decide +kernel) rfl, TB_at 445 (by decide +kernel) rfl, TX6, 2, rfl⟩
theorem mv_L_69 : MV RL 69 mi_X7_kept 7 3 := ⟨mc_X7_kept, TB_at 652 (by decide +kernel) rfl, TB_at 653 (by decide +kernel) rfl, TB_at 654 (by decide +kernel) rfl, TX7, 17, rfl⟩
theorem mv_L_70 : MV RL 70 mi_X6_mate 6 2 := ⟨mc_X6_mate, TB_at 447 (by decide +kernel) rfl, TB_at 448 (by decide +kernel) rfl, TB_at 449 (by decide +kernel) rfl, TX6, 2, rfl⟩
theorem mv_L_73 : MV RL 73 mi_X7_mate 7 2 := ⟨mc_X7_mate, TB_at 656 (by decide +kernel) rfl, TB_at 657 (by decide +kernel) rfl, TB_at 658 (by decide +kernel) rfl, TX7, 17, rfl⟩
theorem mv_L_74 : MV RL 74 mi_X6_sum 6 4 := ⟨mc_X6_sum, TB_at 451 (by decide +kernel) rfl, TB_at 452 (by decide +kernel) rfl, TB_at 453 (by decide +kernel) rfl, TX6, 2, rfl⟩
theorem mv_L_78 : MV RL 78 mi_X7_sum 7 4 := ⟨mc_X7_sum, TB_at 660 (by decide +kernel) rfl, TB_at 661 (by decide +kernel) rfl, TB_at 662 (by decide +kernel) rfl, TX7, 17, rfl⟩
theorem mv_L_79 : MV RL 79 mi_X6_out 6 2 := ⟨mc_X6_out, TB_at 456 (by decide +kernel) rfl, TB_at 457 (by decide +kernel) rfl, TB_at 458 (by decide +kernel) rfl, TX6, 2, rfl⟩
theorem mv_L_83 : MV RL 83 mi_X7_out 7 2 := ⟨mc_X7_out, TB_at 664 (by decide +kernel) rfl, TB_at 665 (by decide +kernel) rfl, TB_at 666 (by decide +kernel) rfl, TX7, 17, rfl⟩
theorem mv_L_84 : MV RL 84 mi_X6_level 6 0 := ⟨mc_X6_level, TB_at 475 (by decide +kernel) rfl, TB_at 476 (by decide +kernel) rfl, TB_at 477 (by decide +kernel) rfl, TX6, 2, rfl⟩
theorem mv_L_88 : MV RL 88 mi_X7_level 7 0 := ⟨mc_X7_level, TB_at 677 (by decide +kernel) rfl, TB_at 678 (by decide +kernel) rfl, TB_at 679 (by decide +kernel) rfl, TX7, 17, rfl⟩
theorem mv_L_89 : MV RL 89 mi_X6_same 6 2 := ⟨mc_X6_same, TB_at 479 (by decide +kernel) rfl, TB_at 480 (by decide +kernel) rfl, TB_at 481 (by decide +kernel) rfl, TX6, 2, rfl⟩
theorem mv_L_92 : MV RL 92 mi_X7_same 7 2 := ⟨mc_X7_same, TB_at 681 (by decide +kernel) rfl, TB_at 682 (by decide +kernel) rfl, TB_at 683 (by decide +kernel) rfl, TX7, 17, rfl⟩
theorem cn_X0_41 : Cond.constantLong RX0 41 (1000000000) ∈ TB := TB_at 381 (by decide +kernel) rfl
theorem cn_X3_48 : Cond.constantLong RX3 48 (-1) ∈ TB := TB_at 468 (by decide +kernel) rfl
theorem cn_X3_61 : Cond.constantLong RX3 61 (-7046029254386353131) ∈ TB := TB_at 351 (by decide +kernel) rfl
theorem cn_X3_63 : Cond.constantLong RX3 63 (-4658895280553007687) ∈ TB := TB_at 352 (by decide +kernel) rfl
theorem cn_X3_65 : Cond.constantLong RX3 65 (-7723592293110705685) ∈ TB := TB_at 353 (by decide +kernel) rfl
theorem cn_X5_54 : Cond.constantLong RX5 54 (-1) ∈ TB := TB_at 336 (by decide +kernel) rfl
theorem cn_L_13 : Cond.constantLong RL 13 (4294967295) ∈ TB := TB_at 685 (by decide +kernel) rfl
theorem cn_X7_91 : Cond.constantLong RX7 91 (-7046029254386353131) ∈ TB := TB_at 586 (by decide +kernel) rfl
theorem cn_X7_93 : Cond.constantLong RX7 93 (-4658895280553007687) ∈ TB := TB_at 587 (by decide +kernel) rfl
theorem cn_X7_95 : Cond.constantLong RX7 95 (-7723592293110705685) ∈ TB := TB_at 588 (by decide +kernel) rfl
theorem cn_X7_97 : Cond.constantLong RX7 97 (64) ∈ TB := TB_at 581 (by decide +kernel) rfl
theorem cn_X7_103 : Cond.constantLong RX7 103 (-1) ∈ TB := TB_at 593 (by decide +kernel) rfl
theorem cn_X7_108 : Cond.constant RX7 108 (1000000000) ∈ TB := TB_at 602 (by decide +kernel) rfl
theorem cn_X7_113 : Cond.constantLong RX7 113 (1000000000) ∈ TB := TB_at 607 (by decide +kernel) rfl
theorem cn_X7_128 : Cond.constantLong RX7 128 (4096) ∈ TB := TB_at 672 (by decide +kernel) rfl
end
section
/-! the JDK's Math.max, Math.min, System.arraycopy: rows of the kit -/
theorem mth_max : Cond.code Lib.Math.max.name Lib.Math.max.code 2 (some .int) ∈ TB := TB_at 276 (by decide +kernel) rfl
theorem mth_min : Cond.code Lib.Math.min.name Lib.Math.min.code 2 (some .int) ∈ TB := TB_at 273 (by decide +kernel) rfl
theorem mth_smax : Cond.static Lib.Math.max.name ∈ TB := TB_at 275 (by decide +kernel) rfl
theorem mth_smin : Cond.static Lib.Math.min.name ∈ TB := TB_at 272 (by decide +kernel) rfl
theorem mth_ini : Cond.initialized "java/lang/Math" ∈ TB := TB_at 36 (by decide +kernel) rfl
theorem sys_ini : Cond.initialized "java/lang/System" ∈ TB := TB_at 37 (by decide +kernel) rfl
theorem sys_nat : Cond.native arraycopyName ∈ TB := TB_at 393 (by decide +kernel) rfl
theorem sys_sta : Cond.static arraycopyName ∈ TB := TB_at 392 (by decide +kernel) rfl
theorem sys_lnk : Cond.methodLink RX0 47 arraycopyName ∈ TB := TB_at 391 (by decide +kernel) rfl
theorem mm_X6_46 : Cond.methodLink RX6 46 Lib.Math.min.name ∈ TB := TB_at 366 (by decide +kernel) rfl
theorem mm_X6_51 : Cond.methodLink RX6 51 Lib.Math.max.name ∈ TB := TB_at 367 (by decide +kernel) rfl
theorem mm_X0_61 : Cond.methodLink RX0 61 Lib.Math.max.name ∈ TB := TB_at 285 (by decide +kernel) rfl
theorem mm_X1_52 : Cond.methodLink RX1 52 Lib.Math.max.name ∈ TB := TB_at 312 (by decide +kernel) rfl
theorem mm_X1_57 : Cond.methodLink RX1 57 Lib.Math.min.name ∈ TB := TB_at 313 (by decide +kernel) rfl
theorem mm_X4_77 : Cond.methodLink RX4 77 Lib.Math.min.name ∈ TB := TB_at 271 (by decide +kernel) rfl
theorem mm_X4_83 : Cond.methodLink RX4 83 Lib.Math.max.name ∈ TB := TB_at 274 (by decide +kernel) rfl
theorem G_mmax {D : DD} {X : MX} {A : Nat → Prop} {own : String} {cc : ByteArray} {nL kc ks : Nat} {R : Room} {Q : State → Prop} {ad : Nat → Nat} {pc : Nat} {lv : List (Option Value)} {st : List Value} {cs : List va_E} (M : CX D X A own cc nL R) {i : Nat} {x y : Int32} (d : decode cc pc = .ok (.invokestatic i, 3)) (hl : Cond.methodLink own i Lib.Math.max.name ∈ TB) (hlv : lv.length = nL) (hf : 1 ≤ R.frames) (hlo : (st.map fun v => v.category).sum + 13 ≤ R.locals) (hc : kc ≤ R.cells) (hs : ks ≤ R.slots) (k : G D X A kc ks Q ad (pc + 3) lv (.int (if x < y then y else x) :: st) cs) : G D X A kc ks Q ad pc lv (.int y :: .int x :: st) cs := fun ls H locs hL hP hD hS => va_mmax M.1 M.2.1 (M.2.2.1.trans (hlv.symm.trans hL.1.symm)) M.2.2.2.1 (M.2.2.2.2.1 _ hl) (M.2.2.2.2.1 _ mth_smax) (M.2.2.2.2.1 _ mth_ini) (M.2.2.2.2.1 _ mth_max) (by rw [M.2.2.2.2.2.2.2.2]; exact hf) (by rw [M.2.2.2.2.2.2.2.2]; exact hlo) (by rw [M.2.2.2.2.2.2.2.2]; exact hc) (by rw [M.2.2.2.2.2.2.2.2]; exact hs) d (k ls H locs hL hP hD hS)
theorem G_mmin {D : DD} {X : MX} {A : Nat → Prop} {own : String} {cc : ByteArray} {nL kc ks : Nat} {R : Room} {Q : State → Prop} {ad : Nat → Nat} {pc : Nat} {lv : List (Option Value)} {st : List Value} {cs : List va_E} (M : CX D X A own cc nL R) {i : Nat} {x y : Int32} (d : decode cc pc = .ok (.invokestatic i, 3)) (hl : Cond.methodLink own i Lib.Math.min.name ∈ TB) (hlv : lv.length = nL) (hf : 1 ≤ R.frames) (hlo : (st.map fun v => v.category).sum + 13 ≤ R.locals) (hc : kc ≤ R.cells) (hs : ks ≤ R.slots) (k : G D X A kc ks Q ad (pc + 3) lv (.int (if y < x then y else x) :: st) cs) : G D X A kc ks Q ad pc lv (.int y :: .int x :: st) cs := fun ls H locs hL hP hD hS => va_mmin M.1 M.2.1 (M.2.2.1.trans (hlv.symm.trans hL.1.symm)) M.2.2.2.1 (M.2.2.2.2.1 _ hl) (M.2.2.2.2.1 _ mth_smin) (M.2.2.2.2.1 _ mth_ini) (M.2.2.2.2.1 _ mth_min) (by rw [M.2.2.2.2.2.2.2.2]; exact hf) (by rw [M.2.2.2.2.2.2.2.2]; exact hlo) (by rw [M.2.2.2.2.2.2.2.2]; exact hc) (by rw [M.2.2.2.2.2.2.2.2]; exact hs) d (k ls H locs hL hP hD hS)
theorem G_copyi {D : DD} {X : MX} {A : Nat → Prop} {own : String} {cc : ByteArray} {nL kc ks : Nat} {R : Room} {Q : State → Prop} {ad : Nat → Nat} {pc : Nat} {lv : List (Option Value)} {st : List Value} {cs : List va_E} (M : CX D X A own cc nL R) {i a0 a1 n0 n1 : Nat} {f g : Nat → Int32} {sp dp n : Int32} (d : decode cc pc = .ok (.invokestatic i, 3)) (hl : Cond.methodLink own i arraycopyName ∈ TB) (hc0 : gt cs a0 = some (ia D n0 f)) (hc1 : gt cs a1 = some (ia D n1 g)) (h1 : ¬ sp < 0) (h2 : ¬ dp < 0) (h3 : ¬ n < 0) (h4 : sp.toNatClampNeg + n.toNatClampNeg ≤ n0) (h5 : dp.toNatClampNeg + n.toNatClampNeg ≤ n1) (hlv : lv.length = nL) (hf : 1 ≤ R.frames) (hlo : (st.map fun v => v.category).sum + (nativeFrameWords "java/lang/System" "arraycopy" 5 + 11) ≤ R.locals)
    (k : G D X A kc ks Q ad (pc + 3) lv st (cs.set a1 (ia D n1 (va_cpy f g sp.toNatClampNeg dp.toNatClampNeg n.toNatClampNeg)))) : G D X A kc ks Q ad pc lv (.int n :: .int dp :: .ref (ad a1) :: .int sp :: .ref (ad a0) :: st) cs := fun ls H locs hL hP hD hS => by
  refine va_copyi M.1 M.2.1 (M.2.2.1.trans (hlv.symm.trans hL.1.symm)) M.2.2.2.1 (M.2.2.2.2.1 _ hl) (M.2.2.2.2.1 _ sys_nat) (M.2.2.2.2.1 _ sys_sta) (M.2.2.2.2.1 _ sys_ini) M.2.2.2.2.2.1 hP hD hS a0 a1 0 0 (wsO_at hc0) (wsO_at hc1) rfl rfl rfl h1 h2 h3 h4 h5 (fun _ _ => rfl) (by rw [M.2.2.2.2.2.2.2.2]; exact hf) (by rw [M.2.2.2.2.2.2.2.2]; exact hlo) d (fun H1 locs1 hP1 hD1 hS1 => ?_)
  rw [wsO_set] at hP1 hD1
  exact k ls H1 locs1 hL hP1 hD1 hS1
end
section
/-! leaves: static methods without cells -/
def bz (b : Bool) : Int32 := bif b then 1 else 0
theorem bz_nar (b : Bool) : narrow .boolean (.int (bz b)) = .int (bz b) := by cases b <;> rfl
/-- the bit that holds(set, node) looks at -/
def hb (set : Int64) (node : Int32) : Bool := decide (((set.toUInt64 >>> (node.toInt64.toUInt64 &&& Int64.toUInt64 63)).toInt64 &&& 1) = 1)
theorem c_holds (D : DD) (l : Launch) (ad : Nat → Nat) (set : Int64) (node : Int32) : Ct D l mi_X6_holds [.long set, .int node] ad [] (fun v c => v = some (.int (bz (hb set node))) ∧ c = []) := by
  refine Ct.of (by decide +kernel) (Nat.le_of_ble_eq_true rfl) (fun X A hX M hr => ?_)
  subst hX
  refine G_lload_n (pc := 0) M dX6_holds_0 rfl ?_
  refine G_iload_n (pc := 1) M dX6_holds_1 rfl ?_
  refine G_lushr (pc := 2) M dX6_holds_2 ?_
  refine G_lconst (pc := 3) (v := 1) M dX6_holds_3 (by decide +kernel) ?_
  refine G_land (pc := 4) M dX6_holds_4 ?_
  refine G_lconst (pc := 5) (v := 1) M dX6_holds_5 (by decide +kernel) ?_
  refine G_lcmp (pc := 6) M dX6_holds_6 ?_
  refine G_if_ne (pc := 7) M 14 dX6_holds_7 (by decide) (fun h => ?_) (fun h => ?_)
  · refine G_iconst (pc := 14) (v := 0) M dX6_holds_14 (by decide +kernel) ?_
    have e : hb set node = false := decide_eq_false (fun q => h ((lg_cmp_eq _ _).mpr q))
    exact G_zret M hr dX6_holds_15 rfl rfl ⟨by rw [e]; rfl, rfl⟩
  · refine G_iconst (pc := 10) (v := 1) M dX6_holds_10 (by decide +kernel) ?_
    refine G_goto (pc := 11) M 15 dX6_holds_11 (by decide) ?_
    have e : hb set node = true := decide_eq_true ((lg_cmp_eq _ _).mp h)
    exact G_zret M hr dX6_holds_15 rfl rfl ⟨by rw [e]; rfl, rfl⟩
theorem c_keyOf (D : DD) (l : Launch) (ad : Nat → Nat) (x y : Int32) : Ct D l mi_X6_keyOf [.int x, .int y] ad [] (fun v c => v = some (.int (64 * x + y)) ∧ c = []) := by
  refine Ct.of (by decide +kernel) (Nat.le_of_ble_eq_true rfl) (fun X A hX M hr => ?_)
  subst hX
  refine G_bipush (pc := 0) (v := 64) M dX6_keyOf_0 (by decide +kernel) ?_
  refine G_iload_n (pc := 2) M dX6_keyOf_2 rfl ?_
  refine G_imul (pc := 3) M dX6_keyOf_3 ?_
  refine G_iload_n (pc := 4) M dX6_keyOf_4 rfl ?_
  refine G_iadd (pc := 5) M dX6_keyOf_5 ?_
  exact G_iret M hr dX6_keyOf_6 rfl ⟨rfl, rfl⟩
theorem c_lesserNode (D : DD) (l : Launch) (ad : Nat → Nat) (x : Int32) : Ct D l mi_X6_lesserNode [.int x] ad [] (fun v c => v = some (.int (x / 64)) ∧ c = []) := by
  refine Ct.of (by decide +kernel) (Nat.le_of_ble_eq_true rfl) (fun X A hX M hr => ?_)
  subst hX
  refine G_iload_n (pc := 0) M dX6_lesserNode_0 rfl ?_
  refine G_bipush (pc := 1) (v := 64) M dX6_lesserNode_1 (by decide +kernel) ?_
  refine G_idiv (pc := 3) M dX6_lesserNode_3 (by decide +kernel) ?_
  exact G_iret M hr dX6_lesserNode_4 rfl ⟨rfl, rfl⟩
theorem c_greaterNode (D : DD) (l : Launch) (ad : Nat → Nat) (x : Int32) : Ct D l mi_X6_greaterNode [.int x] ad [] (fun v c => v = some (.int (x - x / 64 * 64)) ∧ c = []) := by
  refine Ct.of (by decide +kernel) (Nat.le_of_ble_eq_true rfl) (fun X A hX M hr => ?_)
  subst hX
  refine G_iload_n (pc := 0) M dX6_greaterNode_0 rfl ?_
  refine G_bipush (pc := 1) (v := 64) M dX6_greaterNode_1 (by decide +kernel) ?_
  refine G_irem (pc := 3) M dX6_greaterNode_3 (by decide +kernel) ?_
  exact G_iret M hr dX6_greaterNode_4 rfl ⟨rfl, rfl⟩
theorem c_placeOf (D : DD) (l : Launch) (ad : Nat → Nat) (x y : Int32) : Ct D l mi_X3_placeOf [.int x, .int y] ad [] (fun v c => v = some (.int ((x * 10 + y) * 3)) ∧ c = []) := by
  refine Ct.of (by decide +kernel) (Nat.le_of_ble_eq_true rfl) (fun X A hX M hr => ?_)
  subst hX
  refine G_iload_n (pc := 0) M dX3_placeOf_0 rfl ?_
  refine G_bipush (pc := 1) (v := 10) M dX3_placeOf_1 (by decide +kernel) ?_
  refine G_imul (pc := 3) M dX3_placeOf_3 ?_
  refine G_iload_n (pc := 4) M dX3_placeOf_4 rfl ?_
  refine G_iadd (pc := 5) M dX3_placeOf_5 ?_
  refine G_iconst (pc := 6) (v := 3) M dX3_placeOf_6 (by decide +kernel) ?_
  refine G_imul (pc := 7) M dX3_placeOf_7 ?_
  exact G_iret M hr dX3_placeOf_8 rfl ⟨rfl, rfl⟩
end
section
/-! bits of longs -/
def bt (z : Int64) (n : Nat) : Bool := z.toBitVec.getLsbD n
theorem and1 (x : Int64) : (x &&& 1) = bif x.toBitVec.getLsbD 0 then 1 else 0 := by
  apply Int64.toBitVec_inj.mp
  rw [Int64.toBitVec_and]
  show x.toBitVec &&& 1#64 = _
  rw [BitVec.and_one_eq_setWidth_ofBool_getLsbD]
  cases x.toBitVec.getLsbD 0 <;> rfl
theorem sh_u : ∀ n, n < 64 → ((nI n).toInt64.toUInt64 &&& Int64.toUInt64 63) = UInt64.ofNat n := by decide +kernel
theorem sh_s : ∀ n, n < 64 → ((nI n).toInt64 &&& 63) = Int64.ofNat n := by decide +kernel
theorem sh_m : ∀ n, n < 64 → ((Int64.ofNat n).toBitVec.smod 64).toNat = n := by decide +kernel
theorem ushr0 (z : Int64) {n : Nat} (hn : n < 64) : ((z.toUInt64 >>> ((nI n).toInt64.toUInt64 &&& Int64.toUInt64 63)).toInt64).toBitVec.getLsbD 0 = bt z n := by
  rw [sh_u n hn]
  show (z.toBitVec >>> ((UInt64.ofNat n).toBitVec % 64)).getLsbD 0 = _
  rw [BitVec.ushiftRight_eq', BitVec.getLsbD_ushiftRight]
  have : ((UInt64.ofNat n).toBitVec % 64).toNat = n := by
    show (BitVec.ofNat 64 n % 64#64).toNat = n
    rw [BitVec.toNat_umod, BitVec.toNat_ofNat, BitVec.toNat_ofNat, Nat.mod_eq_of_lt (show n < 2 ^ 64 by omega)]
    exact Nat.mod_eq_of_lt hn
  rw [this]
  rfl
theorem sshr0 (z : Int64) {n : Nat} (hn : n < 64) : (z >>> ((nI n).toInt64 &&& 63)).toBitVec.getLsbD 0 = bt z n := by
  rw [sh_s n hn]
  show (z.toBitVec.sshiftRight' ((Int64.ofNat n).toBitVec.smod 64)).getLsbD 0 = _
  rw [BitVec.sshiftRight', BitVec.getLsbD_sshiftRight, sh_m n hn]
  simp [bt, hn]
theorem hb_bt (z : Int64) {n : Nat} (hn : n < 64) : hb z (nI n) = bt z n := by
  unfold hb
  rw [and1, ushr0 z hn]
  cases bt z n <;> decide
theorem sb_bt (z : Int64) {n : Nat} (hn : n < 64) : ((z >>> ((nI n).toInt64 &&& 63)) &&& 1) = bif bt z n then 1 else 0 := by rw [and1, sshr0 z hn]
theorem bif0 {b : Bool} : (bif b then (1 : Int64) else 0) = 0 ↔ b = false := by cases b <;> decide
theorem bif1 {b : Bool} : (bif b then (1 : Int64) else 0) = 1 ↔ b = true := by cases b <;> decide
/-- the level search from bit 9 - m on -/
def lvF (z : Int64) : Nat → Nat
  | 0 => 9
  | m + 1 => bif bt z (9 - (m + 1)) then 9 - (m + 1) else lvF z m
theorem lvF_le (z : Int64) : ∀ m, lvF z m ≤ 9
  | 0 => Nat.le_refl 9
  | m + 1 => by
    simp only [lvF]
    cases bt z (9 - (m + 1)) with
    | true => simp only [cond_true]; omega
    | false => exact lvF_le z m
def mixZ (seed key : Int64) : Int64 :=
  let z1 := seed + (key + 1) * (-7046029254386353131)
  let z2 := (z1 ^^^ (z1.toUInt64 >>> ((30 : Int32).toInt64.toUInt64 &&& Int64.toUInt64 63)).toInt64) * (-4658895280553007687)
  let z3 := (z2 ^^^ (z2.toUInt64 >>> ((27 : Int32).toInt64.toUInt64 &&& Int64.toUInt64 63)).toInt64) * (-7723592293110705685)
  z3 ^^^ (z3.toUInt64 >>> ((31 : Int32).toInt64.toUInt64 &&& Int64.toUInt64 63)).toInt64
def lvK (seed key : Int64) : Nat := lvF (mixZ seed key) 9
end
section
/-! the reference: streams, nodes, counters -/
theorem n64 : (64 : Int32) = nI 64 := rfl
theorem ixA (s a : Nat) : (64 : Int32) * nI s + nI a = nI (64 * s + a) := by rw [n64, pk_mul, nI_add]
theorem cl_nI {n : Nat} (h : n < 2 ^ 31) : (nI n).toNatClampNeg = n := nI_clamp h
def okS (s : Int32) : Bool := !decide (s < 0) && !decide (3 ≤ s)
theorem okS_nI {s : Nat} (h : s < 3) : okS (nI s) = true := by
  have h1 := nI_pos (n := s) (by omega)
  have h2 : ¬ (3 : Int32) ≤ nI s := nI_ge (b := 3) h (by omega)
  simp [okS, h1, h2]
theorem okS_of {s : Int32} (h : okS s = true) : ∃ k : Nat, k < 3 ∧ s = nI k := by
  simp [okS] at h
  obtain ⟨j, hj, e⟩ := nI_of2 (M := 2) (n := 2) rfl (Int32.not_lt.mpr h.1) (by
    have := Int32.lt_iff_toInt_lt.mp h.2
    rw [Int32.le_iff_toInt_le]
    have e3 : (3 : Int32).toInt = 3 := rfl
    have e2 : (2 : Int32).toInt = 2 := rfl
    omega)
  exact ⟨j, by omega, e⟩
theorem c_isStream (D : DD) (l : Launch) (ad : Nat → Nat) (s : Int32) : Ct D l mi_X7_isStream [.int s] ad [] (fun v c => v = some (.int (bz (okS s))) ∧ c = []) := by
  refine Ct.of (by decide +kernel) (Nat.le_of_ble_eq_true rfl) (fun X A hX M hr => ?_)
  subst hX
  refine G_iload_n (pc := 0) M dX7_isStream_0 rfl ?_
  refine G_if_lt (pc := 1) M 13 dX7_isStream_1 (by decide) (fun h1 => ?_) (fun h1 => ?_)
  · refine G_iconst (pc := 13) (v := 0) M dX7_isStream_13 (by decide +kernel) ?_
    exact G_zret M hr dX7_isStream_14 rfl rfl ⟨by simp [okS, bz, *], rfl⟩
  · refine G_iload_n (pc := 4) M dX7_isStream_4 rfl ?_
    refine G_iconst (pc := 5) (v := 3) M dX7_isStream_5 (by decide +kernel) ?_
    refine G_icmp_ge (pc := 6) M 13 dX7_isStream_6 (by decide) (fun h6 => ?_) (fun h6 => ?_)
    · refine G_iconst (pc := 13) (v := 0) M dX7_isStream_13 (by decide +kernel) ?_
      exact G_zret M hr dX7_isStream_14 rfl rfl ⟨by simp [okS, bz, *], rfl⟩
    · refine G_iconst (pc := 9) (v := 1) M dX7_isStream_9 (by decide +kernel) ?_
      refine G_goto (pc := 10) M 14 dX7_isStream_10 (by decide) ?_
      exact G_zret M hr dX7_isStream_14 rfl rfl ⟨by simp [okS, bz, *], rfl⟩
theorem c_noStream (D : DD) (l : Launch) (ad : Nat → Nat) (s : Int32) : Ct D l mi_X6_noStream [.int s] ad [] (fun v c => v = some (.int (bz (!okS s))) ∧ c = []) := by
  refine Ct.of (by decide +kernel) (Nat.le_of_ble_eq_true rfl) (fun X A hX M hr => ?_)
  subst hX
  refine G_iload_n (pc := 0) M dX6_noStream_0 rfl ?_
  refine G_if_lt (pc := 1) M 9 dX6_noStream_1 (by decide) (fun h1 => ?_) (fun h1 => ?_)
  · refine G_iconst (pc := 9) (v := 1) M dX6_noStream_9 (by decide +kernel) ?_
    refine G_goto (pc := 10) M 14 dX6_noStream_10 (by decide) ?_
    exact G_zret M hr dX6_noStream_14 rfl rfl ⟨by simp [okS, bz, *], rfl⟩
  · refine G_iload_n (pc := 4) M dX6_noStream_4 rfl ?_
    refine G_iconst (pc := 5) (v := 3) M dX6_noStream_5 (by decide +kernel) ?_
    refine G_icmp_lt (pc := 6) M 13 dX6_noStream_6 (by decide) (fun h6 => ?_) (fun h6 => ?_)
    · have h6b := Int32.not_le.mpr h6
      refine G_iconst (pc := 13) (v := 0) M dX6_noStream_13 (by decide +kernel) ?_
      exact G_zret M hr dX6_noStream_14 rfl rfl ⟨by simp [okS, bz, *], rfl⟩
    · have h6b := Int32.not_lt.mp h6
      refine G_iconst (pc := 9) (v := 1) M dX6_noStream_9 (by decide +kernel) ?_
      refine G_goto (pc := 10) M 14 dX6_noStream_10 (by decide) ?_
      exact G_zret M hr dX6_noStream_14 rfl rfl ⟨by simp [okS, bz, *], rfl⟩
def okN (nd : Nat → Int32) (s a : Int32) : Bool := okS s && !decide (a < 0) && !decide (nd s.toNatClampNeg ≤ a)
theorem vp3 {s : Int32} (h : okS s = true) : vp_in s 3 := by
  obtain ⟨k, h1, rfl⟩ := okS_of h
  exact vp_in_nI h1 (by omega)
theorem bz0 {b : Bool} (h : bz b = 0) : b = false := by cases b <;> first | rfl | exact absurd h (by decide)
theorem bz1 {b : Bool} (h : ¬ bz b = 0) : b = true := by cases b <;> first | rfl | exact absurd rfl h
theorem c_isNode (D : DD) (l : Launch) (ad : Nat → Nat) (fs : List Value) (nd : Nat → Int32) (s a : Int32) (hf0 : gt fs 0 = some (.ref (ad 1))) : Ct D l mi_X7_isNode [.ref (ad 0), .int s, .int a] ad [ob 7 fs, ia D 3 nd] (fun v c => v = some (.int (bz (okN nd s a))) ∧ c = [ob 7 fs, ia D 3 nd]) := by
  refine Ct.of (by decide +kernel) (Nat.le_of_ble_eq_true rfl) (fun X A hX M hr => ?_)
  subst hX
  refine G_iload_n (pc := 0) M dX7_isNode_0 rfl ?_
  refine G_calls (pc := 1) M [] dX7_isNode_1 ms_X7_64 (c_isStream D _ (fun j => ad (pn [] j)) s) trivial rfl rfl rfl rfl (Nat.le_of_ble_eq_true rfl) (Nat.le_of_ble_eq_true rfl) (Nat.le_of_ble_eq_true rfl) ⟨Nat.zero_le _, Nat.zero_le _⟩ (fun v c1 hq hlen => ?_)
  obtain ⟨rfl, rfl⟩ := hq
  refine G_if_eq (pc := 4) M 25 dX7_isNode_4 (by decide) (fun h4 => ?_) (fun h4 => ?_)
  · have h4b := bz0 h4
    refine G_iconst (pc := 25) (v := 0) M dX7_isNode_25 (by decide +kernel) ?_
    exact G_zret M hr dX7_isNode_26 rfl rfl ⟨by simp [okN, bz, *], rfl⟩
  · have h4b := bz1 h4
    refine G_iload_n (pc := 7) M dX7_isNode_7 rfl ?_
    refine G_if_lt (pc := 8) M 25 dX7_isNode_8 (by decide) (fun h8 => ?_) (fun h8 => ?_)
    · refine G_iconst (pc := 25) (v := 0) M dX7_isNode_25 (by decide +kernel) ?_
      exact G_zret M hr dX7_isNode_26 rfl rfl ⟨by simp [okN, bz, *], rfl⟩
    · refine G_iload_n (pc := 11) M dX7_isNode_11 rfl ?_
      refine G_aload_n (pc := 12) M dX7_isNode_12 rfl ?_
      refine G_getf (pc := 13) M dX7_isNode_13 fl_X7_7 rfl (by first | rfl | assumption) ?_
      refine G_iload_n (pc := 16) M dX7_isNode_16 rfl ?_
      refine G_iaload (pc := 17) M dX7_isNode_17 rfl (vp3 (bz1 h4)) ?_
      refine G_icmp_ge (pc := 18) M 25 dX7_isNode_18 (by decide) (fun h18 => ?_) (fun h18 => ?_)
      · refine G_iconst (pc := 25) (v := 0) M dX7_isNode_25 (by decide +kernel) ?_
        exact G_zret M hr dX7_isNode_26 rfl rfl ⟨by simp [okN, bz, *], rfl⟩
      · refine G_iconst (pc := 21) (v := 1) M dX7_isNode_21 (by decide +kernel) ?_
        refine G_goto (pc := 22) M 26 dX7_isNode_22 (by decide) ?_
        exact G_zret M hr dX7_isNode_26 rfl rfl ⟨by simp [okN, bz, *], rfl⟩
/-- how many of the first k are above 0 -/
def cntP (f : Nat → Int32) : Nat → Nat
  | 0 => 0
  | k + 1 => cntP f k + (if 0 < f k then 1 else 0)
theorem cntP_le (f : Nat → Int32) : ∀ k, cntP f k ≤ k
  | 0 => Nat.le_refl 0
  | k + 1 => by
    have := cntP_le f k
    simp only [cntP]
    split <;> omega
theorem taken_loop {D : DD} {X : MX} {A : Nat → Prop} (M : CX D X A mi_X7_taken.1.cls mi_X7_taken.2.1 mi_X7_taken.2.2.1 (miR mi_X7_taken)) (hr : RT X mi_X7_taken.2.2.2.1) {ad : Nat → Nat} {fs : List Value} {ct : Nat → Int32} {s : Nat} (hs : s < 3) (hf8 : gt fs 8 = some (.ref (ad 1))) : ∀ m k : Nat, k ≤ 64 → 64 - k < m →
    G D X A 0 0 (GQ D X A ad 2 (fun v c => v = some (.int (nI (cntP (fun a => ct (64 * s + a)) 64))) ∧ c = [ob 7 fs, ia D 192 ct])) ad 4 [some (.ref (ad 0)), some (.int (nI s)), some (.int (nI (cntP (fun a => ct (64 * s + a)) k))), some (.int (nI k))] [] [ob 7 fs, ia D 192 ct] := by
  intro m
  induction m with
  | zero => intro k _ h; omega
  | succ m ih =>
    intro k hk hm
    refine G_iload_n (pc := 4) M dX7_taken_4 rfl ?_
    refine G_bipush (pc := 5) (v := 64) M dX7_taken_5 (by decide +kernel) ?_
    refine G_icmp_ge (pc := 7) M 38 dX7_taken_7 (by decide) (fun h7 => ?_) (fun h7 => ?_)
    · have hk64 : k = 64 := by
        have := (nI_leI (a := 64) (b := k) (by omega) (by omega)).mp h7
        omega
      subst hk64
      refine G_iload_n (pc := 38) M dX7_taken_38 rfl ?_
      exact G_iret M hr dX7_taken_39 rfl ⟨rfl, rfl⟩
    · have hk64 : k < 64 := Nat.lt_of_not_le (fun q => h7 (nI_le q (by omega)))
      refine G_iload_n (pc := 10) M dX7_taken_10 rfl ?_
      refine G_aload_n (pc := 11) M dX7_taken_11 rfl ?_
      refine G_getf (pc := 12) M dX7_taken_12 fl_X7_35 rfl (by first | rfl | assumption) ?_
      refine G_bipush (pc := 15) (v := 64) M dX7_taken_15 (by decide +kernel) ?_
      refine G_iload_n (pc := 17) M dX7_taken_17 rfl ?_
      refine G_imul (pc := 18) M dX7_taken_18 ?_
      refine G_iload_n (pc := 19) M dX7_taken_19 rfl ?_
      refine G_iadd (pc := 20) M dX7_taken_20 ?_
      rw [ixA]
      refine G_iaload (pc := 21) M dX7_taken_21 rfl (by first | assumption | exact vp_in_nI (by omega) (by omega)) ?_
      rw [cl_nI (by omega)]
      refine G_if_le (pc := 22) M 29 dX7_taken_22 (by decide) (fun h22 => ?_) (fun h22 => ?_)
      · have e : cntP (fun a => ct (64 * s + a)) (k + 1) = cntP (fun a => ct (64 * s + a)) k + 0 := by simp [cntP]; simpa using h22
        refine G_iconst (pc := 29) (v := 0) M dX7_taken_29 (by decide +kernel) ?_
        refine G_iadd (pc := 30) M dX7_taken_30 ?_
        refine G_istore_n (pc := 31) M dX7_taken_31 (Nat.le_of_ble_eq_true rfl) ?_
        refine G_iinc (pc := 32) (v := 1) M dX7_taken_32 rfl (by decide +kernel) (Nat.le_of_ble_eq_true rfl) ?_
        refine G_goto (pc := 35) M 4 dX7_taken_35 (by decide) ?_
        have := ih (k + 1) (by omega) (by omega)
        rw [e, ← nI_add, ← nI_add k 1] at this
        exact this
      · have e : cntP (fun a => ct (64 * s + a)) (k + 1) = cntP (fun a => ct (64 * s + a)) k + 1 := by simp [cntP]; simpa using h22
        refine G_iconst (pc := 25) (v := 1) M dX7_taken_25 (by decide +kernel) ?_
        refine G_goto (pc := 26) M 30 dX7_taken_26 (by decide) ?_
        refine G_iadd (pc := 30) M dX7_taken_30 ?_
        refine G_istore_n (pc := 31) M dX7_taken_31 (Nat.le_of_ble_eq_true rfl) ?_
        refine G_iinc (pc := 32) (v := 1) M dX7_taken_32 rfl (by decide +kernel) (Nat.le_of_ble_eq_true rfl) ?_
        refine G_goto (pc := 35) M 4 dX7_taken_35 (by decide) ?_
        have := ih (k + 1) (by omega) (by omega)
        rw [e, ← nI_add, ← nI_add k 1] at this
        exact this
theorem c_taken (D : DD) (l : Launch) (ad : Nat → Nat) (fs : List Value) (ct : Nat → Int32) (s : Nat) (hs : s < 3) (hf8 : gt fs 8 = some (.ref (ad 1))) : Ct D l mi_X7_taken [.ref (ad 0), .int (nI s)] ad [ob 7 fs, ia D 192 ct] (fun v c => v = some (.int (nI (cntP (fun a => ct (64 * s + a)) 64))) ∧ c = [ob 7 fs, ia D 192 ct]) := by
  refine Ct.of (by decide +kernel) (Nat.le_of_ble_eq_true rfl) (fun X A hX M hr => ?_)
  subst hX
  refine G_iconst (pc := 0) (v := 0) M dX7_taken_0 (by decide +kernel) ?_
  refine G_istore_n (pc := 1) M dX7_taken_1 (Nat.le_of_ble_eq_true rfl) ?_
  refine G_iconst (pc := 2) (v := 0) M dX7_taken_2 (by decide +kernel) ?_
  refine G_istore_n (pc := 3) M dX7_taken_3 (Nat.le_of_ble_eq_true rfl) ?_
  exact taken_loop M hr hs hf8 65 0 (by omega) (by omega)
end
section
/-! the reference: less, count, pairs, isApart -/
def m0 (v : Int32) : Int32 := if v ≤ 0 then 0 else v
def lessF (ct : Nat → Int32) (s : Nat) (c : Int32) (k : Nat) : Nat → Int32 := fun j => if 64 * s ≤ j ∧ j < 64 * s + k then m0 (ct j - c) else ct j
theorem lessF_at (ct : Nat → Int32) (s : Nat) (c : Int32) (k : Nat) : lessF ct s c k (64 * s + k) = ct (64 * s + k) := by simp [lessF]
theorem lessF_0 (ct : Nat → Int32) (s : Nat) (c : Int32) : lessF ct s c 0 = ct := by
  funext j
  simp only [lessF]
  rw [if_neg (by omega)]
theorem lessF_step (ct : Nat → Int32) (s : Nat) (c : Int32) (k : Nat) : upd (lessF ct s c k) (64 * s + k) (m0 (ct (64 * s + k) - c)) = lessF ct s c (k + 1) := by
  funext j
  simp only [upd, lessF]
  by_cases h : j = 64 * s + k
  · subst h
    rw [if_pos rfl, if_pos (by omega)]
  · rw [if_neg h]
    by_cases h2 : 64 * s ≤ j ∧ j < 64 * s + k
    · rw [if_pos h2, if_pos (by omega)]
    · rw [if_neg h2, if_neg (by omega)]
theorem less_loop {D : DD} {X : MX} {A : Nat → Prop} (M : CX D X A mi_X7_less.1.cls mi_X7_less.2.1 mi_X7_less.2.2.1 (miR mi_X7_less)) (hr : RT X mi_X7_less.2.2.2.1) {ad : Nat → Nat} {fs : List Value} {lo ct : Nat → Int32} {s : Nat} {c : Int32} (hs : s < 3) (hf5 : gt fs 5 = some (.ref (ad 1))) (hf8 : gt fs 8 = some (.ref (ad 2))) : ∀ m k : Nat, k ≤ 64 → 64 - k < m → ∀ z : Option Value,
    G D X A 0 0 (GQ D X A ad 3 (fun v cs => v = none ∧ cs = [ob 7 fs, ia D 3 (upd lo s (lo s + c)), ia D 192 (lessF ct s c 64)])) ad 2 [some (.ref (ad 0)), some (.int (nI s)), some (.int c), some (.int (nI k)), z] [] [ob 7 fs, ia D 3 lo, ia D 192 (lessF ct s c k)] := by
  intro m
  induction m with
  | zero => intro k _ h; omega
  | succ m ih =>
    intro k hk hm z
    refine G_iload_n (pc := 2) M dX7_less_2 rfl ?_
    refine G_bipush (pc := 3) (v := 64) M dX7_less_3 (by decide +kernel) ?_
    refine G_icmp_ge (pc := 5) M 51 dX7_less_5 (by decide) (fun h5 => ?_) (fun h5 => ?_)
    · have hk64 : k = 64 := by
        have := (nI_leI (a := 64) (b := k) (by omega) (by omega)).mp h5
        omega
      subst hk64
      refine G_aload_n (pc := 51) M dX7_less_51 rfl ?_
      refine G_getf (pc := 52) M dX7_less_52 fl_X7_26 rfl (by first | rfl | assumption) ?_
      refine G_iload_n (pc := 55) M dX7_less_55 rfl ?_
      first | refine G_dup2 (pc := 56) M dX7_less_56 rfl rfl ?_ | refine G_dup2L (pc := 56) M dX7_less_56 rfl ?_
      refine G_iaload (pc := 57) M dX7_less_57 rfl (by first | assumption | exact vp_in_nI (by omega) (by omega)) ?_
      rw [cl_nI (by omega)]
      refine G_iload_n (pc := 58) M dX7_less_58 rfl ?_
      refine G_iadd (pc := 59) M dX7_less_59 ?_
      refine G_iastore (pc := 60) M dX7_less_60 rfl (by first | assumption | exact vp_in_nI (by omega) (by omega)) ?_
      rw [cl_nI (by omega)]
      exact G_vret M hr dX7_less_61 rfl ⟨rfl, rfl⟩
    · have hk64 : k < 64 := Nat.lt_of_not_le (fun q => h5 (nI_le q (by omega)))
      refine G_aload_n (pc := 8) M dX7_less_8 rfl ?_
      refine G_getf (pc := 9) M dX7_less_9 fl_X7_35 rfl (by first | rfl | assumption) ?_
      refine G_bipush (pc := 12) (v := 64) M dX7_less_12 (by decide +kernel) ?_
      refine G_iload_n (pc := 14) M dX7_less_14 rfl ?_
      refine G_imul (pc := 15) M dX7_less_15 ?_
      refine G_iload_n (pc := 16) M dX7_less_16 rfl ?_
      refine G_iadd (pc := 17) M dX7_less_17 ?_
      rw [ixA]
      refine G_iaload (pc := 18) M dX7_less_18 rfl (by first | assumption | exact vp_in_nI (by omega) (by omega)) ?_
      rw [cl_nI (by omega), lessF_at]
      refine G_iload_n (pc := 19) M dX7_less_19 rfl ?_
      refine G_isub (pc := 20) M dX7_less_20 ?_
      refine G_istore (pc := 21) M dX7_less_21 (Nat.le_of_ble_eq_true rfl) ?_
      refine G_aload_n (pc := 23) M dX7_less_23 rfl ?_
      refine G_getf (pc := 24) M dX7_less_24 fl_X7_35 rfl (by first | rfl | assumption) ?_
      refine G_bipush (pc := 27) (v := 64) M dX7_less_27 (by decide +kernel) ?_
      refine G_iload_n (pc := 29) M dX7_less_29 rfl ?_
      refine G_imul (pc := 30) M dX7_less_30 ?_
      refine G_iload_n (pc := 31) M dX7_less_31 rfl ?_
      refine G_iadd (pc := 32) M dX7_less_32 ?_
      refine G_iload (pc := 33) M dX7_less_33 rfl ?_
      refine G_if_le (pc := 35) M 43 dX7_less_35 (by decide) (fun h35 => ?_) (fun h35 => ?_)
      · have e : m0 (ct (64 * s + k) - c) = 0 := if_pos h35
        refine G_iconst (pc := 43) (v := 0) M dX7_less_43 (by decide +kernel) ?_
        rw [ixA]
        refine G_iastore (pc := 44) M dX7_less_44 rfl (by first | assumption | exact vp_in_nI (by omega) (by omega)) ?_
        rw [cl_nI (by omega), ← e]
        refine G_iinc (pc := 45) (v := 1) M dX7_less_45 rfl (by decide +kernel) (Nat.le_of_ble_eq_true rfl) ?_
        refine G_goto (pc := 48) M 2 dX7_less_48 (by decide) ?_
        have := ih (k + 1) (by omega) (by omega)
        rw [← lessF_step ct s c k, ← nI_1 k] at this
        exact this _
      · have e : m0 (ct (64 * s + k) - c) = ct (64 * s + k) - c := if_neg h35
        refine G_iload (pc := 38) M dX7_less_38 rfl ?_
        refine G_goto (pc := 40) M 44 dX7_less_40 (by decide) ?_
        rw [ixA]
        refine G_iastore (pc := 44) M dX7_less_44 rfl (by first | assumption | exact vp_in_nI (by omega) (by omega)) ?_
        rw [cl_nI (by omega), ← e]
        refine G_iinc (pc := 45) (v := 1) M dX7_less_45 rfl (by decide +kernel) (Nat.le_of_ble_eq_true rfl) ?_
        refine G_goto (pc := 48) M 2 dX7_less_48 (by decide) ?_
        have := ih (k + 1) (by omega) (by omega)
        rw [← lessF_step ct s c k, ← nI_1 k] at this
        exact this _
theorem c_less (D : DD) (l : Launch) (ad : Nat → Nat) (fs : List Value) (lo ct : Nat → Int32) (s : Nat) (c : Int32) (hs : s < 3) (hf5 : gt fs 5 = some (.ref (ad 1))) (hf8 : gt fs 8 = some (.ref (ad 2))) : Ct D l mi_X7_less [.ref (ad 0), .int (nI s), .int c] ad [ob 7 fs, ia D 3 lo, ia D 192 ct] (fun v cs => v = none ∧ cs = [ob 7 fs, ia D 3 (upd lo s (lo s + c)), ia D 192 (lessF ct s c 64)]) := by
  refine Ct.of (by decide +kernel) (Nat.le_of_ble_eq_true rfl) (fun X A hX M hr => ?_)
  subst hX
  refine G_iconst (pc := 0) (v := 0) M dX7_less_0 (by decide +kernel) ?_
  refine G_istore_n (pc := 1) M dX7_less_1 (Nat.le_of_ble_eq_true rfl) ?_
  have := less_loop M hr (c := c) (lo := lo) (ct := ct) hs hf5 hf8 65 0 (by omega) (by omega) none
  rw [lessF_0] at this
  exact this
/-- whether a node is counted by one more (else all are less) -/
def cntT (ct : Nat → Int32) (sl : Int32) (s a : Nat) : Bool := decide (0 < ct (64 * s + a)) || !decide (sl ≤ nI (cntP (fun a => ct (64 * s + a)) 64))
def cntC (ct : Nat → Int32) (sl : Int32) (s a : Nat) : Nat → Int32 := bif cntT ct sl s a then upd ct (64 * s + a) (ct (64 * s + a) + 1) else lessF ct s 1 64
def cntL (lo ct : Nat → Int32) (sl : Int32) (s a : Nat) : Nat → Int32 := bif cntT ct sl s a then lo else upd lo s (lo s + 1)
theorem c_count (D : DD) (l : Launch) (ad : Nat → Nat) (fs : List Value) (sl lo ct : Nat → Int32) (s a : Nat) (hs : s < 3) (ha : a < 64) (hf1 : gt fs 1 = some (.ref (ad 1))) (hf5 : gt fs 5 = some (.ref (ad 2))) (hf8 : gt fs 8 = some (.ref (ad 3))) : Ct D l mi_X7_count [.ref (ad 0), .int (nI s), .int (nI a)] ad [ob 7 fs, ia D 3 sl, ia D 3 lo, ia D 192 ct] (fun v cs => v = none ∧ cs = [ob 7 fs, ia D 3 sl, ia D 3 (cntL lo ct (sl s) s a), ia D 192 (cntC ct (sl s) s a)]) := by
  refine Ct.of (by decide +kernel) (Nat.le_of_ble_eq_true rfl) (fun X A hX M hr => ?_)
  subst hX
  refine G_aload_n (pc := 0) M dX7_count_0 rfl ?_
  refine G_getf (pc := 1) M dX7_count_1 fl_X7_35 rfl (by first | rfl | assumption) ?_
  refine G_bipush (pc := 4) (v := 64) M dX7_count_4 (by decide +kernel) ?_
  refine G_iload_n (pc := 6) M dX7_count_6 rfl ?_
  refine G_imul (pc := 7) M dX7_count_7 ?_
  refine G_iload_n (pc := 8) M dX7_count_8 rfl ?_
  refine G_iadd (pc := 9) M dX7_count_9 ?_
  rw [ixA]
  refine G_iaload (pc := 10) M dX7_count_10 rfl (by first | assumption | exact vp_in_nI (by omega) (by omega)) ?_
  rw [cl_nI (by omega)]
  refine G_if_gt (pc := 11) M 28 dX7_count_11 (by decide) (fun h11 => ?_) (fun h11 => ?_)
  · refine G_aload_n (pc := 28) M dX7_count_28 rfl ?_
    refine G_getf (pc := 29) M dX7_count_29 fl_X7_35 rfl (by first | rfl | assumption) ?_
    refine G_bipush (pc := 32) (v := 64) M dX7_count_32 (by decide +kernel) ?_
    refine G_iload_n (pc := 34) M dX7_count_34 rfl ?_
    refine G_imul (pc := 35) M dX7_count_35 ?_
    refine G_iload_n (pc := 36) M dX7_count_36 rfl ?_
    refine G_iadd (pc := 37) M dX7_count_37 ?_
    first | refine G_dup2 (pc := 38) M dX7_count_38 rfl rfl ?_ | refine G_dup2L (pc := 38) M dX7_count_38 rfl ?_
    rw [ixA]
    refine G_iaload (pc := 39) M dX7_count_39 rfl (by first | assumption | exact vp_in_nI (by omega) (by omega)) ?_
    rw [cl_nI (by omega)]
    refine G_iconst (pc := 40) (v := 1) M dX7_count_40 (by decide +kernel) ?_
    refine G_iadd (pc := 41) M dX7_count_41 ?_
    refine G_iastore (pc := 42) M dX7_count_42 rfl (by first | assumption | exact vp_in_nI (by omega) (by omega)) ?_
    rw [cl_nI (by omega)]
    refine G_goto (pc := 43) M 52 dX7_count_43 (by decide) ?_
    exact G_vret M hr dX7_count_52 rfl ⟨rfl, by simp [cntL, cntC, cntT, sall, *]⟩
  · refine G_aload_n (pc := 14) M dX7_count_14 rfl ?_
    refine G_iload_n (pc := 15) M dX7_count_15 rfl ?_
    refine G_callv (pc := 16) M [0, 3] dX7_count_16 mv_X7_68 (c_taken D _ (fun j => ad (pn [0, 3] j)) fs ct s hs hf8) rfl ⟨rfl, rfl, trivial⟩ rfl rfl rfl rfl (Nat.le_of_ble_eq_true rfl) (Nat.le_of_ble_eq_true rfl) (Nat.le_of_ble_eq_true rfl) ⟨Nat.zero_le _, Nat.zero_le _⟩ (fun v c1 hq hlen => ?_)
    obtain ⟨rfl, rfl⟩ := hq
    refine G_aload_n (pc := 19) M dX7_count_19 rfl ?_
    refine G_getf (pc := 20) M dX7_count_20 fl_X7_13 rfl (by first | rfl | assumption) ?_
    refine G_iload_n (pc := 23) M dX7_count_23 rfl ?_
    refine G_iaload (pc := 24) M dX7_count_24 rfl (by first | assumption | exact vp_in_nI (by omega) (by omega)) ?_
    rw [cl_nI (by omega)]
    refine G_icmp_ge (pc := 25) M 46 dX7_count_25 (by decide) (fun h25 => ?_) (fun h25 => ?_)
    · refine G_aload_n (pc := 46) M dX7_count_46 rfl ?_
      refine G_iload_n (pc := 47) M dX7_count_47 rfl ?_
      refine G_iconst (pc := 48) (v := 1) M dX7_count_48 (by decide +kernel) ?_
      refine G_callv (pc := 49) M [0, 2, 3] dX7_count_49 mv_X7_72 (c_less D _ (fun j => ad (pn [0, 2, 3] j)) fs lo ct s 1 hs hf5 hf8) rfl ⟨rfl, rfl, rfl, trivial⟩ rfl rfl rfl rfl (Nat.le_of_ble_eq_true rfl) (Nat.le_of_ble_eq_true rfl) (Nat.le_of_ble_eq_true rfl) ⟨Nat.zero_le _, Nat.zero_le _⟩ (fun v c1 hq hlen => ?_)
      obtain ⟨rfl, rfl⟩ := hq
      exact G_vret M hr dX7_count_52 rfl ⟨rfl, by simp [cntL, cntC, cntT, sall, *]⟩
    · refine G_aload_n (pc := 28) M dX7_count_28 rfl ?_
      refine G_getf (pc := 29) M dX7_count_29 fl_X7_35 rfl (by first | rfl | assumption) ?_
      refine G_bipush (pc := 32) (v := 64) M dX7_count_32 (by decide +kernel) ?_
      refine G_iload_n (pc := 34) M dX7_count_34 rfl ?_
      refine G_imul (pc := 35) M dX7_count_35 ?_
      refine G_iload_n (pc := 36) M dX7_count_36 rfl ?_
      refine G_iadd (pc := 37) M dX7_count_37 ?_
      first | refine G_dup2 (pc := 38) M dX7_count_38 rfl rfl ?_ | refine G_dup2L (pc := 38) M dX7_count_38 rfl ?_
      rw [ixA]
      refine G_iaload (pc := 39) M dX7_count_39 rfl (by first | assumption | exact vp_in_nI (by omega) (by omega)) ?_
      rw [cl_nI (by omega)]
      refine G_iconst (pc := 40) (v := 1) M dX7_count_40 (by decide +kernel) ?_
      refine G_iadd (pc := 41) M dX7_count_41 ?_
      refine G_iastore (pc := 42) M dX7_count_42 rfl (by first | assumption | exact vp_in_nI (by omega) (by omega)) ?_
      rw [cl_nI (by omega)]
      refine G_goto (pc := 43) M 52 dX7_count_43 (by decide) ?_
      exact G_vret M hr dX7_count_52 rfl ⟨rfl, by simp [cntL, cntC, cntT, sall, *]⟩
theorem pairs_loop {D : DD} {X : MX} {A : Nat → Prop} (M : CX D X A mi_X7_pairs.1.cls mi_X7_pairs.2.1 mi_X7_pairs.2.2.1 (miR mi_X7_pairs)) (hr : RT X mi_X7_pairs.2.2.2.1) {ad : Nat → Nat} {fs : List Value} {mt : Nat → Int32} {s : Nat} (hs : s < 3) (hf9 : gt fs 9 = some (.ref (ad 1))) : ∀ m k : Nat, k ≤ 64 → 64 - k < m →
    G D X A 0 0 (GQ D X A ad 2 (fun v c => v = some (.int (nI (cntP (fun a => mt (64 * s + a)) 64 / 2))) ∧ c = [ob 7 fs, ia D 192 mt])) ad 4 [some (.ref (ad 0)), some (.int (nI s)), some (.int (nI (cntP (fun a => mt (64 * s + a)) k))), some (.int (nI k))] [] [ob 7 fs, ia D 192 mt] := by
  intro m
  induction m with
  | zero => intro k _ h; omega
  | succ m ih =>
    intro k hk hm
    refine G_iload_n (pc := 4) M dX7_pairs_4 rfl ?_
    refine G_bipush (pc := 5) (v := 64) M dX7_pairs_5 (by decide +kernel) ?_
    refine G_icmp_ge (pc := 7) M 38 dX7_pairs_7 (by decide) (fun h7 => ?_) (fun h7 => ?_)
    · have hk64 : k = 64 := by
        have := (nI_leI (a := 64) (b := k) (by omega) (by omega)).mp h7
        omega
      subst hk64
      refine G_iload_n (pc := 38) M dX7_pairs_38 rfl ?_
      refine G_iconst (pc := 39) (v := 2) M dX7_pairs_39 (by decide +kernel) ?_
      refine G_idiv (pc := 40) M dX7_pairs_40 (by decide +kernel) ?_
      rw [show (2 : Int32) = nI 2 from rfl, pk_div (by have := cntP_le (fun a => mt (64 * s + a)) 64; omega) (by omega) (by omega)]
      exact G_iret M hr dX7_pairs_41 rfl ⟨rfl, rfl⟩
    · have hk64 : k < 64 := Nat.lt_of_not_le (fun q => h7 (nI_le q (by omega)))
      refine G_iload_n (pc := 10) M dX7_pairs_10 rfl ?_
      refine G_aload_n (pc := 11) M dX7_pairs_11 rfl ?_
      refine G_getf (pc := 12) M dX7_pairs_12 fl_X7_38 rfl (by first | rfl | assumption) ?_
      refine G_bipush (pc := 15) (v := 64) M dX7_pairs_15 (by decide +kernel) ?_
      refine G_iload_n (pc := 17) M dX7_pairs_17 rfl ?_
      refine G_imul (pc := 18) M dX7_pairs_18 ?_
      refine G_iload_n (pc := 19) M dX7_pairs_19 rfl ?_
      refine G_iadd (pc := 20) M dX7_pairs_20 ?_
      rw [ixA]
      refine G_iaload (pc := 21) M dX7_pairs_21 rfl (by first | assumption | exact vp_in_nI (by omega) (by omega)) ?_
      rw [cl_nI (by omega)]
      refine G_if_le (pc := 22) M 29 dX7_pairs_22 (by decide) (fun h22 => ?_) (fun h22 => ?_)
      · have e : cntP (fun a => mt (64 * s + a)) (k + 1) = cntP (fun a => mt (64 * s + a)) k + 0 := by simp [cntP]; simpa using h22
        refine G_iconst (pc := 29) (v := 0) M dX7_pairs_29 (by decide +kernel) ?_
        refine G_iadd (pc := 30) M dX7_pairs_30 ?_
        refine G_istore_n (pc := 31) M dX7_pairs_31 (Nat.le_of_ble_eq_true rfl) ?_
        refine G_iinc (pc := 32) (v := 1) M dX7_pairs_32 rfl (by decide +kernel) (Nat.le_of_ble_eq_true rfl) ?_
        refine G_goto (pc := 35) M 4 dX7_pairs_35 (by decide) ?_
        have := ih (k + 1) (by omega) (by omega)
        rw [e, ← nI_add, ← nI_add k 1] at this
        exact this
      · have e : cntP (fun a => mt (64 * s + a)) (k + 1) = cntP (fun a => mt (64 * s + a)) k + 1 := by simp [cntP]; simpa using h22
        refine G_iconst (pc := 25) (v := 1) M dX7_pairs_25 (by decide +kernel) ?_
        refine G_goto (pc := 26) M 30 dX7_pairs_26 (by decide) ?_
        refine G_iadd (pc := 30) M dX7_pairs_30 ?_
        refine G_istore_n (pc := 31) M dX7_pairs_31 (Nat.le_of_ble_eq_true rfl) ?_
        refine G_iinc (pc := 32) (v := 1) M dX7_pairs_32 rfl (by decide +kernel) (Nat.le_of_ble_eq_true rfl) ?_
        refine G_goto (pc := 35) M 4 dX7_pairs_35 (by decide) ?_
        have := ih (k + 1) (by omega) (by omega)
        rw [e, ← nI_add, ← nI_add k 1] at this
        exact this
theorem c_pairs (D : DD) (l : Launch) (ad : Nat → Nat) (fs : List Value) (mt : Nat → Int32) (s : Nat) (hs : s < 3) (hf9 : gt fs 9 = some (.ref (ad 1))) : Ct D l mi_X7_pairs [.ref (ad 0), .int (nI s)] ad [ob 7 fs, ia D 192 mt] (fun v c => v = some (.int (nI (cntP (fun a => mt (64 * s + a)) 64 / 2))) ∧ c = [ob 7 fs, ia D 192 mt]) := by
  refine Ct.of (by decide +kernel) (Nat.le_of_ble_eq_true rfl) (fun X A hX M hr => ?_)
  subst hX
  refine G_iconst (pc := 0) (v := 0) M dX7_pairs_0 (by decide +kernel) ?_
  refine G_istore_n (pc := 1) M dX7_pairs_1 (Nat.le_of_ble_eq_true rfl) ?_
  refine G_iconst (pc := 2) (v := 0) M dX7_pairs_2 (by decide +kernel) ?_
  refine G_istore_n (pc := 3) M dX7_pairs_3 (Nat.le_of_ble_eq_true rfl) ?_
  exact pairs_loop M hr hs hf9 65 0 (by omega) (by omega)
def apB (nd sl sr : Nat → Int32) (sd : Nat → Int64) (s o : Nat) : Bool := !decide (nd s = nd o) || !decide (sl s = sl o) || !decide (sr s = sr o) || !decide (sd s = sd o)
theorem c_isApart (D : DD) (l : Launch) (ad : Nat → Nat) (fs : List Value) (nd sl sr : Nat → Int32) (sd : Nat → Int64) (s o : Nat) (hs : s < 3) (ho : o < 3) (hf0 : gt fs 0 = some (.ref (ad 1))) (hf1 : gt fs 1 = some (.ref (ad 2))) (hf2 : gt fs 2 = some (.ref (ad 3))) (hf3 : gt fs 3 = some (.ref (ad 4))) : Ct D l mi_X7_isApart [.ref (ad 0), .int (nI s), .int (nI o)] ad [ob 7 fs, ia D 3 nd, ia D 3 sl, ia D 3 sr, la D 3 sd] (fun v c => v = some (.int (bz (apB nd sl sr sd s o))) ∧ c = [ob 7 fs, ia D 3 nd, ia D 3 sl, ia D 3 sr, la D 3 sd]) := by
  refine Ct.of (by decide +kernel) (Nat.le_of_ble_eq_true rfl) (fun X A hX M hr => ?_)
  subst hX
  refine G_aload_n (pc := 0) M dX7_isApart_0 rfl ?_
  refine G_getf (pc := 1) M dX7_isApart_1 fl_X7_7 rfl (by first | rfl | assumption) ?_
  refine G_iload_n (pc := 4) M dX7_isApart_4 rfl ?_
  refine G_iaload (pc := 5) M dX7_isApart_5 rfl (by first | assumption | exact vp_in_nI (by omega) (by omega)) ?_
  rw [cl_nI (by omega)]
  refine G_aload_n (pc := 6) M dX7_isApart_6 rfl ?_
  refine G_getf (pc := 7) M dX7_isApart_7 fl_X7_7 rfl (by first | rfl | assumption) ?_
  refine G_iload_n (pc := 10) M dX7_isApart_10 rfl ?_
  refine G_iaload (pc := 11) M dX7_isApart_11 rfl (by first | assumption | exact vp_in_nI (by omega) (by omega)) ?_
  rw [cl_nI (by omega)]
  refine G_icmp_ne (pc := 12) M 61 dX7_isApart_12 (by decide) (fun h12 => ?_) (fun h12 => ?_)
  · refine G_iconst (pc := 61) (v := 1) M dX7_isApart_61 (by decide +kernel) ?_
    refine G_goto (pc := 62) M 66 dX7_isApart_62 (by decide) ?_
    exact G_zret M hr dX7_isApart_66 rfl rfl ⟨by simp_all [apB, bz], rfl⟩
  · refine G_aload_n (pc := 15) M dX7_isApart_15 rfl ?_
    refine G_getf (pc := 16) M dX7_isApart_16 fl_X7_13 rfl (by first | rfl | assumption) ?_
    refine G_iload_n (pc := 19) M dX7_isApart_19 rfl ?_
    refine G_iaload (pc := 20) M dX7_isApart_20 rfl (by first | assumption | exact vp_in_nI (by omega) (by omega)) ?_
    rw [cl_nI (by omega)]
    refine G_aload_n (pc := 21) M dX7_isApart_21 rfl ?_
    refine G_getf (pc := 22) M dX7_isApart_22 fl_X7_13 rfl (by first | rfl | assumption) ?_
    refine G_iload_n (pc := 25) M dX7_isApart_25 rfl ?_
    refine G_iaload (pc := 26) M dX7_isApart_26 rfl (by first | assumption | exact vp_in_nI (by omega) (by omega)) ?_
    rw [cl_nI (by omega)]
    refine G_icmp_ne (pc := 27) M 61 dX7_isApart_27 (by decide) (fun h27 => ?_) (fun h27 => ?_)
    · refine G_iconst (pc := 61) (v := 1) M dX7_isApart_61 (by decide +kernel) ?_
      refine G_goto (pc := 62) M 66 dX7_isApart_62 (by decide) ?_
      exact G_zret M hr dX7_isApart_66 rfl rfl ⟨by simp_all [apB, bz], rfl⟩
    · refine G_aload_n (pc := 30) M dX7_isApart_30 rfl ?_
      refine G_getf (pc := 31) M dX7_isApart_31 fl_X7_16 rfl (by first | rfl | assumption) ?_
      refine G_iload_n (pc := 34) M dX7_isApart_34 rfl ?_
      refine G_iaload (pc := 35) M dX7_isApart_35 rfl (by first | assumption | exact vp_in_nI (by omega) (by omega)) ?_
      rw [cl_nI (by omega)]
      refine G_aload_n (pc := 36) M dX7_isApart_36 rfl ?_
      refine G_getf (pc := 37) M dX7_isApart_37 fl_X7_16 rfl (by first | rfl | assumption) ?_
      refine G_iload_n (pc := 40) M dX7_isApart_40 rfl ?_
      refine G_iaload (pc := 41) M dX7_isApart_41 rfl (by first | assumption | exact vp_in_nI (by omega) (by omega)) ?_
      rw [cl_nI (by omega)]
      refine G_icmp_ne (pc := 42) M 61 dX7_isApart_42 (by decide) (fun h42 => ?_) (fun h42 => ?_)
      · refine G_iconst (pc := 61) (v := 1) M dX7_isApart_61 (by decide +kernel) ?_
        refine G_goto (pc := 62) M 66 dX7_isApart_62 (by decide) ?_
        exact G_zret M hr dX7_isApart_66 rfl rfl ⟨by simp_all [apB, bz], rfl⟩
      · refine G_aload_n (pc := 45) M dX7_isApart_45 rfl ?_
        refine G_getf (pc := 46) M dX7_isApart_46 fl_X7_19 rfl (by first | rfl | assumption) ?_
        refine G_iload_n (pc := 49) M dX7_isApart_49 rfl ?_
        refine G_laload (pc := 50) M dX7_isApart_50 rfl (by first | assumption | exact vp_in_nI (by omega) (by omega)) ?_
        rw [cl_nI (by omega)]
        refine G_aload_n (pc := 51) M dX7_isApart_51 rfl ?_
        refine G_getf (pc := 52) M dX7_isApart_52 fl_X7_19 rfl (by first | rfl | assumption) ?_
        refine G_iload_n (pc := 55) M dX7_isApart_55 rfl ?_
        refine G_laload (pc := 56) M dX7_isApart_56 rfl (by first | assumption | exact vp_in_nI (by omega) (by omega)) ?_
        rw [cl_nI (by omega)]
        refine G_lcmp (pc := 57) M dX7_isApart_57 ?_
        refine G_if_eq (pc := 58) M 65 dX7_isApart_58 (by decide) (fun h58 => ?_) (fun h58 => ?_)
        · rw [lg_cmp_eq] at h58
          refine G_iconst (pc := 65) (v := 0) M dX7_isApart_65 (by decide +kernel) ?_
          exact G_zret M hr dX7_isApart_66 rfl rfl ⟨by simp_all [apB, bz], rfl⟩
        · rw [lg_cmp_eq] at h58
          refine G_iconst (pc := 61) (v := 1) M dX7_isApart_61 (by decide +kernel) ?_
          refine G_goto (pc := 62) M 66 dX7_isApart_62 (by decide) ?_
          exact G_zret M hr dX7_isApart_66 rfl rfl ⟨by simp_all [apB, bz], rfl⟩
end
section
/-! the reference: levelOf -/
theorem levelOf_loop {D : DD} {X : MX} {A : Nat → Prop} (M : CX D X A mi_X7_levelOf.1.cls mi_X7_levelOf.2.1 mi_X7_levelOf.2.2.1 (miR mi_X7_levelOf)) (hr : RT X mi_X7_levelOf.2.2.2.1) {ad : Nat → Nat} {cs : List va_E} {n : Nat} (hn : cs.length = n) {z : Int64} {a b c d : Option Value} : ∀ m : Nat, m ≤ 9 →
    G D X A 0 0 (GQ D X A ad n (fun v c => v = some (.int (nI (lvF z m))) ∧ c = cs)) ad 57 [a, b, c, d, some (.long z), none, some (.int (nI (9 - m)))] [] cs := by
  intro m
  induction m with
  | zero =>
    intro _
    refine G_iload (pc := 57) M dX7_levelOf_57 rfl ?_
    refine G_bipush (pc := 59) (v := 9) M dX7_levelOf_59 (by decide +kernel) ?_
    refine G_icmp_ge (pc := 61) M 82 dX7_levelOf_61 (by decide) (fun h61 => ?_) (fun h61 => ?_)
    · refine G_iload (pc := 82) M dX7_levelOf_82 rfl ?_
      exact G_iret M hr dX7_levelOf_84 hn ⟨rfl, rfl⟩
    · exact absurd (nI_le (a := 9) (b := 9 - 0) (by omega) (by omega)) h61
  | succ m ih =>
    intro hm
    refine G_iload (pc := 57) M dX7_levelOf_57 rfl ?_
    refine G_bipush (pc := 59) (v := 9) M dX7_levelOf_59 (by decide +kernel) ?_
    refine G_icmp_ge (pc := 61) M 82 dX7_levelOf_61 (by decide) (fun h61 => ?_) (fun h61 => ?_)
    · exact absurd ((nI_leI (a := 9) (b := 9 - (m + 1)) (by omega) (by omega)).mp h61) (by omega)
    · refine G_lload (pc := 64) M dX7_levelOf_64 rfl ?_
      refine G_iload (pc := 66) M dX7_levelOf_66 rfl ?_
      refine G_lshr (pc := 68) M dX7_levelOf_68 ?_
      refine G_lconst (pc := 69) (v := 1) M dX7_levelOf_69 (by decide +kernel) ?_
      refine G_land (pc := 70) M dX7_levelOf_70 ?_
      rw [sb_bt z (by omega)]
      refine G_lconst (pc := 71) (v := 0) M dX7_levelOf_71 (by decide +kernel) ?_
      refine G_lcmp (pc := 72) M dX7_levelOf_72 ?_
      refine G_if_ne (pc := 73) M 82 dX7_levelOf_73 (by decide) (fun h73 => ?_) (fun h73 => ?_)
      · rw [lg_cmp_eq, bif0] at h73
        have e : bt z (9 - (m + 1)) = true := by simpa using h73
        have el : lvF z (m + 1) = 9 - (m + 1) := by rw [lvF, e]; rfl
        refine G_iload (pc := 82) M dX7_levelOf_82 rfl ?_
        exact G_iret M hr dX7_levelOf_84 hn ⟨by rw [el], rfl⟩
      · rw [lg_cmp_eq, bif0] at h73
        have el : lvF z (m + 1) = lvF z m := by rw [lvF, h73]; rfl
        refine G_iinc (pc := 76) (v := 1) M dX7_levelOf_76 rfl (by decide +kernel) (Nat.le_of_ble_eq_true rfl) ?_
        refine G_goto (pc := 79) M 57 dX7_levelOf_79 (by decide) ?_
        have := ih (by omega)
        rw [show 9 - m = 9 - (m + 1) + 1 by omega, ← nI_1] at this
        rw [el]
        exact this
theorem c_levelOfR (D : DD) (l : Launch) (ad : Nat → Nat) (fs : List Value) (sd : Nat → Int64) (s : Nat) (key : Int64) (hs : s < 3) (hf3 : gt fs 3 = some (.ref (ad 1))) : Ct D l mi_X7_levelOf [.ref (ad 0), .int (nI s), .long key] ad [ob 7 fs, la D 3 sd] (fun v c => v = some (.int (nI (lvK (sd s) key))) ∧ c = [ob 7 fs, la D 3 sd]) := by
  refine Ct.of (by decide +kernel) (Nat.le_of_ble_eq_true rfl) (fun X A hX M hr => ?_)
  subst hX
  refine G_aload_n (pc := 0) M dX7_levelOf_0 rfl ?_
  refine G_getf (pc := 1) M dX7_levelOf_1 fl_X7_19 rfl (by first | rfl | assumption) ?_
  refine G_iload_n (pc := 4) M dX7_levelOf_4 rfl ?_
  refine G_laload (pc := 5) M dX7_levelOf_5 rfl (by first | assumption | exact vp_in_nI (by omega) (by omega)) ?_
  rw [cl_nI (by omega)]
  refine G_lload_n (pc := 6) M dX7_levelOf_6 rfl ?_
  refine G_lconst (pc := 7) (v := 1) M dX7_levelOf_7 (by decide +kernel) ?_
  refine G_ladd (pc := 8) M dX7_levelOf_8 ?_
  refine G_ldc2 (pc := 9) M dX7_levelOf_9 cn_X7_91 ?_
  refine G_lmul (pc := 12) M dX7_levelOf_12 ?_
  refine G_ladd (pc := 13) M dX7_levelOf_13 ?_
  refine G_lstore (pc := 14) M dX7_levelOf_14 (Nat.le_of_ble_eq_true rfl) ?_
  refine G_lload (pc := 16) M dX7_levelOf_16 rfl ?_
  refine G_lload (pc := 18) M dX7_levelOf_18 rfl ?_
  refine G_bipush (pc := 20) (v := 30) M dX7_levelOf_20 (by decide +kernel) ?_
  refine G_lushr (pc := 22) M dX7_levelOf_22 ?_
  refine G_lxor (pc := 23) M dX7_levelOf_23 ?_
  refine G_ldc2 (pc := 24) M dX7_levelOf_24 cn_X7_93 ?_
  refine G_lmul (pc := 27) M dX7_levelOf_27 ?_
  refine G_lstore (pc := 28) M dX7_levelOf_28 (Nat.le_of_ble_eq_true rfl) ?_
  refine G_lload (pc := 30) M dX7_levelOf_30 rfl ?_
  refine G_lload (pc := 32) M dX7_levelOf_32 rfl ?_
  refine G_bipush (pc := 34) (v := 27) M dX7_levelOf_34 (by decide +kernel) ?_
  refine G_lushr (pc := 36) M dX7_levelOf_36 ?_
  refine G_lxor (pc := 37) M dX7_levelOf_37 ?_
  refine G_ldc2 (pc := 38) M dX7_levelOf_38 cn_X7_95 ?_
  refine G_lmul (pc := 41) M dX7_levelOf_41 ?_
  refine G_lstore (pc := 42) M dX7_levelOf_42 (Nat.le_of_ble_eq_true rfl) ?_
  refine G_lload (pc := 44) M dX7_levelOf_44 rfl ?_
  refine G_lload (pc := 46) M dX7_levelOf_46 rfl ?_
  refine G_bipush (pc := 48) (v := 31) M dX7_levelOf_48 (by decide +kernel) ?_
  refine G_lushr (pc := 50) M dX7_levelOf_50 ?_
  refine G_lxor (pc := 51) M dX7_levelOf_51 ?_
  refine G_lstore (pc := 52) M dX7_levelOf_52 (Nat.le_of_ble_eq_true rfl) ?_
  refine G_iconst (pc := 54) (v := 0) M dX7_levelOf_54 (by decide +kernel) ?_
  refine G_istore (pc := 55) M dX7_levelOf_55 (Nat.le_of_ble_eq_true rfl) ?_
  exact levelOf_loop M hr (z := mixZ (sd s) key) rfl 9 (by omega)
end
section
/-! the reference: change -/
def rowAdd (S : Nat → Int64) (p : Nat) (key t : Int64) : Nat → Int64 :=
  let S1 := vp_updL S p (S p + t)
  let S2 := vp_updL S1 (p + 1) (S1 (p + 1) + t * key)
  vp_updL S2 (p + 2) (S2 (p + 2) + t * key * key)
/-- the sums of a stream when n levels of an arc of x, y are changed by t -/
def chgR (S : Nat → Int64) (x y : Nat) (key t : Int64) : Nat → Nat → Int64
  | 0 => S
  | n + 1 => rowAdd (rowAdd (chgR S x y key t n) (30 * x + 3 * n) key t) (30 * y + 3 * n) key (-t)
theorem n1920 : (1920 : Int32) = nI 1920 := rfl
theorem ixB (s x n : Nat) : (1920 : Int32) * nI s + 30 * nI x + 3 * nI n = nI (1920 * s + (30 * x + 3 * n)) := by
  rw [n1920, show (30 : Int32) = nI 30 from rfl, show (3 : Int32) = nI 3 from rfl, pk_mul, pk_mul, pk_mul, nI_add, nI_add, Nat.add_assoc]
theorem nI_2 (a : Nat) : nI a + 2 = nI (a + 2) := by rw [show (2 : Int32) = nI 2 from rfl, nI_add]
/-- writing into the window of a stream -/
def winL (w s : Nat) (F S : Nat → Int64) : Nat → Int64 := fun j => if w * s ≤ j ∧ j < w * s + w then S (j - w * s) else F j
theorem winL_at {w s : Nat} {F S : Nat → Int64} {i : Nat} (h : i < w) : winL w s F S (w * s + i) = S i := by
  simp only [winL]
  rw [if_pos (by omega)]
  congr 1
  omega
theorem winL_upd {w s : Nat} {F S : Nat → Int64} {i : Nat} (h : i < w) (v : Int64) : vp_updL (winL w s F S) (w * s + i) v = winL w s F (vp_updL S i v) := by
  funext j
  simp only [winL, vp_updL]
  by_cases e : j = w * s + i
  · subst e
    rw [if_pos rfl, if_pos (by omega), if_pos (by omega)]
  · rw [if_neg e]
    by_cases h2 : w * s ≤ j ∧ j < w * s + w
    · rw [if_pos h2, if_pos h2, if_neg (by omega)]
    · rw [if_neg h2, if_neg h2]
theorem winL_id (w s : Nat) (F : Nat → Int64) : winL w s F (fun j => F (w * s + j)) = F := by
  funext j
  simp only [winL]
  split
  · congr 1; omega
  · rfl
theorem chg_loop {D : DD} {X : MX} {A : Nat → Prop} (M : CX D X A mi_X7_change.1.cls mi_X7_change.2.1 mi_X7_change.2.2.1 (miR mi_X7_change)) (hr : RT X mi_X7_change.2.2.2.1) {ad : Nat → Nat} {fs : List Value} {sd sm S : Nat → Int64} {s x y top : Nat} {key t : Int64} (hs : s < 3) (hx : x < 64) (hy : y < 64) (ht : top ≤ 9) (hf10 : gt fs 10 = some (.ref (ad 2))) {o2 o3 : Option Value} : ∀ m n : Nat, n ≤ top + 1 → top + 1 - n < m → ∀ z1 z2 : Option Value,
    G D X A 0 0 (GQ D X A ad 3 (fun v cs => v = some (.int (nI top)) ∧ cs = [ob 7 fs, la D 3 sd, la D 5760 (winL 1920 s sm (chgR S x y key t (top + 1)))])) ad 49 [some (.ref (ad 0)), some (.int (nI s)), o2, o3, some (.long t), none, some (.int (nI x)), some (.int (nI y)), some (.long key), none, some (.int (nI top)), some (.int (nI n)), z1, z2] [] [ob 7 fs, la D 3 sd, la D 5760 (winL 1920 s sm (chgR S x y key t n))] := by
  intro m
  induction m with
  | zero => intro k _ h; omega
  | succ m ih =>
    intro n hn hm z1 z2
    refine G_iload (pc := 49) M dX7_change_49 rfl ?_
    refine G_iload (pc := 51) M dX7_change_51 rfl ?_
    refine G_icmp_gt (pc := 53) M 196 dX7_change_53 (by decide) (fun h53 => ?_) (fun h53 => ?_)
    · have e : n = top + 1 := by
        have := (nI_ltI (a := top) (b := n) (by omega) (by omega)).mp h53
        omega
      subst e
      refine G_iload (pc := 196) M dX7_change_196 rfl ?_
      exact G_iret M hr dX7_change_198 rfl ⟨rfl, rfl⟩
    · have hlt : n ≤ top := Nat.le_of_not_lt (fun q => h53 (nI_lt q (by omega)))
      refine G_sipush (pc := 56) (v := 1920) M dX7_change_56 (by decide +kernel) ?_
      refine G_iload_n (pc := 59) M dX7_change_59 rfl ?_
      refine G_imul (pc := 60) M dX7_change_60 ?_
      refine G_bipush (pc := 61) (v := 30) M dX7_change_61 (by decide +kernel) ?_
      refine G_iload (pc := 63) M dX7_change_63 rfl ?_
      refine G_imul (pc := 65) M dX7_change_65 ?_
      refine G_iadd (pc := 66) M dX7_change_66 ?_
      refine G_iconst (pc := 67) (v := 3) M dX7_change_67 (by decide +kernel) ?_
      refine G_iload (pc := 68) M dX7_change_68 rfl ?_
      refine G_imul (pc := 70) M dX7_change_70 ?_
      refine G_iadd (pc := 71) M dX7_change_71 ?_
      rw [ixB]
      refine G_istore (pc := 72) M dX7_change_72 (Nat.le_of_ble_eq_true rfl) ?_
      refine G_sipush (pc := 74) (v := 1920) M dX7_change_74 (by decide +kernel) ?_
      refine G_iload_n (pc := 77) M dX7_change_77 rfl ?_
      refine G_imul (pc := 78) M dX7_change_78 ?_
      refine G_bipush (pc := 79) (v := 30) M dX7_change_79 (by decide +kernel) ?_
      refine G_iload (pc := 81) M dX7_change_81 rfl ?_
      refine G_imul (pc := 83) M dX7_change_83 ?_
      refine G_iadd (pc := 84) M dX7_change_84 ?_
      refine G_iconst (pc := 85) (v := 3) M dX7_change_85 (by decide +kernel) ?_
      refine G_iload (pc := 86) M dX7_change_86 rfl ?_
      refine G_imul (pc := 88) M dX7_change_88 ?_
      refine G_iadd (pc := 89) M dX7_change_89 ?_
      rw [ixB]
      refine G_istore (pc := 90) M dX7_change_90 (Nat.le_of_ble_eq_true rfl) ?_
      refine G_aload_n (pc := 92) M dX7_change_92 rfl ?_
      refine G_getf (pc := 93) M dX7_change_93 fl_X7_41 rfl (by first | rfl | assumption) ?_
      refine G_iload (pc := 96) M dX7_change_96 rfl ?_
      first | refine G_dup2 (pc := 98) M dX7_change_98 rfl rfl ?_ | refine G_dup2L (pc := 98) M dX7_change_98 rfl ?_
      refine G_laload (pc := 99) M dX7_change_99 rfl (by first | assumption | exact vp_in_nI (by omega) (by omega)) ?_
      rw [cl_nI (by omega), winL_at (by omega)]
      refine G_lload (pc := 100) M dX7_change_100 rfl ?_
      refine G_ladd (pc := 102) M dX7_change_102 ?_
      refine G_lastore (pc := 103) M dX7_change_103 rfl (by first | assumption | exact vp_in_nI (by omega) (by omega)) ?_
      rw [cl_nI (by omega), winL_upd (by omega)]
      refine G_aload_n (pc := 104) M dX7_change_104 rfl ?_
      refine G_getf (pc := 105) M dX7_change_105 fl_X7_41 rfl (by first | rfl | assumption) ?_
      refine G_iload (pc := 108) M dX7_change_108 rfl ?_
      refine G_iconst (pc := 110) (v := 1) M dX7_change_110 (by decide +kernel) ?_
      refine G_iadd (pc := 111) M dX7_change_111 ?_
      rw [nI_1, Nat.add_assoc (1920 * s) (30 * x + 3 * n) 1]
      first | refine G_dup2 (pc := 112) M dX7_change_112 rfl rfl ?_ | refine G_dup2L (pc := 112) M dX7_change_112 rfl ?_
      refine G_laload (pc := 113) M dX7_change_113 rfl (by first | assumption | exact vp_in_nI (by omega) (by omega)) ?_
      rw [cl_nI (by omega), winL_at (by omega)]
      refine G_lload (pc := 114) M dX7_change_114 rfl ?_
      refine G_lload (pc := 116) M dX7_change_116 rfl ?_
      refine G_lmul (pc := 118) M dX7_change_118 ?_
      refine G_ladd (pc := 119) M dX7_change_119 ?_
      refine G_lastore (pc := 120) M dX7_change_120 rfl (by first | assumption | exact vp_in_nI (by omega) (by omega)) ?_
      rw [cl_nI (by omega), winL_upd (by omega)]
      refine G_aload_n (pc := 121) M dX7_change_121 rfl ?_
      refine G_getf (pc := 122) M dX7_change_122 fl_X7_41 rfl (by first | rfl | assumption) ?_
      refine G_iload (pc := 125) M dX7_change_125 rfl ?_
      refine G_iconst (pc := 127) (v := 2) M dX7_change_127 (by decide +kernel) ?_
      refine G_iadd (pc := 128) M dX7_change_128 ?_
      rw [nI_2, Nat.add_assoc (1920 * s) (30 * x + 3 * n) 2]
      first | refine G_dup2 (pc := 129) M dX7_change_129 rfl rfl ?_ | refine G_dup2L (pc := 129) M dX7_change_129 rfl ?_
      refine G_laload (pc := 130) M dX7_change_130 rfl (by first | assumption | exact vp_in_nI (by omega) (by omega)) ?_
      rw [cl_nI (by omega), winL_at (by omega)]
      refine G_lload (pc := 131) M dX7_change_131 rfl ?_
      refine G_lload (pc := 133) M dX7_change_133 rfl ?_
      refine G_lmul (pc := 135) M dX7_change_135 ?_
      refine G_lload (pc := 136) M dX7_change_136 rfl ?_
      refine G_lmul (pc := 138) M dX7_change_138 ?_
      refine G_ladd (pc := 139) M dX7_change_139 ?_
      refine G_lastore (pc := 140) M dX7_change_140 rfl (by first | assumption | exact vp_in_nI (by omega) (by omega)) ?_
      rw [cl_nI (by omega), winL_upd (by omega)]
      refine G_aload_n (pc := 141) M dX7_change_141 rfl ?_
      refine G_getf (pc := 142) M dX7_change_142 fl_X7_41 rfl (by first | rfl | assumption) ?_
      refine G_iload (pc := 145) M dX7_change_145 rfl ?_
      first | refine G_dup2 (pc := 147) M dX7_change_147 rfl rfl ?_ | refine G_dup2L (pc := 147) M dX7_change_147 rfl ?_
      refine G_laload (pc := 148) M dX7_change_148 rfl (by first | assumption | exact vp_in_nI (by omega) (by omega)) ?_
      rw [cl_nI (by omega), winL_at (by omega)]
      refine G_lload (pc := 149) M dX7_change_149 rfl ?_
      refine G_lsub (pc := 151) M dX7_change_151 ?_
      rw [Int64.sub_eq_add_neg]
      refine G_lastore (pc := 152) M dX7_change_152 rfl (by first | assumption | exact vp_in_nI (by omega) (by omega)) ?_
      rw [cl_nI (by omega), winL_upd (by omega)]
      refine G_aload_n (pc := 153) M dX7_change_153 rfl ?_
      refine G_getf (pc := 154) M dX7_change_154 fl_X7_41 rfl (by first | rfl | assumption) ?_
      refine G_iload (pc := 157) M dX7_change_157 rfl ?_
      refine G_iconst (pc := 159) (v := 1) M dX7_change_159 (by decide +kernel) ?_
      refine G_iadd (pc := 160) M dX7_change_160 ?_
      rw [nI_1, Nat.add_assoc (1920 * s) (30 * y + 3 * n) 1]
      first | refine G_dup2 (pc := 161) M dX7_change_161 rfl rfl ?_ | refine G_dup2L (pc := 161) M dX7_change_161 rfl ?_
      refine G_laload (pc := 162) M dX7_change_162 rfl (by first | assumption | exact vp_in_nI (by omega) (by omega)) ?_
      rw [cl_nI (by omega), winL_at (by omega)]
      refine G_lload (pc := 163) M dX7_change_163 rfl ?_
      refine G_lload (pc := 165) M dX7_change_165 rfl ?_
      refine G_lmul (pc := 167) M dX7_change_167 ?_
      refine G_lsub (pc := 168) M dX7_change_168 ?_
      rw [Int64.sub_eq_add_neg, ← Int64.neg_mul]
      refine G_lastore (pc := 169) M dX7_change_169 rfl (by first | assumption | exact vp_in_nI (by omega) (by omega)) ?_
      rw [cl_nI (by omega), winL_upd (by omega)]
      refine G_aload_n (pc := 170) M dX7_change_170 rfl ?_
      refine G_getf (pc := 171) M dX7_change_171 fl_X7_41 rfl (by first | rfl | assumption) ?_
      refine G_iload (pc := 174) M dX7_change_174 rfl ?_
      refine G_iconst (pc := 176) (v := 2) M dX7_change_176 (by decide +kernel) ?_
      refine G_iadd (pc := 177) M dX7_change_177 ?_
      rw [nI_2, Nat.add_assoc (1920 * s) (30 * y + 3 * n) 2]
      first | refine G_dup2 (pc := 178) M dX7_change_178 rfl rfl ?_ | refine G_dup2L (pc := 178) M dX7_change_178 rfl ?_
      refine G_laload (pc := 179) M dX7_change_179 rfl (by first | assumption | exact vp_in_nI (by omega) (by omega)) ?_
      rw [cl_nI (by omega), winL_at (by omega)]
      refine G_lload (pc := 180) M dX7_change_180 rfl ?_
      refine G_lload (pc := 182) M dX7_change_182 rfl ?_
      refine G_lmul (pc := 184) M dX7_change_184 ?_
      refine G_lload (pc := 185) M dX7_change_185 rfl ?_
      refine G_lmul (pc := 187) M dX7_change_187 ?_
      refine G_lsub (pc := 188) M dX7_change_188 ?_
      rw [Int64.sub_eq_add_neg, ← Int64.neg_mul, ← Int64.neg_mul]
      refine G_lastore (pc := 189) M dX7_change_189 rfl (by first | assumption | exact vp_in_nI (by omega) (by omega)) ?_
      rw [cl_nI (by omega), winL_upd (by omega)]
      refine G_iinc (pc := 190) (v := 1) M dX7_change_190 rfl (by decide +kernel) (Nat.le_of_ble_eq_true rfl) ?_
      refine G_goto (pc := 193) M 49 dX7_change_193 (by decide) ?_
      have := ih (n + 1) (by omega) (by omega)
      rw [← nI_1 n] at this
      exact this _ _
def arcKey (x y : Nat) : Int64 := 64 * (nI x).toInt64 + (nI y).toInt64
theorem c_change (D : DD) (l : Launch) (ad : Nat → Nat) (fs : List Value) (sd sm : Nat → Int64) (s a b : Nat) (t : Int64) (hs : s < 3) (ha : a < 64) (hb : b < 64) (hf3 : gt fs 3 = some (.ref (ad 1))) (hf10 : gt fs 10 = some (.ref (ad 2))) : Ct D l mi_X7_change [.ref (ad 0), .int (nI s), .int (nI a), .int (nI b), .long t] ad [ob 7 fs, la D 3 sd, la D 5760 sm] (fun v c => v = some (.int (nI (lvK (sd s) (arcKey (min a b) (max a b))))) ∧ c = [ob 7 fs, la D 3 sd, la D 5760 (winL 1920 s sm (chgR (fun j => sm (1920 * s + j)) (min a b) (max a b) (arcKey (min a b) (max a b)) t (lvK (sd s) (arcKey (min a b) (max a b)) + 1)))]) := by
  have key : ∀ x y : Nat, x < 64 → y < 64 → min a b = x → max a b = y → ∀ (X : MX) (A : Nat → Prop), CX D X A mi_X7_change.1.cls mi_X7_change.2.1 mi_X7_change.2.2.1 (miR mi_X7_change) → RT X mi_X7_change.2.2.2.1 → ∀ z : Option Value, G D X A 0 0 (GQ D X A ad 3 (fun v c => v = some (.int (nI (lvK (sd s) (arcKey (min a b) (max a b))))) ∧ c = [ob 7 fs, la D 3 sd, la D 5760 (winL 1920 s sm (chgR (fun j => sm (1920 * s + j)) (min a b) (max a b) (arcKey (min a b) (max a b)) t (lvK (sd s) (arcKey (min a b) (max a b)) + 1)))])) ad 24 [some (.ref (ad 0)), some (.int (nI s)), some (.int (nI a)), some (.int (nI b)), some (.long t), none, some (.int (nI x)), some (.int (nI y)), none, none, none, none, none, none] [] [ob 7 fs, la D 3 sd, la D 5760 sm] := by
    intro x y hx hy e1 e2 X A M hr z
    rw [e1, e2]
    refine G_ldc2 (pc := 24) M dX7_change_24 cn_X7_97 ?_
    refine G_iload (pc := 27) M dX7_change_27 rfl ?_
    refine G_i2l (pc := 29) M dX7_change_29 ?_
    refine G_lmul (pc := 30) M dX7_change_30 ?_
    refine G_iload (pc := 31) M dX7_change_31 rfl ?_
    refine G_i2l (pc := 33) M dX7_change_33 ?_
    refine G_ladd (pc := 34) M dX7_change_34 ?_
    refine G_lstore (pc := 35) M dX7_change_35 (Nat.le_of_ble_eq_true rfl) ?_
    refine G_aload_n (pc := 37) M dX7_change_37 rfl ?_
    refine G_iload_n (pc := 38) M dX7_change_38 rfl ?_
    refine G_lload (pc := 39) M dX7_change_39 rfl ?_
    refine G_callv (pc := 41) M [0, 1] dX7_change_41 mv_X7_99 (c_levelOfR D _ (fun j => ad (pn [0, 1] j)) fs sd s (arcKey x y) hs hf3) rfl ⟨rfl, rfl, trivial⟩ rfl rfl rfl rfl (Nat.le_of_ble_eq_true rfl) (Nat.le_of_ble_eq_true rfl) (Nat.le_of_ble_eq_true rfl) ⟨Nat.zero_le _, Nat.zero_le _⟩ (fun v c1 hq hlen => ?_)
    obtain ⟨rfl, rfl⟩ := hq
    refine G_istore (pc := 44) M dX7_change_44 (Nat.le_of_ble_eq_true rfl) ?_
    refine G_iconst (pc := 46) (v := 0) M dX7_change_46 (by decide +kernel) ?_
    refine G_istore (pc := 47) M dX7_change_47 (Nat.le_of_ble_eq_true rfl) ?_
    have := chg_loop M hr (sd := sd) (sm := sm) (S := fun j => sm (1920 * s + j)) (s := s) (x := x) (y := y) (top := lvK (sd s) (arcKey x y)) (key := arcKey x y) (t := t) hs hx hy (lvF_le _ _) hf10 (o2 := some (.int (nI a))) (o3 := some (.int (nI b))) 11 0 (by omega) (by have := lvF_le (mixZ (sd s) (arcKey x y)) 9; simp only [lvK]; omega) none none
    rw [chgR, winL_id] at this
    exact this
  refine Ct.of (by decide +kernel) (Nat.le_of_ble_eq_true rfl) (fun X A hX M hr => ?_)
  subst hX
  refine G_iload_n (pc := 0) M dX7_change_0 rfl ?_
  refine G_iload_n (pc := 1) M dX7_change_1 rfl ?_
  refine G_icmp_ge (pc := 2) M 9 dX7_change_2 (by decide) (fun h2 => ?_) (fun h2 => ?_)
  · have e := (nI_leI (a := b) (b := a) (by omega) (by omega)).mp h2
    refine G_iload_n (pc := 9) M dX7_change_9 rfl ?_
    refine G_istore (pc := 10) M dX7_change_10 (Nat.le_of_ble_eq_true rfl) ?_
    refine G_iload_n (pc := 12) M dX7_change_12 rfl ?_
    refine G_iload_n (pc := 13) M dX7_change_13 rfl ?_
    refine G_icmp_ge (pc := 14) M 21 dX7_change_14 (by decide) (fun h14 => ?_) (fun h14 => ?_)
    · refine G_iload_n (pc := 21) M dX7_change_21 rfl ?_
      refine G_istore (pc := 22) M dX7_change_22 (Nat.le_of_ble_eq_true rfl) ?_
      first | exact key b a (by omega) (by omega) (by omega) (by omega) X A M hr none | exact key a b (by omega) (by omega) (by omega) (by omega) X A M hr none | exact absurd h14 h2 | exact absurd h2 h14
    · refine G_iload_n (pc := 17) M dX7_change_17 rfl ?_
      refine G_goto (pc := 18) M 22 dX7_change_18 (by decide) ?_
      refine G_istore (pc := 22) M dX7_change_22 (Nat.le_of_ble_eq_true rfl) ?_
      first | exact key b a (by omega) (by omega) (by omega) (by omega) X A M hr none | exact key a b (by omega) (by omega) (by omega) (by omega) X A M hr none | exact absurd h14 h2 | exact absurd h2 h14
  · have e := Nat.lt_of_not_le (fun q => h2 (nI_le (a := b) (b := a) q (by omega)))
    refine G_iload_n (pc := 5) M dX7_change_5 rfl ?_
    refine G_goto (pc := 6) M 10 dX7_change_6 (by decide) ?_
    refine G_istore (pc := 10) M dX7_change_10 (Nat.le_of_ble_eq_true rfl) ?_
    refine G_iload_n (pc := 12) M dX7_change_12 rfl ?_
    refine G_iload_n (pc := 13) M dX7_change_13 rfl ?_
    refine G_icmp_ge (pc := 14) M 21 dX7_change_14 (by decide) (fun h14 => ?_) (fun h14 => ?_)
    · refine G_iload_n (pc := 21) M dX7_change_21 rfl ?_
      refine G_istore (pc := 22) M dX7_change_22 (Nat.le_of_ble_eq_true rfl) ?_
      first | exact key b a (by omega) (by omega) (by omega) (by omega) X A M hr none | exact key a b (by omega) (by omega) (by omega) (by omega) X A M hr none | exact absurd h14 h2 | exact absurd h2 h14
    · refine G_iload_n (pc := 17) M dX7_change_17 rfl ?_
      refine G_goto (pc := 18) M 22 dX7_change_18 (by decide) ?_
      refine G_istore (pc := 22) M dX7_change_22 (Nat.le_of_ble_eq_true rfl) ?_
      first | exact key b a (by omega) (by omega) (by omega) (by omega) X A M hr none | exact key a b (by omega) (by omega) (by omega) (by omega) X A M hr none | exact absurd h14 h2 | exact absurd h2 h14
end
section
/-! the reference: ranked, unite, ofSet, leads -/
def ahdB (f : Nat → Int32) (a b : Nat) : Bool := decide (f a < f b) || (decide (f b = f a) && decide (b < a))
def ahd (f : Nat → Int32) (a : Nat) : Nat → Nat
  | 0 => 0
  | k + 1 => ahd f a k + (bif ahdB f a k then 1 else 0)
theorem ahd_le (f : Nat → Int32) (a : Nat) : ∀ k, ahd f a k ≤ k
  | 0 => Nat.le_refl 0
  | k + 1 => by
    have := ahd_le f a k
    simp only [ahd]
    cases ahdB f a k <;> simp <;> omega
def rnk (f : Nat → Int32) (p : Nat) : Nat → Nat
  | 0 => 0
  | m + 1 => if ahd f (64 - (m + 1)) 64 = p then 64 - (m + 1) else rnk f p m
theorem rnk_in {D : DD} {X : MX} {A : Nat → Prop} (M : CX D X A mi_X7_ranked.1.cls mi_X7_ranked.2.1 mi_X7_ranked.2.2.1 (miR mi_X7_ranked)) {Q : State → Prop} {ad : Nat → Nat} {fs : List Value} {ct : Nat → Int32} {s a p : Nat} (hs : s < 3) (ha : a < 64) (hf8 : gt fs 8 = some (.ref (ad 1)))
    (kk : ∀ z1 z2 z3 : Option Value, G D X A 0 0 Q ad 84 [some (.ref (ad 0)), some (.int (nI s)), some (.int (nI p)), some (.int (nI a)), some (.int (nI (ahd (fun a => ct (64 * s + a)) a 64))), z1, z2, z3] [] [ob 7 fs, ia D 192 ct]) : ∀ m k : Nat, k ≤ 64 → 64 - k < m → ∀ z2 z3 : Option Value,
    G D X A 0 0 Q ad 14 [some (.ref (ad 0)), some (.int (nI s)), some (.int (nI p)), some (.int (nI a)), some (.int (nI (ahd (fun a => ct (64 * s + a)) a k))), some (.int (nI k)), z2, z3] [] [ob 7 fs, ia D 192 ct] := by
  intro m
  induction m with
  | zero => intro k _ h; omega
  | succ m ih =>
    intro k hk hm z2 z3
    refine G_iload (pc := 14) M dX7_ranked_14 rfl ?_
    refine G_bipush (pc := 16) (v := 64) M dX7_ranked_16 (by decide +kernel) ?_
    refine G_icmp_ge (pc := 18) M 84 dX7_ranked_18 (by decide) (fun h18 => ?_) (fun h18 => ?_)
    · have hk64 : k = 64 := by
        have := (nI_leI (a := 64) (b := k) (by omega) (by omega)).mp h18
        omega
      subst hk64
      exact kk _ _ _
    · have hk64 : k < 64 := Nat.lt_of_not_le (fun q => h18 (nI_le q (by omega)))
      refine G_aload_n (pc := 21) M dX7_ranked_21 rfl ?_
      refine G_getf (pc := 22) M dX7_ranked_22 fl_X7_35 rfl (by first | rfl | assumption) ?_
      refine G_bipush (pc := 25) (v := 64) M dX7_ranked_25 (by decide +kernel) ?_
      refine G_iload_n (pc := 27) M dX7_ranked_27 rfl ?_
      refine G_imul (pc := 28) M dX7_ranked_28 ?_
      refine G_iload_n (pc := 29) M dX7_ranked_29 rfl ?_
      refine G_iadd (pc := 30) M dX7_ranked_30 ?_
      rw [ixA]
      refine G_iaload (pc := 31) M dX7_ranked_31 rfl (by first | assumption | exact vp_in_nI (by omega) (by omega)) ?_
      rw [cl_nI (by omega)]
      refine G_istore (pc := 32) M dX7_ranked_32 (Nat.le_of_ble_eq_true rfl) ?_
      refine G_aload_n (pc := 34) M dX7_ranked_34 rfl ?_
      refine G_getf (pc := 35) M dX7_ranked_35 fl_X7_35 rfl (by first | rfl | assumption) ?_
      refine G_bipush (pc := 38) (v := 64) M dX7_ranked_38 (by decide +kernel) ?_
      refine G_iload_n (pc := 40) M dX7_ranked_40 rfl ?_
      refine G_imul (pc := 41) M dX7_ranked_41 ?_
      refine G_iload (pc := 42) M dX7_ranked_42 rfl ?_
      refine G_iadd (pc := 44) M dX7_ranked_44 ?_
      rw [ixA]
      refine G_iaload (pc := 45) M dX7_ranked_45 rfl (by first | assumption | exact vp_in_nI (by omega) (by omega)) ?_
      rw [cl_nI (by omega)]
      refine G_istore (pc := 46) M dX7_ranked_46 (Nat.le_of_ble_eq_true rfl) ?_
      refine G_iload (pc := 48) M dX7_ranked_48 rfl ?_
      refine G_iload (pc := 50) M dX7_ranked_50 rfl ?_
      refine G_iload (pc := 52) M dX7_ranked_52 rfl ?_
      refine G_icmp_gt (pc := 54) M 70 dX7_ranked_54 (by decide) (fun h54 => ?_) (fun h54 => ?_)
      · have e : ahd (fun a => ct (64 * s + a)) a (k + 1) = ahd (fun a => ct (64 * s + a)) a k + 1 := by simp [ahd, ahdB, h54]
        refine G_iconst (pc := 70) (v := 1) M dX7_ranked_70 (by decide +kernel) ?_
        refine G_goto (pc := 71) M 75 dX7_ranked_71 (by decide) ?_
        refine G_iadd (pc := 75) M dX7_ranked_75 ?_
        refine G_istore (pc := 76) M dX7_ranked_76 (Nat.le_of_ble_eq_true rfl) ?_
        refine G_iinc (pc := 78) (v := 1) M dX7_ranked_78 rfl (by decide +kernel) (Nat.le_of_ble_eq_true rfl) ?_
        refine G_goto (pc := 81) M 14 dX7_ranked_81 (by decide) ?_
        have := ih (k + 1) (by omega) (by omega)
        rw [e, ← nI_add, ← nI_add k 1] at this
        exact this _ _
      · refine G_iload (pc := 57) M dX7_ranked_57 rfl ?_
        refine G_iload (pc := 59) M dX7_ranked_59 rfl ?_
        refine G_icmp_ne (pc := 61) M 74 dX7_ranked_61 (by decide) (fun h61 => ?_) (fun h61 => ?_)
        · have e : ahd (fun a => ct (64 * s + a)) a (k + 1) = ahd (fun a => ct (64 * s + a)) a k + 0 := by simp [ahd, ahdB, h54, h61]
          refine G_iconst (pc := 74) (v := 0) M dX7_ranked_74 (by decide +kernel) ?_
          refine G_iadd (pc := 75) M dX7_ranked_75 ?_
          refine G_istore (pc := 76) M dX7_ranked_76 (Nat.le_of_ble_eq_true rfl) ?_
          refine G_iinc (pc := 78) (v := 1) M dX7_ranked_78 rfl (by decide +kernel) (Nat.le_of_ble_eq_true rfl) ?_
          refine G_goto (pc := 81) M 14 dX7_ranked_81 (by decide) ?_
          have := ih (k + 1) (by omega) (by omega)
          rw [e, ← nI_add, ← nI_add k 1] at this
          exact this _ _
        · refine G_iload (pc := 64) M dX7_ranked_64 rfl ?_
          refine G_iload_n (pc := 66) M dX7_ranked_66 rfl ?_
          refine G_icmp_ge (pc := 67) M 74 dX7_ranked_67 (by decide) (fun h67 => ?_) (fun h67 => ?_)
          · have e67 := (nI_leI (a := a) (b := k) (by omega) (by omega)).mp h67
            have e : ahd (fun a => ct (64 * s + a)) a (k + 1) = ahd (fun a => ct (64 * s + a)) a k + 0 := by simp [ahd, ahdB, h54, Nat.not_lt.mpr e67]
            refine G_iconst (pc := 74) (v := 0) M dX7_ranked_74 (by decide +kernel) ?_
            refine G_iadd (pc := 75) M dX7_ranked_75 ?_
            refine G_istore (pc := 76) M dX7_ranked_76 (Nat.le_of_ble_eq_true rfl) ?_
            refine G_iinc (pc := 78) (v := 1) M dX7_ranked_78 rfl (by decide +kernel) (Nat.le_of_ble_eq_true rfl) ?_
            refine G_goto (pc := 81) M 14 dX7_ranked_81 (by decide) ?_
            have := ih (k + 1) (by omega) (by omega)
            rw [e, ← nI_add, ← nI_add k 1] at this
            exact this _ _
          · have e67 := Nat.lt_of_not_le (fun q => h67 (nI_le (a := a) (b := k) q (by omega)))
            have h61b : ct (64 * s + k) = ct (64 * s + a) := by simpa using h61
            have e : ahd (fun a => ct (64 * s + a)) a (k + 1) = ahd (fun a => ct (64 * s + a)) a k + 1 := by simp [ahd, ahdB, e67, h61b]
            refine G_iconst (pc := 70) (v := 1) M dX7_ranked_70 (by decide +kernel) ?_
            refine G_goto (pc := 71) M 75 dX7_ranked_71 (by decide) ?_
            refine G_iadd (pc := 75) M dX7_ranked_75 ?_
            refine G_istore (pc := 76) M dX7_ranked_76 (Nat.le_of_ble_eq_true rfl) ?_
            refine G_iinc (pc := 78) (v := 1) M dX7_ranked_78 rfl (by decide +kernel) (Nat.le_of_ble_eq_true rfl) ?_
            refine G_goto (pc := 81) M 14 dX7_ranked_81 (by decide) ?_
            have := ih (k + 1) (by omega) (by omega)
            rw [e, ← nI_add, ← nI_add k 1] at this
            exact this _ _
theorem rnk_out {D : DD} {X : MX} {A : Nat → Prop} (M : CX D X A mi_X7_ranked.1.cls mi_X7_ranked.2.1 mi_X7_ranked.2.2.1 (miR mi_X7_ranked)) (hr : RT X mi_X7_ranked.2.2.2.1) {ad : Nat → Nat} {fs : List Value} {ct : Nat → Int32} {s p : Nat} (hs : s < 3) (hp : p < 2 ^ 31) (hf8 : gt fs 8 = some (.ref (ad 1))) : ∀ m : Nat, m ≤ 64 → ∀ z1 z2 z3 z4 : Option Value,
    G D X A 0 0 (GQ D X A ad 2 (fun v c => v = some (.int (nI (rnk (fun a => ct (64 * s + a)) p m))) ∧ c = [ob 7 fs, ia D 192 ct])) ad 2 [some (.ref (ad 0)), some (.int (nI s)), some (.int (nI p)), some (.int (nI (64 - m))), z1, z2, z3, z4] [] [ob 7 fs, ia D 192 ct] := by
  intro m
  induction m with
  | zero =>
    intro _ z1 z2 z3 z4
    refine G_iload_n (pc := 2) M dX7_ranked_2 rfl ?_
    refine G_bipush (pc := 3) (v := 64) M dX7_ranked_3 (by decide +kernel) ?_
    refine G_icmp_ge (pc := 5) M 98 dX7_ranked_5 (by decide) (fun h5 => ?_) (fun h5 => ?_)
    · refine G_iconst (pc := 98) (v := 0) M dX7_ranked_98 (by decide +kernel) ?_
      exact G_iret M hr dX7_ranked_99 rfl ⟨rfl, rfl⟩
    · exact absurd (nI_le (a := 64) (b := 64 - 0) (by omega) (by omega)) h5
  | succ m ih =>
    intro hm z1 z2 z3 z4
    have hle := ahd_le (fun a => ct (64 * s + a)) (64 - (m + 1)) 64
    have kk : ∀ z1 z2 z3 : Option Value, G D X A 0 0 (GQ D X A ad 2 (fun v c => v = some (.int (nI (rnk (fun a => ct (64 * s + a)) p (m + 1)))) ∧ c = [ob 7 fs, ia D 192 ct])) ad 84 [some (.ref (ad 0)), some (.int (nI s)), some (.int (nI p)), some (.int (nI (64 - (m + 1)))), some (.int (nI (ahd (fun a => ct (64 * s + a)) (64 - (m + 1)) 64))), z1, z2, z3] [] [ob 7 fs, ia D 192 ct] := by
      intro z1 z2 z3
      refine G_iload (pc := 84) M dX7_ranked_84 rfl ?_
      refine G_iload_n (pc := 86) M dX7_ranked_86 rfl ?_
      refine G_icmp_ne (pc := 87) M 92 dX7_ranked_87 (by decide) (fun h87 => ?_) (fun h87 => ?_)
      · have h87b : ¬ ahd (fun a => ct (64 * s + a)) (64 - (m + 1)) 64 = p := fun q => h87 (by rw [q])
        refine G_iinc (pc := 92) (v := 1) M dX7_ranked_92 rfl (by decide +kernel) (Nat.le_of_ble_eq_true rfl) ?_
        refine G_goto (pc := 95) M 2 dX7_ranked_95 (by decide) ?_
        have := ih (by omega)
        rw [show 64 - m = 64 - (m + 1) + 1 by omega, ← nI_1] at this
        rw [rnk, if_neg h87b]
        exact this _ _ _ _
      · have h87b : ahd (fun a => ct (64 * s + a)) (64 - (m + 1)) 64 = p := (nI_eq (by omega) hp).mp (by simpa using h87)
        refine G_iload_n (pc := 90) M dX7_ranked_90 rfl ?_
        exact G_iret M hr dX7_ranked_91 rfl ⟨by rw [rnk, if_pos h87b], rfl⟩
    refine G_iload_n (pc := 2) M dX7_ranked_2 rfl ?_
    refine G_bipush (pc := 3) (v := 64) M dX7_ranked_3 (by decide +kernel) ?_
    refine G_icmp_ge (pc := 5) M 98 dX7_ranked_5 (by decide) (fun h5 => ?_) (fun h5 => ?_)
    · exact absurd ((nI_leI (a := 64) (b := 64 - (m + 1)) (by omega) (by omega)).mp h5) (by omega)
    · refine G_iconst (pc := 8) (v := 0) M dX7_ranked_8 (by decide +kernel) ?_
      refine G_istore (pc := 9) M dX7_ranked_9 (Nat.le_of_ble_eq_true rfl) ?_
      refine G_iconst (pc := 11) (v := 0) M dX7_ranked_11 (by decide +kernel) ?_
      refine G_istore (pc := 12) M dX7_ranked_12 (Nat.le_of_ble_eq_true rfl) ?_
      exact rnk_in M (a := 64 - (m + 1)) hs (by omega) hf8 kk 65 0 (by omega) (by omega) _ _
theorem c_ranked (D : DD) (l : Launch) (ad : Nat → Nat) (fs : List Value) (ct : Nat → Int32) (s p : Nat) (hs : s < 3) (hp : p < 2 ^ 31) (hf8 : gt fs 8 = some (.ref (ad 1))) : Ct D l mi_X7_ranked [.ref (ad 0), .int (nI s), .int (nI p)] ad [ob 7 fs, ia D 192 ct] (fun v c => v = some (.int (nI (rnk (fun a => ct (64 * s + a)) p 64))) ∧ c = [ob 7 fs, ia D 192 ct]) := by
  refine Ct.of (by decide +kernel) (Nat.le_of_ble_eq_true rfl) (fun X A hX M hr => ?_)
  subst hX
  refine G_iconst (pc := 0) (v := 0) M dX7_ranked_0 (by decide +kernel) ?_
  refine G_istore_n (pc := 1) M dX7_ranked_1 (Nat.le_of_ble_eq_true rfl) ?_
  exact rnk_out M hr hs hp hf8 64 (by omega) _ _ _ _
/-- two labels become the lesser one -/
def uniF (le : Nat → Int32) (x y : Int32) (k : Nat) : Nat → Int32 := fun a => if a < k then (if le a = x ∨ le a = y then (if y ≤ x then y else x) else le a) else le a
theorem uniF_0 (le : Nat → Int32) (x y : Int32) : uniF le x y 0 = le := by funext a; simp [uniF]
theorem uniF_at (le : Nat → Int32) (x y : Int32) (k : Nat) : uniF le x y k k = le k := by simp [uniF]
theorem uniF_step (le : Nat → Int32) (x y : Int32) (k : Nat) : upd (uniF le x y k) k (if le k = x ∨ le k = y then (if y ≤ x then y else x) else le k) = uniF le x y (k + 1) := by
  funext j
  simp only [upd, uniF]
  by_cases h : j = k
  · subst h
    rw [if_pos rfl, if_pos (Nat.lt_succ_self j)]
  · rw [if_neg h]
    by_cases h2 : j < k
    · rw [if_pos h2, if_pos (show j < k + 1 by omega)]
    · rw [if_neg h2, if_neg (show ¬ j < k + 1 by omega)]
theorem uni_loop {D : DD} {X : MX} {A : Nat → Prop} (M : CX D X A mi_X7_unite.1.cls mi_X7_unite.2.1 mi_X7_unite.2.2.1 (miR mi_X7_unite)) (hr : RT X mi_X7_unite.2.2.2.1) {ad : Nat → Nat} {fs : List Value} {le : Nat → Int32} {x y : Int32} (hf14 : gt fs 14 = some (.ref (ad 1))) : ∀ m k : Nat, k ≤ 64 → 64 - k < m →
    G D X A 0 0 (GQ D X A ad 2 (fun v c => v = none ∧ c = [ob 7 fs, ia D 64 (uniF le x y 64)])) ad 14 [some (.ref (ad 0)), some (.int x), some (.int y), some (.int (if y ≤ x then y else x)), some (.int (nI k))] [] [ob 7 fs, ia D 64 (uniF le x y k)] := by
  intro m
  induction m with
  | zero => intro k _ h; omega
  | succ m ih =>
    intro k hk hm
    refine G_iload (pc := 14) M dX7_unite_14 rfl ?_
    refine G_bipush (pc := 16) (v := 64) M dX7_unite_16 (by decide +kernel) ?_
    refine G_icmp_ge (pc := 18) M 67 dX7_unite_18 (by decide) (fun h18 => ?_) (fun h18 => ?_)
    · have hk64 : k = 64 := by
        have := (nI_leI (a := 64) (b := k) (by omega) (by omega)).mp h18
        omega
      subst hk64
      exact G_vret M hr dX7_unite_67 rfl ⟨rfl, rfl⟩
    · have hk64 : k < 64 := Nat.lt_of_not_le (fun q => h18 (nI_le q (by omega)))
      refine G_aload_n (pc := 21) M dX7_unite_21 rfl ?_
      refine G_getf (pc := 22) M dX7_unite_22 fl_X7_54 rfl (by first | rfl | assumption) ?_
      refine G_iload (pc := 25) M dX7_unite_25 rfl ?_
      refine G_aload_n (pc := 27) M dX7_unite_27 rfl ?_
      refine G_getf (pc := 28) M dX7_unite_28 fl_X7_54 rfl (by first | rfl | assumption) ?_
      refine G_iload (pc := 31) M dX7_unite_31 rfl ?_
      refine G_iaload (pc := 33) M dX7_unite_33 rfl (by first | assumption | exact vp_in_nI (by omega) (by omega)) ?_
      rw [cl_nI (by omega), uniF_at]
      refine G_iload_n (pc := 34) M dX7_unite_34 rfl ?_
      refine G_icmp_eq (pc := 35) M 49 dX7_unite_35 (by decide) (fun h35 => ?_) (fun h35 => ?_)
      · have e : (if le k = x ∨ le k = y then (if y ≤ x then y else x) else le k) = (if y ≤ x then y else x) := if_pos (Or.inl h35)
        refine G_iload_n (pc := 49) M dX7_unite_49 rfl ?_
        refine G_goto (pc := 50) M 60 dX7_unite_50 (by decide) ?_
        refine G_iastore (pc := 60) M dX7_unite_60 rfl (by first | assumption | exact vp_in_nI (by omega) (by omega)) ?_
        rw [cl_nI (by omega)]
        refine G_iinc (pc := 61) (v := 1) M dX7_unite_61 rfl (by decide +kernel) (Nat.le_of_ble_eq_true rfl) ?_
        refine G_goto (pc := 64) M 14 dX7_unite_64 (by decide) ?_
        have := ih (k + 1) (by omega) (by omega)
        rw [← uniF_step le x y k, e, ← nI_1 k] at this
        exact this
      · refine G_aload_n (pc := 38) M dX7_unite_38 rfl ?_
        refine G_getf (pc := 39) M dX7_unite_39 fl_X7_54 rfl (by first | rfl | assumption) ?_
        refine G_iload (pc := 42) M dX7_unite_42 rfl ?_
        refine G_iaload (pc := 44) M dX7_unite_44 rfl (by first | assumption | exact vp_in_nI (by omega) (by omega)) ?_
        rw [cl_nI (by omega), uniF_at]
        refine G_iload_n (pc := 45) M dX7_unite_45 rfl ?_
        refine G_icmp_ne (pc := 46) M 53 dX7_unite_46 (by decide) (fun h46 => ?_) (fun h46 => ?_)
        · have e : (if le k = x ∨ le k = y then (if y ≤ x then y else x) else le k) = le k := if_neg (by rintro (q | q); exact h35 q; exact h46 q)
          refine G_aload_n (pc := 53) M dX7_unite_53 rfl ?_
          refine G_getf (pc := 54) M dX7_unite_54 fl_X7_54 rfl (by first | rfl | assumption) ?_
          refine G_iload (pc := 57) M dX7_unite_57 rfl ?_
          refine G_iaload (pc := 59) M dX7_unite_59 rfl (by first | assumption | exact vp_in_nI (by omega) (by omega)) ?_
          rw [cl_nI (by omega), uniF_at]
          refine G_iastore (pc := 60) M dX7_unite_60 rfl (by first | assumption | exact vp_in_nI (by omega) (by omega)) ?_
          rw [cl_nI (by omega)]
          refine G_iinc (pc := 61) (v := 1) M dX7_unite_61 rfl (by decide +kernel) (Nat.le_of_ble_eq_true rfl) ?_
          refine G_goto (pc := 64) M 14 dX7_unite_64 (by decide) ?_
          have := ih (k + 1) (by omega) (by omega)
          rw [← uniF_step le x y k, e, ← nI_1 k] at this
          exact this
        · have e : (if le k = x ∨ le k = y then (if y ≤ x then y else x) else le k) = (if y ≤ x then y else x) := if_pos (Or.inr (by simpa using h46))
          refine G_iload_n (pc := 49) M dX7_unite_49 rfl ?_
          refine G_goto (pc := 50) M 60 dX7_unite_50 (by decide) ?_
          refine G_iastore (pc := 60) M dX7_unite_60 rfl (by first | assumption | exact vp_in_nI (by omega) (by omega)) ?_
          rw [cl_nI (by omega)]
          refine G_iinc (pc := 61) (v := 1) M dX7_unite_61 rfl (by decide +kernel) (Nat.le_of_ble_eq_true rfl) ?_
          refine G_goto (pc := 64) M 14 dX7_unite_64 (by decide) ?_
          have := ih (k + 1) (by omega) (by omega)
          rw [← uniF_step le x y k, e, ← nI_1 k] at this
          exact this
theorem c_unite (D : DD) (l : Launch) (ad : Nat → Nat) (fs : List Value) (le : Nat → Int32) (x y : Int32) (hf14 : gt fs 14 = some (.ref (ad 1))) : Ct D l mi_X7_unite [.ref (ad 0), .int x, .int y] ad [ob 7 fs, ia D 64 le] (fun v c => v = none ∧ c = [ob 7 fs, ia D 64 (uniF le x y 64)]) := by
  refine Ct.of (by decide +kernel) (Nat.le_of_ble_eq_true rfl) (fun X A hX M hr => ?_)
  subst hX
  refine G_iload_n (pc := 0) M dX7_unite_0 rfl ?_
  refine G_iload_n (pc := 1) M dX7_unite_1 rfl ?_
  refine G_icmp_ge (pc := 2) M 9 dX7_unite_2 (by decide) (fun h2 => ?_) (fun h2 => ?_)
  · have e : (if y ≤ x then y else x) = y := if_pos h2
    refine G_iload_n (pc := 9) M dX7_unite_9 rfl ?_
    refine G_istore_n (pc := 10) M dX7_unite_10 (Nat.le_of_ble_eq_true rfl) ?_
    refine G_iconst (pc := 11) (v := 0) M dX7_unite_11 (by decide +kernel) ?_
    refine G_istore (pc := 12) M dX7_unite_12 (Nat.le_of_ble_eq_true rfl) ?_
    have := uni_loop M hr (le := le) (x := x) (y := y) hf14 65 0 (by omega) (by omega)
    rw [uniF_0, e] at this
    exact this
  · have e : (if y ≤ x then y else x) = x := if_neg h2
    refine G_iload_n (pc := 5) M dX7_unite_5 rfl ?_
    refine G_goto (pc := 6) M 10 dX7_unite_6 (by decide) ?_
    refine G_istore_n (pc := 10) M dX7_unite_10 (Nat.le_of_ble_eq_true rfl) ?_
    refine G_iconst (pc := 11) (v := 0) M dX7_unite_11 (by decide +kernel) ?_
    refine G_istore (pc := 12) M dX7_unite_12 (Nat.le_of_ble_eq_true rfl) ?_
    have := uni_loop M hr (le := le) (x := x) (y := y) hf14 65 0 (by omega) (by omega)
    rw [uniF_0, e] at this
    exact this
end
section
/-! an array's values beyond its length do not matter -/
theorem vp_ext_i {cA : ClassId} {n : Nat} {f g : Nat → Int32} (h : ∀ i, i < n → f i = g i) : vp_cell cA (n, .inl f) = vp_cell cA (n, .inl g) := by
  show arrV cA n (fun j => .int (f j)) = arrV cA n (fun j => .int (g j))
  simp only [arrV]
  congr 1
  apply Array.ext
  · simp
  · intro i h1 h2
    simp at h1 ⊢
    exact h i (by simpa using h1)
theorem vp_ext_l {cA : ClassId} {n : Nat} {f g : Nat → Int64} (h : ∀ i, i < n → f i = g i) : vp_cell cA (n, .inr (.inl f)) = vp_cell cA (n, .inr (.inl g)) := by
  show arrV cA n (fun j => .long (f j)) = arrV cA n (fun j => .long (g j))
  simp only [arrV]
  congr 1
  apply Array.ext
  · simp
  · intro i h1 h2
    simp at h1 ⊢
    exact h i (by simpa using h1)
theorem norm_P {D : DD} {ad : Nat → Nat} {cs : List va_E} {H : Heap} {k : Nat} {x y : va_E} (hc : gt cs k = some x) (he : ∀ q : Nat, va_at D.1 vcl (q, x) H → va_at D.1 vcl (q, y) H) (hP : va_P D.1 vcl (wsO ad cs) H) : va_P D.1 vcl (wsO ad (cs.set k y)) H := by
  intro i q hq
  rw [wsO_get] at hq
  obtain ⟨c, hci, rfl⟩ := Option.map_eq_some_iff.mp hq
  rw [gt_eq] at hc
  by_cases hik : i = k
  · subst hik
    rw [List.getElem?_set_self (List.getElem?_eq_some_iff.mp hc).1] at hci
    cases hci
    exact he _ (hP i _ (by rw [wsO_get, hc]; rfl))
  · rw [List.getElem?_set_ne (fun q => hik q.symm)] at hci
    exact hP i _ (by rw [wsO_get, hci]; rfl)
theorem norm_D {A : Nat → Prop} {ad : Nat → Nat} {cs : List va_E} {k : Nat} {y : va_E} (hD : va_D A (wsO ad cs)) : va_D A (wsO ad (cs.set k y)) := by
  have key : ∀ (i : Nat) (q : Nat × va_E), (wsO ad (cs.set k y))[i]? = some q → ∃ c, (wsO ad cs)[i]? = some (q.1, c) := by
    intro i q hq
    rw [wsO_get] at hq
    obtain ⟨c, hci, rfl⟩ := Option.map_eq_some_iff.mp hq
    have hl : i < cs.length := by have := (List.getElem?_eq_some_iff.mp hci).1; simpa using this
    exact ⟨cs[i], by rw [wsO_get, List.getElem?_eq_getElem hl]; rfl⟩
  refine ⟨fun i j p q hi hj hpq => ?_, fun i q hq => ?_⟩
  · obtain ⟨c1, e1⟩ := key i p hi
    obtain ⟨c2, e2⟩ := key j q hj
    exact hD.1 i j _ _ e1 e2 hpq
  · obtain ⟨c1, e1⟩ := key i q hq
    exact hD.2 i (q.1, c1) e1
section GN
variable {D : DD} {X : MX} {A : Nat → Prop} {kc ks : Nat} {Q : State → Prop} {ad : Nat → Nat} {pc : Nat} {lv : List (Option Value)} {st : List Value} {cs : List va_E}
theorem G_normI (k : Nat) {n : Nat} {f : Nat → Int32} (g : Nat → Int32) (hc : gt cs k = some (ia D n f)) (h : ∀ i, i < n → f i = g i) (kk : G D X A kc ks Q ad pc lv st (cs.set k (ia D n g))) : G D X A kc ks Q ad pc lv st cs := fun ls H locs hL hP hD hS =>
  kk ls H locs hL (norm_P hc (fun q hq => by show H[q]? = some (vp_cell _ _); rw [← vp_ext_i h]; exact hq) hP) (norm_D hD) hS
theorem G_normZ (k : Nat) {n : Nat} {f : Nat → Int32} (g : Nat → Int32) (hc : gt cs k = some (za D n f)) (h : ∀ i, i < n → f i = g i) (kk : G D X A kc ks Q ad pc lv st (cs.set k (za D n g))) : G D X A kc ks Q ad pc lv st cs := fun ls H locs hL hP hD hS =>
  kk ls H locs hL (norm_P hc (fun q hq => by show H[q]? = some (vp_cell _ _); rw [← vp_ext_i h]; exact hq) hP) (norm_D hD) hS
theorem G_normL (k : Nat) {n : Nat} {f : Nat → Int64} (g : Nat → Int64) (hc : gt cs k = some (la D n f)) (h : ∀ i, i < n → f i = g i) (kk : G D X A kc ks Q ad pc lv st (cs.set k (la D n g))) : G D X A kc ks Q ad pc lv st cs := fun ls H locs hL hP hD hS =>
  kk ls H locs hL (norm_P hc (fun q hq => by show H[q]? = some (vp_cell _ _); rw [← vp_ext_l h]; exact hq) hP) (norm_D hD) hS
end GN
/-! the labels by the last i arcs; u, v: the ends of the arc number t (from 0), g: how many came -/
def unN (L : Nat → Nat) (x y : Nat) : Nat → Nat := fun a => if L a = x ∨ L a = y then min x y else L a
def lab (u v : Nat → Nat) (g : Nat) : Nat → Nat → Nat
  | 0 => fun a => a
  | i + 1 => unN (lab u v g i) (lab u v g i (u (g - 1 - i))) (lab u v g i (v (g - 1 - i)))
def jnd (u v : Nat → Nat) (g i : Nat) : Bool := !decide (lab u v g i (u (g - 1 - i)) = lab u v g i (v (g - 1 - i)))
def cj (u v : Nat → Nat) (g : Nat) : Nat → Nat
  | 0 => 0
  | i + 1 => cj u v g i + (bif jnd u v g i then 1 else 0)
def joF (u v : Nat → Nat) (g : Nat) (jo : Nat → Int32) (i : Nat) : Nat → Int32 := fun t => if g - i ≤ t ∧ t < g then bz (jnd u v g (g - 1 - t)) else jo t
theorem lab_le (u v : Nat → Nat) (g : Nat) : ∀ i a, lab u v g i a ≤ a
  | 0, a => Nat.le_refl a
  | i + 1, a => by
    have h := lab_le u v g i a
    simp only [lab, unN]
    split
    · next hh => rcases hh with hh | hh <;> omega
    · exact h
theorem unN_nI {L : Nat → Nat} (hL : ∀ a, L a ≤ a) {p q : Nat} (hp : p < 64) (hq : q < 64) (a : Nat) (ha : a < 64) : uniF (fun a => nI (L a)) (nI (L p)) (nI (L q)) 64 a = nI (unN L (L p) (L q) a) := by
  have h1 := hL a
  have h2 := hL p
  have h3 := hL q
  simp only [uniF, if_pos ha, unN]
  have e1 : nI (L a) = nI (L p) ↔ L a = L p := nI_eq (by omega) (by omega)
  have e2 : nI (L a) = nI (L q) ↔ L a = L q := nI_eq (by omega) (by omega)
  have e3 : nI (L q) ≤ nI (L p) ↔ L q ≤ L p := nI_leI (by omega) (by omega)
  by_cases h : L a = L p ∨ L a = L q
  · rw [if_pos h, if_pos (by rcases h with h | h; exact Or.inl (e1.mpr h); exact Or.inr (e2.mpr h))]
    by_cases h4 : L q ≤ L p
    · rw [if_pos (e3.mpr h4), Nat.min_eq_right h4]
    · rw [if_neg (fun z => h4 (e3.mp z)), Nat.min_eq_left (by omega)]
  · rw [if_neg h, if_neg (fun z => h (by rcases z with z | z; exact Or.inl (e1.mp z); exact Or.inr (e2.mp z)))]
theorem joF_0 (u v : Nat → Nat) (g : Nat) (jo : Nat → Int32) : joF u v g jo 0 = jo := by
  funext t
  simp only [joF]
  rw [if_neg (by omega)]
theorem joF_step (u v : Nat → Nat) (g : Nat) (jo : Nat → Int32) {i : Nat} (hi : i < g) : upd (joF u v g jo i) (g - i - 1) (bz (jnd u v g i)) = joF u v g jo (i + 1) := by
  funext t
  simp only [upd, joF]
  by_cases h : t = g - i - 1
  · rw [if_pos h, if_pos (by omega), show g - 1 - t = i by omega]
  · rw [if_neg h]
    by_cases h2 : g - i ≤ t ∧ t < g
    · rw [if_pos h2, if_pos (by omega)]
    · rw [if_neg h2, if_neg (by omega)]
theorem ixC (s t : Nat) : (4200 : Int32) * nI s + nI t = nI (4200 * s + t) := by rw [show (4200 : Int32) = nI 4200 from rfl, pk_mul, nI_add]
theorem sub_nI1 (a : Int32) (c : Nat) : a - nI c - 1 = a - nI (c + 1) := by
  rw [← nI_1]
  apply Int32.toBitVec_inj.mp
  simp only [Int32.toBitVec_sub, Int32.toBitVec_add]
  rw [BitVec.sub_sub]
theorem sub_nI0 (a : Int32) : a - nI 0 = a := by rw [nI_0]; simp
theorem dec_lt {m L : Nat} (hm : m < 2 ^ 30) (hL : L < 2 ^ 30) : nI m - 1 < nI L ↔ m ≤ L := by
  rw [Int32.lt_iff_toInt_lt, show (1 : Int32) = nI 1 from rfl, pk_sub_toInt hm (by omega), nI_toInt (by omega)]
  omega
theorem m1_sub (x : Int32) : x + (-1) = x - 1 := by
  apply Int32.toBitVec_inj.mp
  simp only [Int32.toBitVec_sub, Int32.toBitVec_add]
  rw [BitVec.sub_eq_add_neg]
  rfl
end
section
/-! the reference: join -/
theorem vpn1 : vp_nar .boolean 1 = 1 := rfl
theorem vpn0 : vp_nar .boolean 0 = 0 := rfl
abbrev jnW (D : DD) (fs : List Value) (nd ag lw hg le jo : Nat → Int32) : List va_E := [ob 7 fs, ia D 3 nd, ia D 3 ag, ia D 12600 lw, ia D 12600 hg, ia D 64 le, za D 4200 jo]
theorem jn_loop {D : DD} {X : MX} {A : Nat → Prop} (M : CX D X A mi_X7_join.1.cls mi_X7_join.2.1 mi_X7_join.2.2.1 (miR mi_X7_join)) (hr : RT X mi_X7_join.2.2.2.1) {ad : Nat → Nat} {fs : List Value} {nd ag lw hg jo : Nat → Int32} {s g k : Nat} {u v : Nat → Nat} (hs : s < 3) (hg4 : g ≤ 4200) (hk : k ≤ g) (hu : ∀ t, t < g → lw (4200 * s + t) = nI (u t) ∧ u t < 64) (hv : ∀ t, t < g → hg (4200 * s + t) = nI (v t) ∧ v t < 64)
    (hf0 : gt fs 0 = some (.ref (ad 1))) (hf4 : gt fs 4 = some (.ref (ad 2))) (hf6 : gt fs 6 = some (.ref (ad 3))) (hf7 : gt fs 7 = some (.ref (ad 4))) (hf14 : gt fs 14 = some (.ref (ad 5))) (hf15 : gt fs 15 = some (.ref (ad 6))) (m0 : Int32) {z : Int32} : ∀ m i : Nat, i ≤ k → k - i < m → ∀ z1 z2 : Option Value,
    G D X A 0 0 (GQ D X A ad 7 (fun r cs => r = some (.int (m0 - nI (cj u v g k))) ∧ cs = jnW D fs nd ag lw hg (fun a => nI (lab u v g k a)) (joF u v g jo k))) ad 66 [some (.ref (ad 0)), some (.int (nI s)), some (.int z), some (.int (m0 - nI (cj u v g i))), some (.int (nI (g - k))), some (.int (nI (g - i) - 1)), z1, z2] [] (jnW D fs nd ag lw hg (fun a => nI (lab u v g i a)) (joF u v g jo i)) := by
  intro m
  induction m with
  | zero => intro i _ h; omega
  | succ m ih =>
    intro i hi hm z1 z2
    have rest : i < k → ∀ (z1 z2 : Option Value), G D X A 0 0 (GQ D X A ad 7 (fun r cs => r = some (.int (m0 - nI (cj u v g k))) ∧ cs = jnW D fs nd ag lw hg (fun a => nI (lab u v g k a)) (joF u v g jo k))) ad 132 [some (.ref (ad 0)), some (.int (nI s)), some (.int z), some (.int (m0 - nI (cj u v g i))), some (.int (nI (g - k))), some (.int (nI (g - i) - 1)), some (.int (nI (lab u v g i (u (g - 1 - i))))), some (.int (nI (lab u v g i (v (g - 1 - i)))))] [] (jnW D fs nd ag lw hg (fun a => nI (lab u v g i a)) (joF u v g jo (i + 1))) := by
      intro hik _ _
      obtain ⟨eu, hu6⟩ := hu (g - 1 - i) (by omega)
      obtain ⟨ev, hv6⟩ := hv (g - 1 - i) (by omega)
      have l1 := lab_le u v g i (u (g - 1 - i))
      have l2 := lab_le u v g i (v (g - 1 - i))
      refine G_iload_n (pc := 132) M dX7_join_132 rfl ?_
      refine G_iload (pc := 133) M dX7_join_133 rfl ?_
      refine G_iload (pc := 135) M dX7_join_135 rfl ?_
      refine G_icmp_eq (pc := 137) M 144 dX7_join_137 (by decide) (fun h137 => ?_) (fun h137 => ?_)
      · have q : lab u v g i (u (g - 1 - i)) = lab u v g i (v (g - 1 - i)) := (nI_eq (by omega) (by omega)).mp h137
        have e : m0 - nI (cj u v g i) - 0 = m0 - nI (cj u v g (i + 1)) := by simp [cj, jnd, q]
        refine G_iconst (pc := 144) (v := 0) M dX7_join_144 (by decide +kernel) ?_
        refine G_isub (pc := 145) M dX7_join_145 ?_
        rw [e]
        refine G_istore_n (pc := 146) M dX7_join_146 (Nat.le_of_ble_eq_true rfl) ?_
        refine G_aload_n (pc := 147) M dX7_join_147 rfl ?_
        refine G_iload (pc := 148) M dX7_join_148 rfl ?_
        refine G_iload (pc := 150) M dX7_join_150 rfl ?_
        refine G_callv (pc := 152) M [0, 5] dX7_join_152 mv_X7_121 (c_unite D _ (fun j => ad (pn [0, 5] j)) fs (fun a => nI (lab u v g i a)) (nI (lab u v g i (u (g - 1 - i)))) (nI (lab u v g i (v (g - 1 - i)))) hf14) rfl ⟨rfl, rfl, trivial⟩ rfl rfl rfl rfl (Nat.le_of_ble_eq_true rfl) (Nat.le_of_ble_eq_true rfl) (Nat.le_of_ble_eq_true rfl) ⟨Nat.zero_le _, Nat.zero_le _⟩ (fun v c1 hq hlen => ?_)
        obtain ⟨rfl, rfl⟩ := hq
        refine G_iinc (pc := 155) (v := -1) M dX7_join_155 rfl (by decide +kernel) (Nat.le_of_ble_eq_true rfl) ?_
        refine G_goto (pc := 158) M 66 dX7_join_158 (by decide) ?_
        refine G_normI 5 (fun a => nI (lab u v g (i + 1) a)) rfl (fun a ha => unN_nI (lab_le u v g i) hu6 hv6 a ha) ?_
        have := ih (i + 1) (by omega) (by omega)
        rw [show nI (g - (i + 1)) - 1 = nI (g - i) - 1 + -1 by rw [m1_sub, show g - i = (g - (i + 1)) + 1 by omega, nI_pred]] at this
        exact this _ _
      · have q : ¬ lab u v g i (u (g - 1 - i)) = lab u v g i (v (g - 1 - i)) := fun w => h137 (by rw [w])
        have e : m0 - nI (cj u v g i) - 1 = m0 - nI (cj u v g (i + 1)) := by rw [sub_nI1]; simp [cj, jnd, q]
        refine G_iconst (pc := 140) (v := 1) M dX7_join_140 (by decide +kernel) ?_
        refine G_goto (pc := 141) M 145 dX7_join_141 (by decide) ?_
        refine G_isub (pc := 145) M dX7_join_145 ?_
        rw [e]
        refine G_istore_n (pc := 146) M dX7_join_146 (Nat.le_of_ble_eq_true rfl) ?_
        refine G_aload_n (pc := 147) M dX7_join_147 rfl ?_
        refine G_iload (pc := 148) M dX7_join_148 rfl ?_
        refine G_iload (pc := 150) M dX7_join_150 rfl ?_
        refine G_callv (pc := 152) M [0, 5] dX7_join_152 mv_X7_121 (c_unite D _ (fun j => ad (pn [0, 5] j)) fs (fun a => nI (lab u v g i a)) (nI (lab u v g i (u (g - 1 - i)))) (nI (lab u v g i (v (g - 1 - i)))) hf14) rfl ⟨rfl, rfl, trivial⟩ rfl rfl rfl rfl (Nat.le_of_ble_eq_true rfl) (Nat.le_of_ble_eq_true rfl) (Nat.le_of_ble_eq_true rfl) ⟨Nat.zero_le _, Nat.zero_le _⟩ (fun v c1 hq hlen => ?_)
        obtain ⟨rfl, rfl⟩ := hq
        refine G_iinc (pc := 155) (v := -1) M dX7_join_155 rfl (by decide +kernel) (Nat.le_of_ble_eq_true rfl) ?_
        refine G_goto (pc := 158) M 66 dX7_join_158 (by decide) ?_
        refine G_normI 5 (fun a => nI (lab u v g (i + 1) a)) rfl (fun a ha => unN_nI (lab_le u v g i) hu6 hv6 a ha) ?_
        have := ih (i + 1) (by omega) (by omega)
        rw [show nI (g - (i + 1)) - 1 = nI (g - i) - 1 + -1 by rw [m1_sub, show g - i = (g - (i + 1)) + 1 by omega, nI_pred]] at this
        exact this _ _
    refine G_iload (pc := 66) M dX7_join_66 rfl ?_
    refine G_iload (pc := 68) M dX7_join_68 rfl ?_
    refine G_icmp_lt (pc := 70) M 161 dX7_join_70 (by decide) (fun h70 => ?_) (fun h70 => ?_)
    · have e : g - i ≤ g - k := (dec_lt (by omega) (by omega)).mp h70
      obtain rfl : i = k := by omega
      refine G_iload_n (pc := 161) M dX7_join_161 rfl ?_
      exact G_iret M hr dX7_join_162 rfl ⟨rfl, rfl⟩
    · have hik : i < k := by
        have : ¬ g - i ≤ g - k := fun w => h70 ((dec_lt (by omega) (by omega)).mpr w)
        omega
      obtain ⟨eu, hu6⟩ := hu (g - 1 - i) (by omega)
      obtain ⟨ev, hv6⟩ := hv (g - 1 - i) (by omega)
      have et : nI (g - i) - 1 = nI (g - 1 - i) := by rw [show g - i = (g - 1 - i) + 1 by omega, nI_pred]
      have l1 := lab_le u v g i (u (g - 1 - i))
      have l2 := lab_le u v g i (v (g - 1 - i))
      refine G_aload_n (pc := 73) M dX7_join_73 rfl ?_
      refine G_getf (pc := 74) M dX7_join_74 fl_X7_54 rfl (by first | rfl | assumption) ?_
      refine G_aload_n (pc := 77) M dX7_join_77 rfl ?_
      refine G_getf (pc := 78) M dX7_join_78 fl_X7_29 rfl (by first | rfl | assumption) ?_
      refine G_sipush (pc := 81) (v := 4200) M dX7_join_81 (by decide +kernel) ?_
      refine G_iload_n (pc := 84) M dX7_join_84 rfl ?_
      refine G_imul (pc := 85) M dX7_join_85 ?_
      refine G_iload (pc := 86) M dX7_join_86 rfl ?_
      refine G_iadd (pc := 88) M dX7_join_88 ?_
      rw [et, ixC]
      refine G_iaload (pc := 89) M dX7_join_89 rfl (by first | assumption | exact vp_in_nI (by omega) (by omega)) ?_
      rw [cl_nI (by omega), eu]
      refine G_iaload (pc := 90) M dX7_join_90 rfl (by first | assumption | exact vp_in_nI (by omega) (by omega)) ?_
      rw [cl_nI (by omega)]
      refine G_istore (pc := 91) M dX7_join_91 (Nat.le_of_ble_eq_true rfl) ?_
      refine G_aload_n (pc := 93) M dX7_join_93 rfl ?_
      refine G_getf (pc := 94) M dX7_join_94 fl_X7_54 rfl (by first | rfl | assumption) ?_
      refine G_aload_n (pc := 97) M dX7_join_97 rfl ?_
      refine G_getf (pc := 98) M dX7_join_98 fl_X7_32 rfl (by first | rfl | assumption) ?_
      refine G_sipush (pc := 101) (v := 4200) M dX7_join_101 (by decide +kernel) ?_
      refine G_iload_n (pc := 104) M dX7_join_104 rfl ?_
      refine G_imul (pc := 105) M dX7_join_105 ?_
      refine G_iload (pc := 106) M dX7_join_106 rfl ?_
      refine G_iadd (pc := 108) M dX7_join_108 ?_
      rw [ixC]
      refine G_iaload (pc := 109) M dX7_join_109 rfl (by first | assumption | exact vp_in_nI (by omega) (by omega)) ?_
      rw [cl_nI (by omega), ev]
      refine G_iaload (pc := 110) M dX7_join_110 rfl (by first | assumption | exact vp_in_nI (by omega) (by omega)) ?_
      rw [cl_nI (by omega)]
      refine G_istore (pc := 111) M dX7_join_111 (Nat.le_of_ble_eq_true rfl) ?_
      refine G_aload_n (pc := 113) M dX7_join_113 rfl ?_
      refine G_getf (pc := 114) M dX7_join_114 fl_X7_57 rfl (by first | rfl | assumption) ?_
      refine G_iload (pc := 117) M dX7_join_117 rfl ?_
      refine G_iload (pc := 119) M dX7_join_119 rfl ?_
      refine G_iload (pc := 121) M dX7_join_121 rfl ?_
      refine G_icmp_eq (pc := 123) M 130 dX7_join_123 (by decide) (fun h123 => ?_) (fun h123 => ?_)
      · have q : lab u v g i (u (g - 1 - i)) = lab u v g i (v (g - 1 - i)) := (nI_eq (by omega) (by omega)).mp h123
        have eb : (0 : Int32) = bz (jnd u v g i) := by simp [jnd, q, bz]
        refine G_iconst (pc := 130) (v := 0) M dX7_join_130 (by decide +kernel) ?_
        refine G_bastore (pc := 131) M dX7_join_131 rfl (by first | assumption | exact vp_in_nI (by omega) (by omega)) ?_
        first | rw [vpn1] | rw [vpn0]
        rw [cl_nI (by omega), show g - 1 - i = g - i - 1 by omega, eb, joF_step u v g jo (by omega), show g - i - 1 = g - 1 - i by omega]
        have := rest hik none none
        rw [et] at this
        exact this
      · have q : ¬ lab u v g i (u (g - 1 - i)) = lab u v g i (v (g - 1 - i)) := fun w => h123 (by rw [w])
        have eb : (1 : Int32) = bz (jnd u v g i) := by simp [jnd, q, bz]
        refine G_iconst (pc := 126) (v := 1) M dX7_join_126 (by decide +kernel) ?_
        refine G_goto (pc := 127) M 131 dX7_join_127 (by decide) ?_
        refine G_bastore (pc := 131) M dX7_join_131 rfl (by first | assumption | exact vp_in_nI (by omega) (by omega)) ?_
        first | rw [vpn1] | rw [vpn0]
        rw [cl_nI (by omega), show g - 1 - i = g - i - 1 by omega, eb, joF_step u v g jo (by omega), show g - i - 1 = g - 1 - i by omega]
        have := rest hik none none
        rw [et] at this
        exact this
theorem jn_init {D : DD} {X : MX} {A : Nat → Prop} (M : CX D X A mi_X7_join.1.cls mi_X7_join.2.1 mi_X7_join.2.2.1 (miR mi_X7_join)) {Q : State → Prop} {ad : Nat → Nat} {fs : List Value} {nd ag lw hg le jo : Nat → Int32} {o1 o2 m0 : Int32} {z5 z6 z7 : Option Value} (hf14 : gt fs 14 = some (.ref (ad 5)))
    (kk : ∀ z4 : Option Value, G D X A 0 0 Q ad 32 [some (.ref (ad 0)), some (.int o1), some (.int o2), some (.int m0), z4, z5, z6, z7] [] (jnW D fs nd ag lw hg (fun a => nI a) jo)) : ∀ m k : Nat, k ≤ 64 → 64 - k < m →
    G D X A 0 0 Q ad 10 [some (.ref (ad 0)), some (.int o1), some (.int o2), some (.int m0), some (.int (nI k)), z5, z6, z7] [] (jnW D fs nd ag lw hg (fun a => if a < k then nI a else le a) jo) := by
  intro m
  induction m with
  | zero => intro k _ h; omega
  | succ m ih =>
    intro k hk hm
    refine G_iload (pc := 10) M dX7_join_10 rfl ?_
    refine G_bipush (pc := 12) (v := 64) M dX7_join_12 (by decide +kernel) ?_
    refine G_icmp_ge (pc := 14) M 32 dX7_join_14 (by decide) (fun h14 => ?_) (fun h14 => ?_)
    · have hk64 : k = 64 := by
        have := (nI_leI (a := 64) (b := k) (by omega) (by omega)).mp h14
        omega
      subst hk64
      refine G_normI 5 (fun a => nI a) rfl (fun a ha => if_pos ha) ?_
      exact kk _
    · have hk64 : k < 64 := Nat.lt_of_not_le (fun q => h14 (nI_le q (by omega)))
      refine G_aload_n (pc := 17) M dX7_join_17 rfl ?_
      refine G_getf (pc := 18) M dX7_join_18 fl_X7_54 rfl (by first | rfl | assumption) ?_
      refine G_iload (pc := 21) M dX7_join_21 rfl ?_
      refine G_iload (pc := 23) M dX7_join_23 rfl ?_
      refine G_iastore (pc := 25) M dX7_join_25 rfl (by first | assumption | exact vp_in_nI (by omega) (by omega)) ?_
      rw [cl_nI (by omega)]
      refine G_iinc (pc := 26) (v := 1) M dX7_join_26 rfl (by decide +kernel) (Nat.le_of_ble_eq_true rfl) ?_
      refine G_goto (pc := 29) M 10 dX7_join_29 (by decide) ?_
      have := ih (k + 1) (by omega) (by omega)
      have e : upd (fun a => if a < k then nI a else le a) k (nI k) = (fun a => if a < k + 1 then nI a else le a) := by
        funext a
        simp only [upd]
        by_cases h : a = k
        · subst h; simp
        · rw [if_neg h]
          by_cases h2 : a < k
          · rw [if_pos h2, if_pos (by omega)]
          · rw [if_neg h2, if_neg (by omega)]
      rw [← e, ← nI_1 k] at this
      exact this
theorem c_join (D : DD) (l : Launch) (ad : Nat → Nat) (fs : List Value) (nd ag lw hg le jo : Nat → Int32) (s g n : Nat) (u v : Nat → Nat) (hs : s < 3) (hg4 : g ≤ 4200) (hn : n < 2 ^ 31) (hag : ag s = nI g) (hu : ∀ t, t < g → lw (4200 * s + t) = nI (u t) ∧ u t < 64) (hv : ∀ t, t < g → hg (4200 * s + t) = nI (v t) ∧ v t < 64)
    (hf0 : gt fs 0 = some (.ref (ad 1))) (hf4 : gt fs 4 = some (.ref (ad 2))) (hf6 : gt fs 6 = some (.ref (ad 3))) (hf7 : gt fs 7 = some (.ref (ad 4))) (hf14 : gt fs 14 = some (.ref (ad 5))) (hf15 : gt fs 15 = some (.ref (ad 6))) :
    Ct D l mi_X7_join [.ref (ad 0), .int (nI s), .int (nI n)] ad (jnW D fs nd ag lw hg le jo) (fun r cs => r = some (.int (nd s - nI (cj u v g (min n g)))) ∧ cs = jnW D fs nd ag lw hg (fun a => nI (lab u v g (min n g) a)) (joF u v g jo (min n g))) := by
  refine Ct.of (by decide +kernel) (Nat.le_of_ble_eq_true rfl) (fun X A hX M hr => ?_)
  subst hX
  have kk : ∀ z4 : Option Value, G D X A 0 0 (GQ D X A ad 7 (fun r cs => r = some (.int (nd s - nI (cj u v g (min n g)))) ∧ cs = jnW D fs nd ag lw hg (fun a => nI (lab u v g (min n g) a)) (joF u v g jo (min n g)))) ad 32 [some (.ref (ad 0)), some (.int (nI s)), some (.int (nI n)), some (.int (nd s)), z4, none, none, none] [] (jnW D fs nd ag lw hg (fun a => nI a) jo) := by
    intro z4
    have fin := jn_loop M hr (nd := nd) (ag := ag) (lw := lw) (hg := hg) (jo := jo) (k := min n g) (z := nI n) (u := u) (v := v) hs hg4 (by omega) hu hv hf0 hf4 hf6 hf7 hf14 hf15 (nd s) (g + 1) 0 (by omega) (by omega) none none
    rw [joF_0, cj, sub_nI0] at fin
    refine G_iload_n (pc := 32) M dX7_join_32 rfl ?_
    refine G_aload_n (pc := 33) M dX7_join_33 rfl ?_
    refine G_getf (pc := 34) M dX7_join_34 fl_X7_23 rfl (by first | rfl | assumption) ?_
    refine G_iload_n (pc := 37) M dX7_join_37 rfl ?_
    refine G_iaload (pc := 38) M dX7_join_38 rfl (by first | assumption | exact vp_in_nI (by omega) (by omega)) ?_
    rw [cl_nI (by omega), hag]
    refine G_icmp_ge (pc := 39) M 53 dX7_join_39 (by decide) (fun h39 => ?_) (fun h39 => ?_)
    · have e : 0 = g - min n g := by
        have := (nI_leI (a := g) (b := n) (by omega) (by omega)).mp h39
        omega
      rw [← e] at fin
      refine G_iconst (pc := 53) (v := 0) M dX7_join_53 (by decide +kernel) ?_
      refine G_istore (pc := 54) M dX7_join_54 (Nat.le_of_ble_eq_true rfl) ?_
      refine G_aload_n (pc := 56) M dX7_join_56 rfl ?_
      refine G_getf (pc := 57) M dX7_join_57 fl_X7_23 rfl (by first | rfl | assumption) ?_
      refine G_iload_n (pc := 60) M dX7_join_60 rfl ?_
      refine G_iaload (pc := 61) M dX7_join_61 rfl (by first | assumption | exact vp_in_nI (by omega) (by omega)) ?_
      rw [cl_nI (by omega), hag]
      refine G_iconst (pc := 62) (v := 1) M dX7_join_62 (by decide +kernel) ?_
      refine G_isub (pc := 63) M dX7_join_63 ?_
      refine G_istore (pc := 64) M dX7_join_64 (Nat.le_of_ble_eq_true rfl) ?_
      exact fin
    · have hng : n < g := Nat.lt_of_not_le (fun w => h39 (nI_le (a := g) (b := n) w (by omega)))
      have e : g - n = g - min n g := by omega
      rw [← e] at fin
      refine G_aload_n (pc := 42) M dX7_join_42 rfl ?_
      refine G_getf (pc := 43) M dX7_join_43 fl_X7_23 rfl (by first | rfl | assumption) ?_
      refine G_iload_n (pc := 46) M dX7_join_46 rfl ?_
      refine G_iaload (pc := 47) M dX7_join_47 rfl (by first | assumption | exact vp_in_nI (by omega) (by omega)) ?_
      rw [cl_nI (by omega), hag]
      refine G_iload_n (pc := 48) M dX7_join_48 rfl ?_
      refine G_isub (pc := 49) M dX7_join_49 ?_
      rw [pk_sub (by omega)]
      refine G_goto (pc := 50) M 54 dX7_join_50 (by decide) ?_
      refine G_istore (pc := 54) M dX7_join_54 (Nat.le_of_ble_eq_true rfl) ?_
      refine G_aload_n (pc := 56) M dX7_join_56 rfl ?_
      refine G_getf (pc := 57) M dX7_join_57 fl_X7_23 rfl (by first | rfl | assumption) ?_
      refine G_iload_n (pc := 60) M dX7_join_60 rfl ?_
      refine G_iaload (pc := 61) M dX7_join_61 rfl (by first | assumption | exact vp_in_nI (by omega) (by omega)) ?_
      rw [cl_nI (by omega), hag]
      refine G_iconst (pc := 62) (v := 1) M dX7_join_62 (by decide +kernel) ?_
      refine G_isub (pc := 63) M dX7_join_63 ?_
      refine G_istore (pc := 64) M dX7_join_64 (Nat.le_of_ble_eq_true rfl) ?_
      exact fin
  refine G_aload_n (pc := 0) M dX7_join_0 rfl ?_
  refine G_getf (pc := 1) M dX7_join_1 fl_X7_7 rfl (by first | rfl | assumption) ?_
  refine G_iload_n (pc := 4) M dX7_join_4 rfl ?_
  refine G_iaload (pc := 5) M dX7_join_5 rfl (by first | assumption | exact vp_in_nI (by omega) (by omega)) ?_
  rw [cl_nI (by omega)]
  refine G_istore_n (pc := 6) M dX7_join_6 (Nat.le_of_ble_eq_true rfl) ?_
  refine G_iconst (pc := 7) (v := 0) M dX7_join_7 (by decide +kernel) ?_
  refine G_istore (pc := 8) M dX7_join_8 (Nat.le_of_ble_eq_true rfl) ?_
  have := jn_init M (le := le) hf14 kk 65 0 (by omega) (by omega)
  simp only [Nat.not_lt_zero, if_false] at this
  exact this
end
section
/-! the reference: shortest -/
def rel1 (W : Nat → Int32) (d : Int32) (x y : Nat) : Nat → Int32 := upd W y (if W x = d ∧ W y < 0 then d + 1 else W y)
def rel2 (W : Nat → Int32) (d : Int32) (x y : Nat) : Nat → Int32 := rel1 (rel1 W d x y) d y x
def pasW (x y : Nat → Nat) (W : Nat → Int32) (d : Int32) : Nat → Nat → Int32
  | 0 => W
  | k + 1 => rel2 (pasW x y W d k) d (x k) (y k)
def outW (x y : Nat → Nat) (ts b : Nat) : Nat → (Nat → Int32) → Nat → Int32
  | 0, W => W
  | m + 1, W => if W b < 0 then outW x y ts b m (pasW x y W (nI (64 - (m + 1))) ts) else W
abbrev shW (D : DD) (fs : List Value) (lw hg th tn wy : Nat → Int32) : List va_E := [ob 7 fs, ia D 12600 lw, ia D 12600 hg, ia D 12600 th, ia D 3 tn, ia D 64 wy]
abbrev shL (ad : Nat → Nat) (s a b : Nat) (x4 : Int32) (x5 x6 x7 : Option Value) : List (Option Value) := [some (.ref (ad 0)), some (.int (nI s)), some (.int (nI a)), some (.int (nI b)), some (.int x4), x5, x6, x7]
theorem sh_half {D : DD} {X : MX} {A : Nat → Prop} (M : CX D X A mi_X7_shortest.1.cls mi_X7_shortest.2.1 mi_X7_shortest.2.2.1 (miR mi_X7_shortest)) {Q : State → Prop} {ad : Nat → Nat} {fs : List Value} {lw hg th tn W1 : Nat → Int32} {s a b x y i : Nat} {d : Int32} (hx : x < 64) (hy : y < 64) (hf16 : gt fs 16 = some (.ref (ad 5)))
    (kk : G D X A 0 0 Q ad 56 (shL ad s a b d (some (.int (nI (i + 1)))) (some (.int (nI x))) (some (.int (nI y)))) [] (shW D fs lw hg th tn (rel1 W1 d y x))) : G D X A 0 0 Q ad 150 (shL ad s a b d (some (.int (nI i))) (some (.int (nI x))) (some (.int (nI y)))) [] (shW D fs lw hg th tn W1) := by
  refine G_aload_n (pc := 150) M dX7_shortest_150 rfl ?_
  refine G_getf (pc := 151) M dX7_shortest_151 fl_X7_61 rfl (by first | rfl | assumption) ?_
  refine G_iload (pc := 154) M dX7_shortest_154 rfl ?_
  refine G_aload_n (pc := 156) M dX7_shortest_156 rfl ?_
  refine G_getf (pc := 157) M dX7_shortest_157 fl_X7_61 rfl (by first | rfl | assumption) ?_
  refine G_iload (pc := 160) M dX7_shortest_160 rfl ?_
  refine G_iaload (pc := 162) M dX7_shortest_162 rfl (by first | assumption | exact vp_in_nI (by omega) (by omega)) ?_
  rw [cl_nI (by omega)]
  refine G_iload (pc := 163) M dX7_shortest_163 rfl ?_
  refine G_icmp_ne (pc := 165) M 185 dX7_shortest_165 (by decide) (fun h165 => ?_) (fun h165 => ?_)
  · have e : (if W1 y = d ∧ W1 x < 0 then d + 1 else W1 x) = W1 x := if_neg (fun q => h165 q.1)
    refine G_aload_n (pc := 185) M dX7_shortest_185 rfl ?_
    refine G_getf (pc := 186) M dX7_shortest_186 fl_X7_61 rfl (by first | rfl | assumption) ?_
    refine G_iload (pc := 189) M dX7_shortest_189 rfl ?_
    refine G_iaload (pc := 191) M dX7_shortest_191 rfl (by first | assumption | exact vp_in_nI (by omega) (by omega)) ?_
    rw [cl_nI (by omega)]
    refine G_iastore (pc := 192) M dX7_shortest_192 rfl (by first | assumption | exact vp_in_nI (by omega) (by omega)) ?_
    rw [cl_nI (by omega)]
    refine G_iinc (pc := 193) (v := 1) M dX7_shortest_193 rfl (by decide +kernel) (Nat.le_of_ble_eq_true rfl) ?_
    refine G_goto (pc := 196) M 56 dX7_shortest_196 (by decide) ?_
    rw [rel1, e, ← nI_1 i] at kk
    exact kk
  · refine G_aload_n (pc := 168) M dX7_shortest_168 rfl ?_
    refine G_getf (pc := 169) M dX7_shortest_169 fl_X7_61 rfl (by first | rfl | assumption) ?_
    refine G_iload (pc := 172) M dX7_shortest_172 rfl ?_
    refine G_iaload (pc := 174) M dX7_shortest_174 rfl (by first | assumption | exact vp_in_nI (by omega) (by omega)) ?_
    rw [cl_nI (by omega)]
    refine G_if_ge (pc := 175) M 185 dX7_shortest_175 (by decide) (fun h175 => ?_) (fun h175 => ?_)
    · have e : (if W1 y = d ∧ W1 x < 0 then d + 1 else W1 x) = W1 x := if_neg (fun q => Int32.not_le.mpr q.2 h175)
      refine G_aload_n (pc := 185) M dX7_shortest_185 rfl ?_
      refine G_getf (pc := 186) M dX7_shortest_186 fl_X7_61 rfl (by first | rfl | assumption) ?_
      refine G_iload (pc := 189) M dX7_shortest_189 rfl ?_
      refine G_iaload (pc := 191) M dX7_shortest_191 rfl (by first | assumption | exact vp_in_nI (by omega) (by omega)) ?_
      rw [cl_nI (by omega)]
      refine G_iastore (pc := 192) M dX7_shortest_192 rfl (by first | assumption | exact vp_in_nI (by omega) (by omega)) ?_
      rw [cl_nI (by omega)]
      refine G_iinc (pc := 193) (v := 1) M dX7_shortest_193 rfl (by decide +kernel) (Nat.le_of_ble_eq_true rfl) ?_
      refine G_goto (pc := 196) M 56 dX7_shortest_196 (by decide) ?_
      rw [rel1, e, ← nI_1 i] at kk
      exact kk
    · have e : (if W1 y = d ∧ W1 x < 0 then d + 1 else W1 x) = d + 1 := if_pos ⟨by simpa using h165, Int32.not_le.mp h175⟩
      refine G_iload (pc := 178) M dX7_shortest_178 rfl ?_
      refine G_iconst (pc := 180) (v := 1) M dX7_shortest_180 (by decide +kernel) ?_
      refine G_iadd (pc := 181) M dX7_shortest_181 ?_
      refine G_goto (pc := 182) M 192 dX7_shortest_182 (by decide) ?_
      refine G_iastore (pc := 192) M dX7_shortest_192 rfl (by first | assumption | exact vp_in_nI (by omega) (by omega)) ?_
      rw [cl_nI (by omega)]
      refine G_iinc (pc := 193) (v := 1) M dX7_shortest_193 rfl (by decide +kernel) (Nat.le_of_ble_eq_true rfl) ?_
      refine G_goto (pc := 196) M 56 dX7_shortest_196 (by decide) ?_
      rw [rel1, e, ← nI_1 i] at kk
      exact kk
theorem sh_in {D : DD} {X : MX} {A : Nat → Prop} (M : CX D X A mi_X7_shortest.1.cls mi_X7_shortest.2.1 mi_X7_shortest.2.2.1 (miR mi_X7_shortest)) {Q : State → Prop} {ad : Nat → Nat} {fs : List Value} {lw hg th tn W : Nat → Int32} {s a b ts : Nat} {x y p : Nat → Nat} {d : Int32} (hs : s < 3) (hts : ts ≤ 4200) (htn : tn s = nI ts) (hp : ∀ i, i < ts → th (4200 * s + i) = nI (p i) ∧ p i < 12600 ∧ lw (p i) = nI (x i) ∧ x i < 64 ∧ hg (p i) = nI (y i) ∧ y i < 64)
    (hf6 : gt fs 6 = some (.ref (ad 1))) (hf7 : gt fs 7 = some (.ref (ad 2))) (hf11 : gt fs 11 = some (.ref (ad 3))) (hf12 : gt fs 12 = some (.ref (ad 4))) (hf16 : gt fs 16 = some (.ref (ad 5)))
    (kk : ∀ z5 z6 z7 : Option Value, G D X A 0 0 Q ad 199 (shL ad s a b d z5 z6 z7) [] (shW D fs lw hg th tn (pasW x y W d ts))) : ∀ m i : Nat, i ≤ ts → ts - i < m → ∀ z6 z7 : Option Value,
    G D X A 0 0 Q ad 56 (shL ad s a b d (some (.int (nI i))) z6 z7) [] (shW D fs lw hg th tn (pasW x y W d i)) := by
  intro m
  induction m with
  | zero => intro i _ h; omega
  | succ m ih =>
    intro i hi hm z6 z7
    refine G_iload (pc := 56) M dX7_shortest_56 rfl ?_
    refine G_aload_n (pc := 58) M dX7_shortest_58 rfl ?_
    refine G_getf (pc := 59) M dX7_shortest_59 fl_X7_47 rfl (by first | rfl | assumption) ?_
    refine G_iload_n (pc := 62) M dX7_shortest_62 rfl ?_
    refine G_iaload (pc := 63) M dX7_shortest_63 rfl (by first | assumption | exact vp_in_nI (by omega) (by omega)) ?_
    rw [cl_nI (by omega), htn]
    refine G_icmp_ge (pc := 64) M 199 dX7_shortest_64 (by decide) (fun h64 => ?_) (fun h64 => ?_)
    · have e : i = ts := by
        have := (nI_leI (a := ts) (b := i) (by omega) (by omega)).mp h64
        omega
      subst e
      exact kk _ _ _
    · have hit : i < ts := Nat.lt_of_not_le (fun q => h64 (nI_le q (by omega)))
      obtain ⟨e1, e2, e3, e4, e5, e6⟩ := hp i hit
      refine G_aload_n (pc := 67) M dX7_shortest_67 rfl ?_
      refine G_getf (pc := 68) M dX7_shortest_68 fl_X7_29 rfl (by first | rfl | assumption) ?_
      refine G_aload_n (pc := 71) M dX7_shortest_71 rfl ?_
      refine G_getf (pc := 72) M dX7_shortest_72 fl_X7_44 rfl (by first | rfl | assumption) ?_
      refine G_sipush (pc := 75) (v := 4200) M dX7_shortest_75 (by decide +kernel) ?_
      refine G_iload_n (pc := 78) M dX7_shortest_78 rfl ?_
      refine G_imul (pc := 79) M dX7_shortest_79 ?_
      refine G_iload (pc := 80) M dX7_shortest_80 rfl ?_
      refine G_iadd (pc := 82) M dX7_shortest_82 ?_
      rw [ixC]
      refine G_iaload (pc := 83) M dX7_shortest_83 rfl (by first | assumption | exact vp_in_nI (by omega) (by omega)) ?_
      rw [cl_nI (by omega), e1]
      refine G_iaload (pc := 84) M dX7_shortest_84 rfl (by first | assumption | exact vp_in_nI (by omega) (by omega)) ?_
      rw [cl_nI (by omega), e3]
      refine G_istore (pc := 85) M dX7_shortest_85 (Nat.le_of_ble_eq_true rfl) ?_
      refine G_aload_n (pc := 87) M dX7_shortest_87 rfl ?_
      refine G_getf (pc := 88) M dX7_shortest_88 fl_X7_32 rfl (by first | rfl | assumption) ?_
      refine G_aload_n (pc := 91) M dX7_shortest_91 rfl ?_
      refine G_getf (pc := 92) M dX7_shortest_92 fl_X7_44 rfl (by first | rfl | assumption) ?_
      refine G_sipush (pc := 95) (v := 4200) M dX7_shortest_95 (by decide +kernel) ?_
      refine G_iload_n (pc := 98) M dX7_shortest_98 rfl ?_
      refine G_imul (pc := 99) M dX7_shortest_99 ?_
      refine G_iload (pc := 100) M dX7_shortest_100 rfl ?_
      refine G_iadd (pc := 102) M dX7_shortest_102 ?_
      rw [ixC]
      refine G_iaload (pc := 103) M dX7_shortest_103 rfl (by first | assumption | exact vp_in_nI (by omega) (by omega)) ?_
      rw [cl_nI (by omega), e1]
      refine G_iaload (pc := 104) M dX7_shortest_104 rfl (by first | assumption | exact vp_in_nI (by omega) (by omega)) ?_
      rw [cl_nI (by omega), e5]
      refine G_istore (pc := 105) M dX7_shortest_105 (Nat.le_of_ble_eq_true rfl) ?_
      refine G_aload_n (pc := 107) M dX7_shortest_107 rfl ?_
      refine G_getf (pc := 108) M dX7_shortest_108 fl_X7_61 rfl (by first | rfl | assumption) ?_
      refine G_iload (pc := 111) M dX7_shortest_111 rfl ?_
      refine G_aload_n (pc := 113) M dX7_shortest_113 rfl ?_
      refine G_getf (pc := 114) M dX7_shortest_114 fl_X7_61 rfl (by first | rfl | assumption) ?_
      refine G_iload (pc := 117) M dX7_shortest_117 rfl ?_
      refine G_iaload (pc := 119) M dX7_shortest_119 rfl (by first | assumption | exact vp_in_nI (by omega) (by omega)) ?_
      rw [cl_nI (by omega)]
      refine G_iload (pc := 120) M dX7_shortest_120 rfl ?_
      refine G_icmp_ne (pc := 122) M 142 dX7_shortest_122 (by decide) (fun h122 => ?_) (fun h122 => ?_)
      · have e : (if pasW x y W d i (x i) = d ∧ pasW x y W d i (y i) < 0 then d + 1 else pasW x y W d i (y i)) = pasW x y W d i (y i) := if_neg (fun q => h122 q.1)
        refine G_aload_n (pc := 142) M dX7_shortest_142 rfl ?_
        refine G_getf (pc := 143) M dX7_shortest_143 fl_X7_61 rfl (by first | rfl | assumption) ?_
        refine G_iload (pc := 146) M dX7_shortest_146 rfl ?_
        refine G_iaload (pc := 148) M dX7_shortest_148 rfl (by first | assumption | exact vp_in_nI (by omega) (by omega)) ?_
        rw [cl_nI (by omega)]
        refine G_iastore (pc := 149) M dX7_shortest_149 rfl (by first | assumption | exact vp_in_nI (by omega) (by omega)) ?_
        rw [cl_nI (by omega), ← e]
        exact sh_half M (W1 := rel1 (pasW x y W d i) d (x i) (y i)) e4 e6 hf16 (ih (i + 1) (by omega) (by omega) _ _)
      · refine G_aload_n (pc := 125) M dX7_shortest_125 rfl ?_
        refine G_getf (pc := 126) M dX7_shortest_126 fl_X7_61 rfl (by first | rfl | assumption) ?_
        refine G_iload (pc := 129) M dX7_shortest_129 rfl ?_
        refine G_iaload (pc := 131) M dX7_shortest_131 rfl (by first | assumption | exact vp_in_nI (by omega) (by omega)) ?_
        rw [cl_nI (by omega)]
        refine G_if_ge (pc := 132) M 142 dX7_shortest_132 (by decide) (fun h132 => ?_) (fun h132 => ?_)
        · have e : (if pasW x y W d i (x i) = d ∧ pasW x y W d i (y i) < 0 then d + 1 else pasW x y W d i (y i)) = pasW x y W d i (y i) := if_neg (fun q => Int32.not_le.mpr q.2 h132)
          refine G_aload_n (pc := 142) M dX7_shortest_142 rfl ?_
          refine G_getf (pc := 143) M dX7_shortest_143 fl_X7_61 rfl (by first | rfl | assumption) ?_
          refine G_iload (pc := 146) M dX7_shortest_146 rfl ?_
          refine G_iaload (pc := 148) M dX7_shortest_148 rfl (by first | assumption | exact vp_in_nI (by omega) (by omega)) ?_
          rw [cl_nI (by omega)]
          refine G_iastore (pc := 149) M dX7_shortest_149 rfl (by first | assumption | exact vp_in_nI (by omega) (by omega)) ?_
          rw [cl_nI (by omega), ← e]
          exact sh_half M (W1 := rel1 (pasW x y W d i) d (x i) (y i)) e4 e6 hf16 (ih (i + 1) (by omega) (by omega) _ _)
        · have e : (if pasW x y W d i (x i) = d ∧ pasW x y W d i (y i) < 0 then d + 1 else pasW x y W d i (y i)) = d + 1 := if_pos ⟨by simpa using h122, Int32.not_le.mp h132⟩
          refine G_iload (pc := 135) M dX7_shortest_135 rfl ?_
          refine G_iconst (pc := 137) (v := 1) M dX7_shortest_137 (by decide +kernel) ?_
          refine G_iadd (pc := 138) M dX7_shortest_138 ?_
          refine G_goto (pc := 139) M 149 dX7_shortest_139 (by decide) ?_
          refine G_iastore (pc := 149) M dX7_shortest_149 rfl (by first | assumption | exact vp_in_nI (by omega) (by omega)) ?_
          rw [cl_nI (by omega), ← e]
          exact sh_half M (W1 := rel1 (pasW x y W d i) d (x i) (y i)) e4 e6 hf16 (ih (i + 1) (by omega) (by omega) _ _)
theorem sh_out {D : DD} {X : MX} {A : Nat → Prop} (M : CX D X A mi_X7_shortest.1.cls mi_X7_shortest.2.1 mi_X7_shortest.2.2.1 (miR mi_X7_shortest)) (hr : RT X mi_X7_shortest.2.2.2.1) {ad : Nat → Nat} {fs : List Value} {lw hg th tn : Nat → Int32} {s a b ts : Nat} {x y p : Nat → Nat} (hs : s < 3) (hb : b < 64) (hts : ts ≤ 4200) (htn : tn s = nI ts) (hp : ∀ i, i < ts → th (4200 * s + i) = nI (p i) ∧ p i < 12600 ∧ lw (p i) = nI (x i) ∧ x i < 64 ∧ hg (p i) = nI (y i) ∧ y i < 64)
    (hf6 : gt fs 6 = some (.ref (ad 1))) (hf7 : gt fs 7 = some (.ref (ad 2))) (hf11 : gt fs 11 = some (.ref (ad 3))) (hf12 : gt fs 12 = some (.ref (ad 4))) (hf16 : gt fs 16 = some (.ref (ad 5))) : ∀ m : Nat, m ≤ 64 → ∀ (W : Nat → Int32) (z5 z6 z7 : Option Value),
    G D X A 0 0 (GQ D X A ad 6 (fun v cs => v = some (.int (outW x y ts b m W b)) ∧ cs = shW D fs lw hg th tn (outW x y ts b m W))) ad 37 (shL ad s a b (nI (64 - m)) z5 z6 z7) [] (shW D fs lw hg th tn W) := by
  intro m
  induction m with
  | zero =>
    intro _ W z5 z6 z7
    refine G_iload (pc := 37) M dX7_shortest_37 rfl ?_
    refine G_bipush (pc := 39) (v := 64) M dX7_shortest_39 (by decide +kernel) ?_
    refine G_icmp_ge (pc := 41) M 205 dX7_shortest_41 (by decide) (fun h41 => ?_) (fun h41 => ?_)
    · refine G_aload_n (pc := 205) M dX7_shortest_205 rfl ?_
      refine G_getf (pc := 206) M dX7_shortest_206 fl_X7_61 rfl (by first | rfl | assumption) ?_
      refine G_iload_n (pc := 209) M dX7_shortest_209 rfl ?_
      refine G_iaload (pc := 210) M dX7_shortest_210 rfl (by first | assumption | exact vp_in_nI (by omega) (by omega)) ?_
      rw [cl_nI (by omega)]
      exact G_iret M hr dX7_shortest_211 rfl ⟨rfl, rfl⟩
    · exact absurd (nI_le (a := 64) (b := 64 - 0) (by omega) (by omega)) h41
  | succ m ih =>
    intro hm W z5 z6 z7
    have nx : W b < 0 → ∀ z5 z6 z7 : Option Value, G D X A 0 0 (GQ D X A ad 6 (fun v cs => v = some (.int (outW x y ts b (m + 1) W b)) ∧ cs = shW D fs lw hg th tn (outW x y ts b (m + 1) W))) ad 199 (shL ad s a b (nI (64 - (m + 1))) z5 z6 z7) [] (shW D fs lw hg th tn (pasW x y W (nI (64 - (m + 1))) ts)) := by
      intro h50 z5 z6 z7
      refine G_iinc (pc := 199) (v := 1) M dX7_shortest_199 rfl (by decide +kernel) (Nat.le_of_ble_eq_true rfl) ?_
      refine G_goto (pc := 202) M 37 dX7_shortest_202 (by decide) ?_
      have := ih (by omega) (pasW x y W (nI (64 - (m + 1))) ts)
      rw [show 64 - m = 64 - (m + 1) + 1 by omega, ← nI_1] at this
      rw [outW, if_pos h50]
      exact this _ _ _
    refine G_iload (pc := 37) M dX7_shortest_37 rfl ?_
    refine G_bipush (pc := 39) (v := 64) M dX7_shortest_39 (by decide +kernel) ?_
    refine G_icmp_ge (pc := 41) M 205 dX7_shortest_41 (by decide) (fun h41 => ?_) (fun h41 => ?_)
    · exact absurd ((nI_leI (a := 64) (b := 64 - (m + 1)) (by omega) (by omega)).mp h41) (by omega)
    · refine G_aload_n (pc := 44) M dX7_shortest_44 rfl ?_
      refine G_getf (pc := 45) M dX7_shortest_45 fl_X7_61 rfl (by first | rfl | assumption) ?_
      refine G_iload_n (pc := 48) M dX7_shortest_48 rfl ?_
      refine G_iaload (pc := 49) M dX7_shortest_49 rfl (by first | assumption | exact vp_in_nI (by omega) (by omega)) ?_
      rw [cl_nI (by omega)]
      refine G_if_ge (pc := 50) M 205 dX7_shortest_50 (by decide) (fun h50 => ?_) (fun h50 => ?_)
      · have h50b := Int32.not_lt.mpr h50
        refine G_aload_n (pc := 205) M dX7_shortest_205 rfl ?_
        refine G_getf (pc := 206) M dX7_shortest_206 fl_X7_61 rfl (by first | rfl | assumption) ?_
        refine G_iload_n (pc := 209) M dX7_shortest_209 rfl ?_
        refine G_iaload (pc := 210) M dX7_shortest_210 rfl (by first | assumption | exact vp_in_nI (by omega) (by omega)) ?_
        rw [cl_nI (by omega)]
        exact G_iret M hr dX7_shortest_211 rfl ⟨by rw [outW, if_neg h50b], by rw [outW, if_neg h50b]⟩
      · have h50b := Int32.not_le.mp h50
        refine G_iconst (pc := 53) (v := 0) M dX7_shortest_53 (by decide +kernel) ?_
        refine G_istore (pc := 54) M dX7_shortest_54 (Nat.le_of_ble_eq_true rfl) ?_
        exact sh_in M hs hts htn hp hf6 hf7 hf11 hf12 hf16 (nx h50b) (ts + 1) 0 (by omega) (by omega) _ _
def wy0 (a : Nat) : Nat → Int32 := fun k => if k = a then 0 else -1
theorem sh_init {D : DD} {X : MX} {A : Nat → Prop} (M : CX D X A mi_X7_shortest.1.cls mi_X7_shortest.2.1 mi_X7_shortest.2.2.1 (miR mi_X7_shortest)) {Q : State → Prop} {ad : Nat → Nat} {fs : List Value} {lw hg th tn wy : Nat → Int32} {s a b : Nat} (ha : a < 64) (hf16 : gt fs 16 = some (.ref (ad 5))) {z5 z6 z7 : Option Value}
    (kk : ∀ z4 : Int32, G D X A 0 0 Q ad 34 (shL ad s a b z4 z5 z6 z7) [] (shW D fs lw hg th tn (wy0 a))) : ∀ m k : Nat, k ≤ 64 → 64 - k < m →
    G D X A 0 0 Q ad 3 (shL ad s a b (nI k) z5 z6 z7) [] (shW D fs lw hg th tn (fun j => if j < k then wy0 a j else wy j)) := by
  intro m
  induction m with
  | zero => intro k _ h; omega
  | succ m ih =>
    intro k hk hm
    refine G_iload (pc := 3) M dX7_shortest_3 rfl ?_
    refine G_bipush (pc := 5) (v := 64) M dX7_shortest_5 (by decide +kernel) ?_
    refine G_icmp_ge (pc := 7) M 34 dX7_shortest_7 (by decide) (fun h7 => ?_) (fun h7 => ?_)
    · have hk64 : k = 64 := by
        have := (nI_leI (a := 64) (b := k) (by omega) (by omega)).mp h7
        omega
      subst hk64
      refine G_normI 5 (wy0 a) rfl (fun j hj => if_pos hj) ?_
      exact kk _
    · have hk64 : k < 64 := Nat.lt_of_not_le (fun q => h7 (nI_le q (by omega)))
      have st : upd (fun j => if j < k then wy0 a j else wy j) k (wy0 a k) = (fun j => if j < k + 1 then wy0 a j else wy j) := by
        funext j
        simp only [upd]
        by_cases h : j = k
        · subst h; simp
        · rw [if_neg h]
          by_cases h2 : j < k
          · rw [if_pos h2, if_pos (by omega)]
          · rw [if_neg h2, if_neg (by omega)]
      refine G_aload_n (pc := 10) M dX7_shortest_10 rfl ?_
      refine G_getf (pc := 11) M dX7_shortest_11 fl_X7_61 rfl (by first | rfl | assumption) ?_
      refine G_iload (pc := 14) M dX7_shortest_14 rfl ?_
      refine G_iload (pc := 16) M dX7_shortest_16 rfl ?_
      refine G_iload_n (pc := 18) M dX7_shortest_18 rfl ?_
      refine G_icmp_ne (pc := 19) M 26 dX7_shortest_19 (by decide) (fun h19 => ?_) (fun h19 => ?_)
      · have e : wy0 a k = -1 := if_neg (fun q => h19 (by rw [q]))
        refine G_iconst (pc := 26) (v := -1) M dX7_shortest_26 (by decide +kernel) ?_
        refine G_iastore (pc := 27) M dX7_shortest_27 rfl (by first | assumption | exact vp_in_nI (by omega) (by omega)) ?_
        rw [cl_nI (by omega), ← e]
        refine G_iinc (pc := 28) (v := 1) M dX7_shortest_28 rfl (by decide +kernel) (Nat.le_of_ble_eq_true rfl) ?_
        refine G_goto (pc := 31) M 3 dX7_shortest_31 (by decide) ?_
        have := ih (k + 1) (by omega) (by omega)
        rw [← st, ← nI_1 k] at this
        exact this
      · have e : wy0 a k = 0 := if_pos ((nI_eq (by omega) (by omega)).mp (by simpa using h19))
        refine G_iconst (pc := 22) (v := 0) M dX7_shortest_22 (by decide +kernel) ?_
        refine G_goto (pc := 23) M 27 dX7_shortest_23 (by decide) ?_
        refine G_iastore (pc := 27) M dX7_shortest_27 rfl (by first | assumption | exact vp_in_nI (by omega) (by omega)) ?_
        rw [cl_nI (by omega), ← e]
        refine G_iinc (pc := 28) (v := 1) M dX7_shortest_28 rfl (by decide +kernel) (Nat.le_of_ble_eq_true rfl) ?_
        refine G_goto (pc := 31) M 3 dX7_shortest_31 (by decide) ?_
        have := ih (k + 1) (by omega) (by omega)
        rw [← st, ← nI_1 k] at this
        exact this
theorem c_shortest (D : DD) (l : Launch) (ad : Nat → Nat) (fs : List Value) (lw hg th tn wy : Nat → Int32) (s a b ts : Nat) (x y p : Nat → Nat) (hs : s < 3) (ha : a < 64) (hb : b < 64) (hts : ts ≤ 4200) (htn : tn s = nI ts) (hp : ∀ i, i < ts → th (4200 * s + i) = nI (p i) ∧ p i < 12600 ∧ lw (p i) = nI (x i) ∧ x i < 64 ∧ hg (p i) = nI (y i) ∧ y i < 64)
    (hf6 : gt fs 6 = some (.ref (ad 1))) (hf7 : gt fs 7 = some (.ref (ad 2))) (hf11 : gt fs 11 = some (.ref (ad 3))) (hf12 : gt fs 12 = some (.ref (ad 4))) (hf16 : gt fs 16 = some (.ref (ad 5))) :
    Ct D l mi_X7_shortest [.ref (ad 0), .int (nI s), .int (nI a), .int (nI b)] ad (shW D fs lw hg th tn wy) (fun v cs => v = some (.int (outW x y ts b 64 (wy0 a) b)) ∧ cs = shW D fs lw hg th tn (outW x y ts b 64 (wy0 a))) := by
  refine Ct.of (by decide +kernel) (Nat.le_of_ble_eq_true rfl) (fun X A hX M hr => ?_)
  subst hX
  have kk : ∀ z4 : Int32, G D X A 0 0 (GQ D X A ad 6 (fun v cs => v = some (.int (outW x y ts b 64 (wy0 a) b)) ∧ cs = shW D fs lw hg th tn (outW x y ts b 64 (wy0 a)))) ad 34 (shL ad s a b z4 none none none) [] (shW D fs lw hg th tn (wy0 a)) := by
    intro z4
    refine G_iconst (pc := 34) (v := 0) M dX7_shortest_34 (by decide +kernel) ?_
    refine G_istore (pc := 35) M dX7_shortest_35 (Nat.le_of_ble_eq_true rfl) ?_
    exact sh_out M hr hs hb hts htn hp hf6 hf7 hf11 hf12 hf16 64 (by omega) (wy0 a) _ _ _
  refine G_iconst (pc := 0) (v := 0) M dX7_shortest_0 (by decide +kernel) ?_
  refine G_istore (pc := 1) M dX7_shortest_1 (Nat.le_of_ble_eq_true rfl) ?_
  have := sh_init M (wy := wy) ha hf16 kk 65 0 (by omega) (by omega)
  simp only [Nat.not_lt_zero, if_false] at this
  exact this
end
section
/-! the reference: ofSet, leads -/
def osum (S : Nat → Int64) (set : Int64) (o : Nat) : Nat → Int64
  | 0 => 0
  | k + 1 => osum S set o k + (bif bt set k then S (30 * k + o) else 0)
theorem ixD (s k lv w : Nat) : (1920 : Int32) * nI s + 30 * nI k + 3 * nI lv + nI w = nI (1920 * s + (30 * k + (3 * lv + w))) := by
  rw [ixB, nI_add]
  congr 1
  omega
theorem ofs_loop {D : DD} {X : MX} {A : Nat → Prop} (M : CX D X A mi_X7_ofSet.1.cls mi_X7_ofSet.2.1 mi_X7_ofSet.2.2.1 (miR mi_X7_ofSet)) (hr : RT X mi_X7_ofSet.2.2.2.1) {ad : Nat → Nat} {fs : List Value} {nd : Nat → Int32} {sm : Nat → Int64} {s nn lv w : Nat} {set : Int64} (hs : s < 3) (hnn : nn ≤ 64) (hnd : nd s = nI nn) (hlv : lv < 10) (hw : w < 3) (hf0 : gt fs 0 = some (.ref (ad 1))) (hf10 : gt fs 10 = some (.ref (ad 2))) : ∀ m k : Nat, k ≤ nn → nn - k < m →
    G D X A 0 0 (GQ D X A ad 3 (fun v cs => v = some (.long (osum (fun j => sm (1920 * s + j)) set (3 * lv + w) nn)) ∧ cs = [ob 7 fs, ia D 3 nd, la D 5760 sm])) ad 6 [some (.ref (ad 0)), some (.int (nI s)), some (.long set), none, some (.int (nI lv)), some (.int (nI w)), some (.long (osum (fun j => sm (1920 * s + j)) set (3 * lv + w) k)), none, some (.int (nI k))] [] [ob 7 fs, ia D 3 nd, la D 5760 sm] := by
  intro m
  induction m with
  | zero => intro k _ h; omega
  | succ m ih =>
    intro k hk hm
    refine G_iload (pc := 6) M dX7_ofSet_6 rfl ?_
    refine G_aload_n (pc := 8) M dX7_ofSet_8 rfl ?_
    refine G_getf (pc := 9) M dX7_ofSet_9 fl_X7_7 rfl (by first | rfl | assumption) ?_
    refine G_iload_n (pc := 12) M dX7_ofSet_12 rfl ?_
    refine G_iaload (pc := 13) M dX7_ofSet_13 rfl (by first | assumption | exact vp_in_nI (by omega) (by omega)) ?_
    rw [cl_nI (by omega), hnd]
    refine G_icmp_ge (pc := 14) M 67 dX7_ofSet_14 (by decide) (fun h14 => ?_) (fun h14 => ?_)
    · have e : k = nn := by
        have := (nI_leI (a := nn) (b := k) (by omega) (by omega)).mp h14
        omega
      subst e
      refine G_lload (pc := 67) M dX7_ofSet_67 rfl ?_
      exact G_lret M hr dX7_ofSet_69 rfl ⟨rfl, rfl⟩
    · have hkn : k < nn := Nat.lt_of_not_le (fun q => h14 (nI_le q (by omega)))
      refine G_lload (pc := 17) M dX7_ofSet_17 rfl ?_
      refine G_lload_n (pc := 19) M dX7_ofSet_19 rfl ?_
      refine G_iload (pc := 20) M dX7_ofSet_20 rfl ?_
      refine G_lshr (pc := 22) M dX7_ofSet_22 ?_
      refine G_lconst (pc := 23) (v := 1) M dX7_ofSet_23 (by decide +kernel) ?_
      refine G_land (pc := 24) M dX7_ofSet_24 ?_
      rw [sb_bt set (by omega)]
      refine G_lconst (pc := 25) (v := 1) M dX7_ofSet_25 (by decide +kernel) ?_
      refine G_lcmp (pc := 26) M dX7_ofSet_26 ?_
      refine G_if_ne (pc := 27) M 57 dX7_ofSet_27 (by decide) (fun h27 => ?_) (fun h27 => ?_)
      · rw [lg_cmp_eq, bif1] at h27
        have e : osum (fun j => sm (1920 * s + j)) set (3 * lv + w) (k + 1) = osum (fun j => sm (1920 * s + j)) set (3 * lv + w) k + 0 := by simp [osum, h27]
        refine G_lconst (pc := 57) (v := 0) M dX7_ofSet_57 (by decide +kernel) ?_
        refine G_ladd (pc := 58) M dX7_ofSet_58 ?_
        refine G_lstore (pc := 59) M dX7_ofSet_59 (Nat.le_of_ble_eq_true rfl) ?_
        refine G_iinc (pc := 61) (v := 1) M dX7_ofSet_61 rfl (by decide +kernel) (Nat.le_of_ble_eq_true rfl) ?_
        refine G_goto (pc := 64) M 6 dX7_ofSet_64 (by decide) ?_
        have := ih (k + 1) (by omega) (by omega)
        rw [e, ← nI_1 k] at this
        exact this
      · rw [lg_cmp_eq, bif1] at h27
        have e : osum (fun j => sm (1920 * s + j)) set (3 * lv + w) (k + 1) = osum (fun j => sm (1920 * s + j)) set (3 * lv + w) k + sm (1920 * s + (30 * k + (3 * lv + w))) := by simp [osum, h27]
        refine G_aload_n (pc := 30) M dX7_ofSet_30 rfl ?_
        refine G_getf (pc := 31) M dX7_ofSet_31 fl_X7_41 rfl (by first | rfl | assumption) ?_
        refine G_sipush (pc := 34) (v := 1920) M dX7_ofSet_34 (by decide +kernel) ?_
        refine G_iload_n (pc := 37) M dX7_ofSet_37 rfl ?_
        refine G_imul (pc := 38) M dX7_ofSet_38 ?_
        refine G_bipush (pc := 39) (v := 30) M dX7_ofSet_39 (by decide +kernel) ?_
        refine G_iload (pc := 41) M dX7_ofSet_41 rfl ?_
        refine G_imul (pc := 43) M dX7_ofSet_43 ?_
        refine G_iadd (pc := 44) M dX7_ofSet_44 ?_
        refine G_iconst (pc := 45) (v := 3) M dX7_ofSet_45 (by decide +kernel) ?_
        refine G_iload (pc := 46) M dX7_ofSet_46 rfl ?_
        refine G_imul (pc := 48) M dX7_ofSet_48 ?_
        refine G_iadd (pc := 49) M dX7_ofSet_49 ?_
        refine G_iload (pc := 50) M dX7_ofSet_50 rfl ?_
        refine G_iadd (pc := 52) M dX7_ofSet_52 ?_
        rw [ixD]
        refine G_laload (pc := 53) M dX7_ofSet_53 rfl (by first | assumption | exact vp_in_nI (by omega) (by omega)) ?_
        rw [cl_nI (by omega)]
        refine G_goto (pc := 54) M 58 dX7_ofSet_54 (by decide) ?_
        refine G_ladd (pc := 58) M dX7_ofSet_58 ?_
        refine G_lstore (pc := 59) M dX7_ofSet_59 (Nat.le_of_ble_eq_true rfl) ?_
        refine G_iinc (pc := 61) (v := 1) M dX7_ofSet_61 rfl (by decide +kernel) (Nat.le_of_ble_eq_true rfl) ?_
        refine G_goto (pc := 64) M 6 dX7_ofSet_64 (by decide) ?_
        have := ih (k + 1) (by omega) (by omega)
        rw [e, ← nI_1 k] at this
        exact this
theorem c_ofSet (D : DD) (l : Launch) (ad : Nat → Nat) (fs : List Value) (nd : Nat → Int32) (sm : Nat → Int64) (s nn lv w : Nat) (set : Int64) (hs : s < 3) (hnn : nn ≤ 64) (hnd : nd s = nI nn) (hlv : lv < 10) (hw : w < 3) (hf0 : gt fs 0 = some (.ref (ad 1))) (hf10 : gt fs 10 = some (.ref (ad 2))) : Ct D l mi_X7_ofSet [.ref (ad 0), .int (nI s), .long set, .int (nI lv), .int (nI w)] ad [ob 7 fs, ia D 3 nd, la D 5760 sm] (fun v cs => v = some (.long (osum (fun j => sm (1920 * s + j)) set (3 * lv + w) nn)) ∧ cs = [ob 7 fs, ia D 3 nd, la D 5760 sm]) := by
  refine Ct.of (by decide +kernel) (Nat.le_of_ble_eq_true rfl) (fun X A hX M hr => ?_)
  subst hX
  refine G_lconst (pc := 0) (v := 0) M dX7_ofSet_0 (by decide +kernel) ?_
  refine G_lstore (pc := 1) M dX7_ofSet_1 (Nat.le_of_ble_eq_true rfl) ?_
  refine G_iconst (pc := 3) (v := 0) M dX7_ofSet_3 (by decide +kernel) ?_
  refine G_istore (pc := 4) M dX7_ofSet_4 (Nat.le_of_ble_eq_true rfl) ?_
  exact ofs_loop M hr hs hnn hnd hlv hw hf0 hf10 65 0 (by omega) (by omega)
/-- whether the key kk leads out of the set by the sign c -/
def ldB (set : Int64) (nn kk : Nat) (c : Int64) : Bool := decide (kk / 64 < kk % 64) && decide (kk % 64 < nn) && (if c = 1 then bt set (kk / 64) && !bt set (kk % 64) else bt set (kk % 64) && !bt set (kk / 64))
theorem bifz (b : Bool) : (bif b then (1 : Int32) else 0) = bz b := rfl
theorem c_leads (D : DD) (l : Launch) (ad : Nat → Nat) (fs : List Value) (nd : Nat → Int32) (s nn kk : Nat) (set c : Int64) (hs : s < 3) (hnn : nn ≤ 64) (hnd : nd s = nI nn) (hkk : kk < 4096) (hf0 : gt fs 0 = some (.ref (ad 1))) : Ct D l mi_X7_leads [.ref (ad 0), .int (nI s), .long set, .int (nI kk), .long c] ad [ob 7 fs, ia D 3 nd] (fun v cs => v = some (.int (bz (ldB set nn kk c))) ∧ cs = [ob 7 fs, ia D 3 nd]) := by
  have e1 : nI kk / 64 = nI (kk / 64) := by rw [n64, pk_div (by omega) (by omega) (by omega)]
  have e2 : nI kk - nI kk / 64 * 64 = nI (kk % 64) := by rw [n64, pk_rem (by omega) (by omega) (by omega)]
  have ha : kk / 64 < 64 := by omega
  have hb : kk % 64 < 64 := by omega
  refine Ct.of (by decide +kernel) (Nat.le_of_ble_eq_true rfl) (fun X A hX M hr => ?_)
  subst hX
  have k3 : ∀ z1 z2 z3 : Option Value, G D X A 0 0 (GQ D X A ad 2 (fun v cs => v = some (.int (bz (ldB set nn kk c))) ∧ cs = [ob 7 fs, ia D 3 nd])) ad 50 [some (.ref (ad 0)), some (.int (nI s)), some (.long set), none, z1, some (.long c), none, some (.int (nI (kk / 64))), some (.int (nI (kk % 64))), some (.int (bz (bt set (kk / 64)))), some (.int (bz (bt set (kk % 64))))] [] [ob 7 fs, ia D 3 nd] := by
    intro z1 z2 z3
    refine G_iload (pc := 50) M dX7_leads_50 rfl ?_
    refine G_iload (pc := 52) M dX7_leads_52 rfl ?_
    refine G_icmp_ge (pc := 54) M 102 dX7_leads_54 (by decide) (fun h54 => ?_) (fun h54 => ?_)
    · have h54b := (nI_leI (a := kk % 64) (b := kk / 64) (by omega) (by omega)).mp h54
      have h54c : decide (kk / 64 < kk % 64) = false := decide_eq_false (by omega)
      refine G_iconst (pc := 102) (v := 0) M dX7_leads_102 (by decide +kernel) ?_
      exact G_zret M hr dX7_leads_103 rfl rfl ⟨by simp [ldB, bz, *], rfl⟩
    · have h54b := Nat.lt_of_not_le (fun q => h54 (nI_le (a := kk % 64) (b := kk / 64) q (by omega)))
      have h54c : decide (kk / 64 < kk % 64) = true := decide_eq_true (by omega)
      refine G_iload (pc := 57) M dX7_leads_57 rfl ?_
      refine G_aload_n (pc := 59) M dX7_leads_59 rfl ?_
      refine G_getf (pc := 60) M dX7_leads_60 fl_X7_7 rfl (by first | rfl | assumption) ?_
      refine G_iload_n (pc := 63) M dX7_leads_63 rfl ?_
      refine G_iaload (pc := 64) M dX7_leads_64 rfl (by first | assumption | exact vp_in_nI (by omega) (by omega)) ?_
      rw [cl_nI (by omega), hnd]
      refine G_icmp_ge (pc := 65) M 102 dX7_leads_65 (by decide) (fun h65 => ?_) (fun h65 => ?_)
      · have h65b := (nI_leI (a := nn) (b := kk % 64) (by omega) (by omega)).mp h65
        have h65c : decide (kk % 64 < nn) = false := decide_eq_false (by omega)
        refine G_iconst (pc := 102) (v := 0) M dX7_leads_102 (by decide +kernel) ?_
        exact G_zret M hr dX7_leads_103 rfl rfl ⟨by simp [ldB, bz, *], rfl⟩
      · have h65b := Nat.lt_of_not_le (fun q => h65 (nI_le (a := nn) (b := kk % 64) q (by omega)))
        have h65c : decide (kk % 64 < nn) = true := decide_eq_true (by omega)
        refine G_lload (pc := 68) M dX7_leads_68 rfl ?_
        refine G_lconst (pc := 70) (v := 1) M dX7_leads_70 (by decide +kernel) ?_
        refine G_lcmp (pc := 71) M dX7_leads_71 ?_
        refine G_if_ne (pc := 72) M 88 dX7_leads_72 (by decide) (fun h72 => ?_) (fun h72 => ?_)
        · rw [lg_cmp_eq] at h72
          refine G_iload (pc := 88) M dX7_leads_88 rfl ?_
          refine G_if_eq (pc := 90) M 102 dX7_leads_90 (by decide) (fun h90 => ?_) (fun h90 => ?_)
          · have h90b := bz0 h90
            refine G_iconst (pc := 102) (v := 0) M dX7_leads_102 (by decide +kernel) ?_
            exact G_zret M hr dX7_leads_103 rfl rfl ⟨by simp [ldB, bz, *], rfl⟩
          · have h90b := bz1 h90
            refine G_iload (pc := 93) M dX7_leads_93 rfl ?_
            refine G_if_ne (pc := 95) M 102 dX7_leads_95 (by decide) (fun h95 => ?_) (fun h95 => ?_)
            · have h95b := bz1 h95
              refine G_iconst (pc := 102) (v := 0) M dX7_leads_102 (by decide +kernel) ?_
              exact G_zret M hr dX7_leads_103 rfl rfl ⟨by simp [ldB, bz, *], rfl⟩
            · have h95b := bz0 (by simpa using h95)
              refine G_iconst (pc := 98) (v := 1) M dX7_leads_98 (by decide +kernel) ?_
              refine G_goto (pc := 99) M 103 dX7_leads_99 (by decide) ?_
              exact G_zret M hr dX7_leads_103 rfl rfl ⟨by simp [ldB, bz, *], rfl⟩
        · rw [lg_cmp_eq] at h72
          refine G_iload (pc := 75) M dX7_leads_75 rfl ?_
          refine G_if_eq (pc := 77) M 102 dX7_leads_77 (by decide) (fun h77 => ?_) (fun h77 => ?_)
          · have h77b := bz0 h77
            refine G_iconst (pc := 102) (v := 0) M dX7_leads_102 (by decide +kernel) ?_
            exact G_zret M hr dX7_leads_103 rfl rfl ⟨by simp [ldB, bz, *], rfl⟩
          · have h77b := bz1 h77
            refine G_iload (pc := 80) M dX7_leads_80 rfl ?_
            refine G_if_ne (pc := 82) M 102 dX7_leads_82 (by decide) (fun h82 => ?_) (fun h82 => ?_)
            · have h82b := bz1 h82
              refine G_iconst (pc := 102) (v := 0) M dX7_leads_102 (by decide +kernel) ?_
              exact G_zret M hr dX7_leads_103 rfl rfl ⟨by simp [ldB, bz, *], rfl⟩
            · have h82b := bz0 (by simpa using h82)
              refine G_goto (pc := 85) M 98 dX7_leads_85 (by decide) ?_
              refine G_iconst (pc := 98) (v := 1) M dX7_leads_98 (by decide +kernel) ?_
              refine G_goto (pc := 99) M 103 dX7_leads_99 (by decide) ?_
              exact G_zret M hr dX7_leads_103 rfl rfl ⟨by simp [ldB, bz, *], rfl⟩
  have k2 : ∀ z1 z2 z3 : Option Value, G D X A 0 0 (GQ D X A ad 2 (fun v cs => v = some (.int (bz (ldB set nn kk c))) ∧ cs = [ob 7 fs, ia D 3 nd])) ad 32 [some (.ref (ad 0)), some (.int (nI s)), some (.long set), none, z1, some (.long c), none, some (.int (nI (kk / 64))), some (.int (nI (kk % 64))), some (.int (bz (bt set (kk / 64)))), z2] [] [ob 7 fs, ia D 3 nd] := by
    intro z1 z2 z3
    refine G_lload_n (pc := 32) M dX7_leads_32 rfl ?_
    refine G_iload (pc := 33) M dX7_leads_33 rfl ?_
    refine G_lshr (pc := 35) M dX7_leads_35 ?_
    refine G_lconst (pc := 36) (v := 1) M dX7_leads_36 (by decide +kernel) ?_
    refine G_land (pc := 37) M dX7_leads_37 ?_
    rw [sb_bt set hb]
    refine G_lconst (pc := 38) (v := 1) M dX7_leads_38 (by decide +kernel) ?_
    refine G_lcmp (pc := 39) M dX7_leads_39 ?_
    refine G_if_ne (pc := 40) M 47 dX7_leads_40 (by decide) (fun h40 => ?_) (fun h40 => ?_)
    · rw [lg_cmp_eq, bif1] at h40
      have e : (0 : Int32) = bz (bt set (kk % 64)) := by simp [h40, bz]
      refine G_iconst (pc := 47) (v := 0) M dX7_leads_47 (by decide +kernel) ?_
      refine G_istore (pc := 48) M dX7_leads_48 (Nat.le_of_ble_eq_true rfl) ?_
      rw [e]
      exact k3 _ none none
    · rw [lg_cmp_eq, bif1] at h40
      have e : (1 : Int32) = bz (bt set (kk % 64)) := by simp [h40, bz]
      refine G_iconst (pc := 43) (v := 1) M dX7_leads_43 (by decide +kernel) ?_
      refine G_goto (pc := 44) M 48 dX7_leads_44 (by decide) ?_
      refine G_istore (pc := 48) M dX7_leads_48 (Nat.le_of_ble_eq_true rfl) ?_
      rw [e]
      exact k3 _ none none
  refine G_iload (pc := 0) M dX7_leads_0 rfl ?_
  refine G_bipush (pc := 2) (v := 64) M dX7_leads_2 (by decide +kernel) ?_
  refine G_idiv (pc := 4) M dX7_leads_4 (by decide +kernel) ?_
  rw [e1]
  refine G_istore (pc := 5) M dX7_leads_5 (Nat.le_of_ble_eq_true rfl) ?_
  refine G_iload (pc := 7) M dX7_leads_7 rfl ?_
  refine G_bipush (pc := 9) (v := 64) M dX7_leads_9 (by decide +kernel) ?_
  refine G_irem (pc := 11) M dX7_leads_11 (by decide +kernel) ?_
  rw [e2]
  refine G_istore (pc := 12) M dX7_leads_12 (Nat.le_of_ble_eq_true rfl) ?_
  refine G_lload_n (pc := 14) M dX7_leads_14 rfl ?_
  refine G_iload (pc := 15) M dX7_leads_15 rfl ?_
  refine G_lshr (pc := 17) M dX7_leads_17 ?_
  refine G_lconst (pc := 18) (v := 1) M dX7_leads_18 (by decide +kernel) ?_
  refine G_land (pc := 19) M dX7_leads_19 ?_
  rw [sb_bt set ha]
  refine G_lconst (pc := 20) (v := 1) M dX7_leads_20 (by decide +kernel) ?_
  refine G_lcmp (pc := 21) M dX7_leads_21 ?_
  refine G_if_ne (pc := 22) M 29 dX7_leads_22 (by decide) (fun h22 => ?_) (fun h22 => ?_)
  · rw [lg_cmp_eq, bif1] at h22
    have e : (0 : Int32) = bz (bt set (kk / 64)) := by simp [h22, bz]
    refine G_iconst (pc := 29) (v := 0) M dX7_leads_29 (by decide +kernel) ?_
    refine G_istore (pc := 30) M dX7_leads_30 (Nat.le_of_ble_eq_true rfl) ?_
    rw [e]
    exact k2 _ _ none
  · rw [lg_cmp_eq, bif1] at h22
    have e : (1 : Int32) = bz (bt set (kk / 64)) := by simp [h22, bz]
    refine G_iconst (pc := 25) (v := 1) M dX7_leads_25 (by decide +kernel) ?_
    refine G_goto (pc := 26) M 30 dX7_leads_26 (by decide) ?_
    refine G_istore (pc := 30) M dX7_leads_30 (Nat.le_of_ble_eq_true rfl) ?_
    rw [e]
    exact k2 _ _ none
end
section
/-! Arrays.fill; Matching -/
theorem fill_loop {D : DD} {X : MX} {A : Nat → Prop} (M : CX D X A mi_J7_fill_53178.1.cls mi_J7_fill_53178.2.1 mi_J7_fill_53178.2.2.1 (miR mi_J7_fill_53178)) (hr : RT X mi_J7_fill_53178.2.2.2.1) {ad : Nat → Nat} {n : Nat} {f : Nat → Int32} {x : Int32} (hn : n < 2 ^ 31) : ∀ m k : Nat, k ≤ n → n - k < m →
    G D X A 0 0 (GQ D X A ad 1 (fun v c => v = none ∧ c = [ia D n (fun _ => x)])) ad 5 [some (.ref (ad 0)), some (.int x), some (.int (nI k)), some (.int (nI n))] [] [ia D n (fun j => if j < k then x else f j)] := by
  intro m
  induction m with
  | zero => intro k _ h; omega
  | succ m ih =>
    intro k hk hm
    refine G_iload_n (pc := 5) M dJ7_fill_53178_5 rfl ?_
    refine G_iload_n (pc := 6) M dJ7_fill_53178_6 rfl ?_
    refine G_icmp_ge (pc := 7) M 20 dJ7_fill_53178_7 (by decide) (fun h7 => ?_) (fun h7 => ?_)
    · have e : k = n := by
        have := (nI_leI (a := n) (b := k) (by omega) (by omega)).mp h7
        omega
      subst e
      refine G_normI 0 (fun _ => x) rfl (fun j hj => if_pos hj) ?_
      exact G_vret M hr dJ7_fill_53178_20 rfl ⟨rfl, rfl⟩
    · have hkn : k < n := Nat.lt_of_not_le (fun q => h7 (nI_le q (by omega)))
      refine G_aload_n (pc := 10) M dJ7_fill_53178_10 rfl ?_
      refine G_iload_n (pc := 11) M dJ7_fill_53178_11 rfl ?_
      refine G_iload_n (pc := 12) M dJ7_fill_53178_12 rfl ?_
      refine G_iastore (pc := 13) M dJ7_fill_53178_13 rfl (by first | assumption | exact vp_in_nI (by omega) (by omega)) ?_
      rw [cl_nI (by omega)]
      refine G_iinc (pc := 14) (v := 1) M dJ7_fill_53178_14 rfl (by decide +kernel) (Nat.le_of_ble_eq_true rfl) ?_
      refine G_goto (pc := 17) M 5 dJ7_fill_53178_17 (by decide) ?_
      have := ih (k + 1) (by omega) (by omega)
      have e : upd (fun j => if j < k then x else f j) k x = (fun j => if j < k + 1 then x else f j) := by
        funext j
        simp only [upd]
        by_cases h : j = k
        · subst h; simp
        · rw [if_neg h]
          by_cases h2 : j < k
          · rw [if_pos h2, if_pos (by omega)]
          · rw [if_neg h2, if_neg (by omega)]
      rw [← e, ← nI_1 k] at this
      exact this
theorem c_filli (D : DD) (l : Launch) (ad : Nat → Nat) (n : Nat) (f : Nat → Int32) (x : Int32) (hn : n < 2 ^ 31) : Ct D l mi_J7_fill_53178 [.ref (ad 0), .int x] ad [ia D n f] (fun v c => v = none ∧ c = [ia D n (fun _ => x)]) := by
  refine Ct.of (by decide +kernel) (Nat.le_of_ble_eq_true rfl) (fun X A hX M hr => ?_)
  subst hX
  refine G_iconst (pc := 0) (v := 0) M dJ7_fill_53178_0 (by decide +kernel) ?_
  refine G_istore_n (pc := 1) M dJ7_fill_53178_1 (Nat.le_of_ble_eq_true rfl) ?_
  refine G_aload_n (pc := 2) M dJ7_fill_53178_2 rfl ?_
  refine G_alen_ia (pc := 3) M dJ7_fill_53178_3 rfl rfl ?_
  refine G_istore_n (pc := 4) M dJ7_fill_53178_4 (Nat.le_of_ble_eq_true rfl) ?_
  have := fill_loop M hr (ad := ad) (f := f) (x := x) hn (n + 1) 0 (by omega) (by omega)
  simp only [Nat.not_lt_zero, if_false] at this
  exact this
theorem fillL_loop {D : DD} {X : MX} {A : Nat → Prop} (M : CX D X A mi_J7_fill_d0a16.1.cls mi_J7_fill_d0a16.2.1 mi_J7_fill_d0a16.2.2.1 (miR mi_J7_fill_d0a16)) (hr : RT X mi_J7_fill_d0a16.2.2.2.1) {ad : Nat → Nat} {n : Nat} {f : Nat → Int64} {x : Int64} (hn : n < 2 ^ 31) : ∀ m k : Nat, k ≤ n → n - k < m →
    G D X A 0 0 (GQ D X A ad 1 (fun v c => v = none ∧ c = [la D n (fun _ => x)])) ad 6 [some (.ref (ad 0)), some (.long x), none, some (.int (nI k)), some (.int (nI n))] [] [la D n (fun j => if j < k then x else f j)] := by
  intro m
  induction m with
  | zero => intro k _ h; omega
  | succ m ih =>
    intro k hk hm
    refine G_iload_n (pc := 6) M dJ7_fill_d0a16_6 rfl ?_
    refine G_iload (pc := 7) M dJ7_fill_d0a16_7 rfl ?_
    refine G_icmp_ge (pc := 9) M 22 dJ7_fill_d0a16_9 (by decide) (fun h9 => ?_) (fun h9 => ?_)
    · have e : k = n := by
        have := (nI_leI (a := n) (b := k) (by omega) (by omega)).mp h9
        omega
      subst e
      refine G_normL 0 (fun _ => x) rfl (fun j hj => if_pos hj) ?_
      exact G_vret M hr dJ7_fill_d0a16_22 rfl ⟨rfl, rfl⟩
    · have hkn : k < n := Nat.lt_of_not_le (fun q => h9 (nI_le q (by omega)))
      refine G_aload_n (pc := 12) M dJ7_fill_d0a16_12 rfl ?_
      refine G_iload_n (pc := 13) M dJ7_fill_d0a16_13 rfl ?_
      refine G_lload_n (pc := 14) M dJ7_fill_d0a16_14 rfl ?_
      refine G_lastore (pc := 15) M dJ7_fill_d0a16_15 rfl (by first | assumption | exact vp_in_nI (by omega) (by omega)) ?_
      rw [cl_nI (by omega)]
      refine G_iinc (pc := 16) (v := 1) M dJ7_fill_d0a16_16 rfl (by decide +kernel) (Nat.le_of_ble_eq_true rfl) ?_
      refine G_goto (pc := 19) M 6 dJ7_fill_d0a16_19 (by decide) ?_
      have := ih (k + 1) (by omega) (by omega)
      have e : vp_updL (fun j => if j < k then x else f j) k x = (fun j => if j < k + 1 then x else f j) := by
        funext j
        simp only [vp_updL]
        by_cases h : j = k
        · subst h; simp
        · rw [if_neg h]
          by_cases h2 : j < k
          · rw [if_pos h2, if_pos (by omega)]
          · rw [if_neg h2, if_neg (by omega)]
      rw [← e, ← nI_1 k] at this
      exact this
theorem c_filll (D : DD) (l : Launch) (ad : Nat → Nat) (n : Nat) (f : Nat → Int64) (x : Int64) (hn : n < 2 ^ 31) : Ct D l mi_J7_fill_d0a16 [.ref (ad 0), .long x] ad [la D n f] (fun v c => v = none ∧ c = [la D n (fun _ => x)]) := by
  refine Ct.of (by decide +kernel) (Nat.le_of_ble_eq_true rfl) (fun X A hX M hr => ?_)
  subst hX
  refine G_iconst (pc := 0) (v := 0) M dJ7_fill_d0a16_0 (by decide +kernel) ?_
  refine G_istore_n (pc := 1) M dJ7_fill_d0a16_1 (Nat.le_of_ble_eq_true rfl) ?_
  refine G_aload_n (pc := 2) M dJ7_fill_d0a16_2 rfl ?_
  refine G_alen_la (pc := 3) M dJ7_fill_d0a16_3 rfl rfl ?_
  refine G_istore (pc := 4) M dJ7_fill_d0a16_4 (Nat.le_of_ble_eq_true rfl) ?_
  have := fillL_loop M hr (ad := ad) (f := f) (x := x) hn (n + 1) 0 (by omega) (by omega)
  simp only [Nat.not_lt_zero, if_false] at this
  exact this
theorem c_mRestart (D : DD) (l : Launch) (ad : Nat → Nat) (pr : Int32) (mt : Nat → Int32) : Ct D l mi_X2_restart [.ref (ad 0)] ad [ob 2 [.ref (ad 1), .int pr], ia D 64 mt] (fun v c => v = none ∧ c = [ob 2 [.ref (ad 1), .int 0], ia D 64 (fun _ => -2)]) := by
  refine Ct.of (by decide +kernel) (Nat.le_of_ble_eq_true rfl) (fun X A hX M hr => ?_)
  subst hX
  refine G_aload_n (pc := 0) M dX2_restart_0 rfl ?_
  refine G_iconst (pc := 1) (v := 0) M dX2_restart_1 (by decide +kernel) ?_
  refine G_putfi (pc := 2) M dX2_restart_2 fl_X2_15 rfl (Nat.le_of_ble_eq_true rfl) ?_
  refine G_aload_n (pc := 5) M dX2_restart_5 rfl ?_
  refine G_getf (pc := 6) M dX2_restart_6 fl_X2_9 rfl (by first | rfl | assumption) ?_
  refine G_bipush (pc := 9) (v := -2) M dX2_restart_9 (by decide +kernel) ?_
  refine G_calls (pc := 11) M [1] dX2_restart_11 ms_X2_19 (c_filli D _ (fun j => ad (pn [1] j)) 64 mt (-2) (by omega)) ⟨rfl, trivial⟩ rfl rfl rfl rfl (Nat.le_of_ble_eq_true rfl) (Nat.le_of_ble_eq_true rfl) (Nat.le_of_ble_eq_true rfl) ⟨Nat.zero_le _, Nat.zero_le _⟩ (fun v c1 hq hlen => ?_)
  obtain ⟨rfl, rfl⟩ := hq
  exact G_vret M hr dX2_restart_14 rfl ⟨rfl, rfl⟩
/-- an arc of x and y makes them mates -/
def mtB (mt : Nat → Int32) (x y : Nat) : Bool := decide (mt x = -2) && decide (mt y = -2)
def mtF (mt : Nat → Int32) (x y : Nat) : Nat → Int32 := bif mtB mt x y then upd (upd mt x (nI y)) y (nI x) else mt
theorem c_mAccept (D : DD) (l : Launch) (ad : Nat → Nat) (pr : Int32) (mt : Nat → Int32) (x y : Nat) (hx : x < 64) (hy : y < 64) : Ct D l mi_X2_accept [.ref (ad 0), .int (nI x), .int (nI y)] ad [ob 2 [.ref (ad 1), .int pr], ia D 64 mt] (fun v c => v = none ∧ c = [ob 2 [.ref (ad 1), .int (bif mtB mt x y then pr + 1 else pr)], ia D 64 (mtF mt x y)]) := by
  refine Ct.of (by decide +kernel) (Nat.le_of_ble_eq_true rfl) (fun X A hX M hr => ?_)
  subst hX
  refine G_aload_n (pc := 0) M dX2_accept_0 rfl ?_
  refine G_getf (pc := 1) M dX2_accept_1 fl_X2_9 rfl (by first | rfl | assumption) ?_
  refine G_iload_n (pc := 4) M dX2_accept_4 rfl ?_
  refine G_iaload (pc := 5) M dX2_accept_5 rfl (by first | assumption | exact vp_in_nI (by omega) (by omega)) ?_
  rw [cl_nI (by omega)]
  refine G_bipush (pc := 6) (v := -2) M dX2_accept_6 (by decide +kernel) ?_
  refine G_icmp_ne (pc := 8) M 46 dX2_accept_8 (by decide) (fun h8 => ?_) (fun h8 => ?_)
  · exact G_vret M hr dX2_accept_46 rfl ⟨rfl, by simp [mtB, mtF, *]⟩
  · have h8b : mt x = -2 := by simpa using h8
    refine G_aload_n (pc := 11) M dX2_accept_11 rfl ?_
    refine G_getf (pc := 12) M dX2_accept_12 fl_X2_9 rfl (by first | rfl | assumption) ?_
    refine G_iload_n (pc := 15) M dX2_accept_15 rfl ?_
    refine G_iaload (pc := 16) M dX2_accept_16 rfl (by first | assumption | exact vp_in_nI (by omega) (by omega)) ?_
    rw [cl_nI (by omega)]
    refine G_bipush (pc := 17) (v := -2) M dX2_accept_17 (by decide +kernel) ?_
    refine G_icmp_ne (pc := 19) M 46 dX2_accept_19 (by decide) (fun h19 => ?_) (fun h19 => ?_)
    · exact G_vret M hr dX2_accept_46 rfl ⟨rfl, by simp [mtB, mtF, *]⟩
    · have h19b : mt y = -2 := by simpa using h19
      refine G_aload_n (pc := 22) M dX2_accept_22 rfl ?_
      refine G_getf (pc := 23) M dX2_accept_23 fl_X2_9 rfl (by first | rfl | assumption) ?_
      refine G_iload_n (pc := 26) M dX2_accept_26 rfl ?_
      refine G_iload_n (pc := 27) M dX2_accept_27 rfl ?_
      refine G_iastore (pc := 28) M dX2_accept_28 rfl (by first | assumption | exact vp_in_nI (by omega) (by omega)) ?_
      rw [cl_nI (by omega)]
      refine G_aload_n (pc := 29) M dX2_accept_29 rfl ?_
      refine G_getf (pc := 30) M dX2_accept_30 fl_X2_9 rfl (by first | rfl | assumption) ?_
      refine G_iload_n (pc := 33) M dX2_accept_33 rfl ?_
      refine G_iload_n (pc := 34) M dX2_accept_34 rfl ?_
      refine G_iastore (pc := 35) M dX2_accept_35 rfl (by first | assumption | exact vp_in_nI (by omega) (by omega)) ?_
      rw [cl_nI (by omega)]
      refine G_aload_n (pc := 36) M dX2_accept_36 rfl ?_
      refine G_dup (pc := 37) M dX2_accept_37 rfl ?_
      refine G_getf (pc := 38) M dX2_accept_38 fl_X2_15 rfl (by first | rfl | assumption) ?_
      refine G_iconst (pc := 41) (v := 1) M dX2_accept_41 (by decide +kernel) ?_
      refine G_iadd (pc := 42) M dX2_accept_42 ?_
      refine G_putfi (pc := 43) M dX2_accept_43 fl_X2_15 rfl (Nat.le_of_ble_eq_true rfl) ?_
      exact G_vret M hr dX2_accept_46 rfl ⟨rfl, by simp [mtB, mtF, *]⟩
end
section
/-! Counters -/
abbrev ctO (ad : Nat → Nat) (nn kk : Nat) (tk lo : Int32) : va_E := ob 0 [.ref (ad 1), .ref (ad 2), .int (nI nn), .int (nI kk), .int tk, .int lo]
theorem c_cRestart (D : DD) (l : Launch) (ad : Nat → Nat) (n0 k0 nn kk : Nat) (tk lo : Int32) (C tg : Nat → Int32) : Ct D l mi_X0_restart [.ref (ad 0), .int (nI nn), .int (nI kk)] ad [ctO ad n0 k0 tk lo, ia D 64 C, ia D 64 tg] (fun v c => v = none ∧ c = [ctO ad nn kk 0 0, ia D 64 (fun _ => 0), ia D 64 tg]) := by
  refine Ct.of (by decide +kernel) (Nat.le_of_ble_eq_true rfl) (fun X A hX M hr => ?_)
  subst hX
  refine G_aload_n (pc := 0) M dX0_restart_0 rfl ?_
  refine G_iload_n (pc := 1) M dX0_restart_1 rfl ?_
  refine G_putfi (pc := 2) M dX0_restart_2 fl_X0_18 rfl (Nat.le_of_ble_eq_true rfl) ?_
  refine G_aload_n (pc := 5) M dX0_restart_5 rfl ?_
  refine G_iload_n (pc := 6) M dX0_restart_6 rfl ?_
  refine G_putfi (pc := 7) M dX0_restart_7 fl_X0_22 rfl (Nat.le_of_ble_eq_true rfl) ?_
  refine G_aload_n (pc := 10) M dX0_restart_10 rfl ?_
  refine G_iconst (pc := 11) (v := 0) M dX0_restart_11 (by decide +kernel) ?_
  refine G_putfi (pc := 12) M dX0_restart_12 fl_X0_25 rfl (Nat.le_of_ble_eq_true rfl) ?_
  refine G_aload_n (pc := 15) M dX0_restart_15 rfl ?_
  refine G_iconst (pc := 16) (v := 0) M dX0_restart_16 (by decide +kernel) ?_
  refine G_putfi (pc := 17) M dX0_restart_17 fl_X0_28 rfl (Nat.le_of_ble_eq_true rfl) ?_
  refine G_aload_n (pc := 20) M dX0_restart_20 rfl ?_
  refine G_getf (pc := 21) M dX0_restart_21 fl_X0_9 rfl (by first | rfl | assumption) ?_
  refine G_iconst (pc := 24) (v := 0) M dX0_restart_24 (by decide +kernel) ?_
  refine G_calls (pc := 25) M [1] dX0_restart_25 ms_X0_31 (c_filli D _ (fun j => ad (pn [1] j)) 64 C 0 (by omega)) ⟨rfl, trivial⟩ rfl rfl rfl rfl (Nat.le_of_ble_eq_true rfl) (Nat.le_of_ble_eq_true rfl) (Nat.le_of_ble_eq_true rfl) ⟨Nat.zero_le _, Nat.zero_le _⟩ (fun v c1 hq hlen => ?_)
  obtain ⟨rfl, rfl⟩ := hq
  exact G_vret M hr dX0_restart_28 rfl ⟨rfl, rfl⟩
def mx0 (v : Int32) : Int32 := if 0 < v then v else 0
def lsD (C : Nat → Int32) (c : Int32) : Nat → Int32 := fun j => mx0 (C j - c)
def lsK (C : Nat → Int32) (c : Int32) (k : Nat) : Nat → Int32 := fun j => if j < k then lsD C c j else C j
theorem lsK_0 (C : Nat → Int32) (c : Int32) : lsK C c 0 = C := by funext j; simp [lsK]
theorem lsK_at (C : Nat → Int32) (c : Int32) (k : Nat) : lsK C c k k = C k := by simp [lsK]
theorem lsK_step (C : Nat → Int32) (c : Int32) (k : Nat) : upd (lsK C c k) k (lsD C c k) = lsK C c (k + 1) := by
  funext j
  simp only [upd, lsK]
  by_cases h : j = k
  · subst h; simp
  · rw [if_neg h]
    by_cases h2 : j < k
    · rw [if_pos h2, if_pos (show j < k + 1 by omega)]
    · rw [if_neg h2, if_neg (show ¬ j < k + 1 by omega)]
theorem upd_at (f : Nat → Int32) (k : Nat) (x : Int32) : upd f k x k = x := by simp [upd]
theorem lsn_loop {D : DD} {X : MX} {A : Nat → Prop} (M : CX D X A mi_X0_lessen.1.cls mi_X0_lessen.2.1 mi_X0_lessen.2.2.1 (miR mi_X0_lessen)) (hr : RT X mi_X0_lessen.2.2.2.1) {ad : Nat → Nat} {nn kk : Nat} {lo c : Int32} {C tg : Nat → Int32} (hnn : nn ≤ 64) : ∀ m k : Nat, k ≤ nn → nn - k < m →
    G D X A 0 0 (GQ D X A ad 3 (fun v cs => v = none ∧ cs = [ctO ad nn kk (nI (cntP (lsD C c) nn)) lo, ia D 64 (lsK C c nn), ia D 64 tg])) ad 7 [some (.ref (ad 0)), some (.int c), some (.int (nI k))] [] [ctO ad nn kk (nI (cntP (lsD C c) k)) lo, ia D 64 (lsK C c k), ia D 64 tg] := by
  intro m
  induction m with
  | zero => intro k _ h; omega
  | succ m ih =>
    intro k hk hm
    refine G_iload_n (pc := 7) M dX0_lessen_7 rfl ?_
    refine G_aload_n (pc := 8) M dX0_lessen_8 rfl ?_
    refine G_getf (pc := 9) M dX0_lessen_9 fl_X0_18 rfl (by first | rfl | assumption) ?_
    refine G_icmp_ge (pc := 12) M 58 dX0_lessen_12 (by decide) (fun h12 => ?_) (fun h12 => ?_)
    · have e : k = nn := by
        have := (nI_leI (a := nn) (b := k) (by omega) (by omega)).mp h12
        omega
      subst e
      exact G_vret M hr dX0_lessen_58 rfl ⟨rfl, rfl⟩
    · have hkn : k < nn := Nat.lt_of_not_le (fun q => h12 (nI_le q (by omega)))
      have em : ∀ v : Int32, (if 0 < v then v else 0) = mx0 v := fun _ => rfl
      refine G_aload_n (pc := 15) M dX0_lessen_15 rfl ?_
      refine G_getf (pc := 16) M dX0_lessen_16 fl_X0_9 rfl (by first | rfl | assumption) ?_
      refine G_iload_n (pc := 19) M dX0_lessen_19 rfl ?_
      refine G_iconst (pc := 20) (v := 0) M dX0_lessen_20 (by decide +kernel) ?_
      refine G_aload_n (pc := 21) M dX0_lessen_21 rfl ?_
      refine G_getf (pc := 22) M dX0_lessen_22 fl_X0_9 rfl (by first | rfl | assumption) ?_
      refine G_iload_n (pc := 25) M dX0_lessen_25 rfl ?_
      refine G_iaload (pc := 26) M dX0_lessen_26 rfl (by first | assumption | exact vp_in_nI (by omega) (by omega)) ?_
      rw [cl_nI (by omega), lsK_at]
      refine G_iload_n (pc := 27) M dX0_lessen_27 rfl ?_
      refine G_isub (pc := 28) M dX0_lessen_28 ?_
      refine G_mmax (pc := 29) M dX0_lessen_29 mm_X0_61 rfl (Nat.le_of_ble_eq_true rfl) (Nat.le_of_ble_eq_true rfl) (Nat.zero_le _) (Nat.zero_le _) ?_
      rw [em]
      refine G_iastore (pc := 32) M dX0_lessen_32 rfl (by first | assumption | exact vp_in_nI (by omega) (by omega)) ?_
      rw [cl_nI (by omega)]
      refine G_aload_n (pc := 33) M dX0_lessen_33 rfl ?_
      refine G_getf (pc := 34) M dX0_lessen_34 fl_X0_9 rfl (by first | rfl | assumption) ?_
      refine G_iload_n (pc := 37) M dX0_lessen_37 rfl ?_
      refine G_iaload (pc := 38) M dX0_lessen_38 rfl (by first | assumption | exact vp_in_nI (by omega) (by omega)) ?_
      rw [cl_nI (by omega), upd_at]
      refine G_if_le (pc := 39) M 52 dX0_lessen_39 (by decide) (fun h39 => ?_) (fun h39 => ?_)
      · have e : cntP (lsD C c) (k + 1) = cntP (lsD C c) k + 0 := by simp [cntP]; simpa [lsD] using h39
        refine G_iinc (pc := 52) (v := 1) M dX0_lessen_52 rfl (by decide +kernel) (Nat.le_of_ble_eq_true rfl) ?_
        refine G_goto (pc := 55) M 7 dX0_lessen_55 (by decide) ?_
        have := ih (k + 1) (by omega) (by omega)
        rw [← lsK_step C c k, e, ← nI_1 k] at this
        first | (rw [Nat.add_zero] at this; exact this) | (rw [← nI_1 (cntP (lsD C c) k)] at this; exact this)
      · have e : cntP (lsD C c) (k + 1) = cntP (lsD C c) k + 1 := by simp [cntP]; simpa [lsD] using h39
        refine G_aload_n (pc := 42) M dX0_lessen_42 rfl ?_
        refine G_dup (pc := 43) M dX0_lessen_43 rfl ?_
        refine G_getf (pc := 44) M dX0_lessen_44 fl_X0_25 rfl (by first | rfl | assumption) ?_
        refine G_iconst (pc := 47) (v := 1) M dX0_lessen_47 (by decide +kernel) ?_
        refine G_iadd (pc := 48) M dX0_lessen_48 ?_
        refine G_putfi (pc := 49) M dX0_lessen_49 fl_X0_25 rfl (Nat.le_of_ble_eq_true rfl) ?_
        refine G_iinc (pc := 52) (v := 1) M dX0_lessen_52 rfl (by decide +kernel) (Nat.le_of_ble_eq_true rfl) ?_
        refine G_goto (pc := 55) M 7 dX0_lessen_55 (by decide) ?_
        have := ih (k + 1) (by omega) (by omega)
        rw [← lsK_step C c k, e, ← nI_1 k] at this
        first | (rw [Nat.add_zero] at this; exact this) | (rw [← nI_1 (cntP (lsD C c) k)] at this; exact this)
theorem c_lessen (D : DD) (l : Launch) (ad : Nat → Nat) (nn kk : Nat) (tk lo c : Int32) (C tg : Nat → Int32) (hnn : nn ≤ 64) : Ct D l mi_X0_lessen [.ref (ad 0), .int c] ad [ctO ad nn kk tk lo, ia D 64 C, ia D 64 tg] (fun v cs => v = none ∧ cs = [ctO ad nn kk (nI (cntP (lsD C c) nn)) lo, ia D 64 (lsK C c nn), ia D 64 tg]) := by
  refine Ct.of (by decide +kernel) (Nat.le_of_ble_eq_true rfl) (fun X A hX M hr => ?_)
  subst hX
  refine G_aload_n (pc := 0) M dX0_lessen_0 rfl ?_
  refine G_iconst (pc := 1) (v := 0) M dX0_lessen_1 (by decide +kernel) ?_
  refine G_putfi (pc := 2) M dX0_lessen_2 fl_X0_25 rfl (Nat.le_of_ble_eq_true rfl) ?_
  refine G_iconst (pc := 5) (v := 0) M dX0_lessen_5 (by decide +kernel) ?_
  refine G_istore_n (pc := 6) M dX0_lessen_6 (Nat.le_of_ble_eq_true rfl) ?_
  have := lsn_loop M hr (ad := ad) (kk := kk) (lo := lo) (c := c) (C := C) (tg := tg) hnn 65 0 (by omega) (by omega)
  rw [lsK_0] at this
  exact this
/-- count(node): counts, how many are taken, what is lost -/
def kC (C : Nat → Int32) (nn kk : Nat) (tk : Int32) (a : Nat) : Nat → Int32 := if C a ≤ 0 then (if nI kk ≤ tk then lsK C 1 nn else upd C a 1) else upd C a (C a + 1)
def kT (C : Nat → Int32) (nn kk : Nat) (tk : Int32) (a : Nat) : Int32 := if C a ≤ 0 then (if nI kk ≤ tk then nI (cntP (lsD C 1) nn) else tk + 1) else tk
def kL (C : Nat → Int32) (kk : Nat) (tk lo : Int32) (a : Nat) : Int32 := if C a ≤ 0 then (if nI kk ≤ tk then lo + 1 else lo) else lo
theorem c_cCount (D : DD) (l : Launch) (ad : Nat → Nat) (nn kk a : Nat) (tk lo : Int32) (C tg : Nat → Int32) (hnn : nn ≤ 64) (ha : a < 64) : Ct D l mi_X0_count [.ref (ad 0), .int (nI a)] ad [ctO ad nn kk tk lo, ia D 64 C, ia D 64 tg] (fun v cs => v = none ∧ cs = [ctO ad nn kk (kT C nn kk tk a) (kL C kk tk lo a), ia D 64 (kC C nn kk tk a), ia D 64 tg]) := by
  refine Ct.of (by decide +kernel) (Nat.le_of_ble_eq_true rfl) (fun X A hX M hr => ?_)
  subst hX
  refine G_aload_n (pc := 0) M dX0_count_0 rfl ?_
  refine G_getf (pc := 1) M dX0_count_1 fl_X0_9 rfl (by first | rfl | assumption) ?_
  refine G_iload_n (pc := 4) M dX0_count_4 rfl ?_
  refine G_iaload (pc := 5) M dX0_count_5 rfl (by first | assumption | exact vp_in_nI (by omega) (by omega)) ?_
  rw [cl_nI (by omega)]
  refine G_if_le (pc := 6) M 22 dX0_count_6 (by decide) (fun h6 => ?_) (fun h6 => ?_)
  · refine G_aload_n (pc := 22) M dX0_count_22 rfl ?_
    refine G_getf (pc := 23) M dX0_count_23 fl_X0_25 rfl (by first | rfl | assumption) ?_
    refine G_aload_n (pc := 26) M dX0_count_26 rfl ?_
    refine G_getf (pc := 27) M dX0_count_27 fl_X0_22 rfl (by first | rfl | assumption) ?_
    refine G_icmp_ge (pc := 30) M 53 dX0_count_30 (by decide) (fun h30 => ?_) (fun h30 => ?_)
    · refine G_aload_n (pc := 53) M dX0_count_53 rfl ?_
      refine G_iconst (pc := 54) (v := 1) M dX0_count_54 (by decide +kernel) ?_
      refine G_callv (pc := 55) M [0, 1, 2] dX0_count_55 mv_X0_37 (c_lessen D _ (fun j => ad (pn [0, 1, 2] j)) nn kk tk lo 1 C tg hnn) rfl ⟨rfl, rfl, rfl, trivial⟩ rfl rfl rfl rfl (Nat.le_of_ble_eq_true rfl) (Nat.le_of_ble_eq_true rfl) (Nat.le_of_ble_eq_true rfl) ⟨Nat.zero_le _, Nat.zero_le _⟩ (fun v c1 hq hlen => ?_)
      obtain ⟨rfl, rfl⟩ := hq
      refine G_aload_n (pc := 58) M dX0_count_58 rfl ?_
      refine G_dup (pc := 59) M dX0_count_59 rfl ?_
      refine G_getf (pc := 60) M dX0_count_60 fl_X0_28 rfl (by first | rfl | assumption) ?_
      refine G_iconst (pc := 63) (v := 1) M dX0_count_63 (by decide +kernel) ?_
      refine G_iadd (pc := 64) M dX0_count_64 ?_
      refine G_putfi (pc := 65) M dX0_count_65 fl_X0_28 rfl (Nat.le_of_ble_eq_true rfl) ?_
      exact G_vret M hr dX0_count_68 rfl ⟨rfl, by simp only [kC, kT, kL]; first | (rw [if_pos h6, if_pos h30, if_pos h6, if_pos h30, if_pos h6, if_pos h30]; rfl) | (rw [if_pos h6, if_neg h30, if_pos h6, if_neg h30, if_pos h6, if_neg h30]; rfl) | (rw [if_neg h6, if_neg h6, if_neg h6]; rfl)⟩
    · refine G_aload_n (pc := 33) M dX0_count_33 rfl ?_
      refine G_getf (pc := 34) M dX0_count_34 fl_X0_9 rfl (by first | rfl | assumption) ?_
      refine G_iload_n (pc := 37) M dX0_count_37 rfl ?_
      refine G_iconst (pc := 38) (v := 1) M dX0_count_38 (by decide +kernel) ?_
      refine G_iastore (pc := 39) M dX0_count_39 rfl (by first | assumption | exact vp_in_nI (by omega) (by omega)) ?_
      rw [cl_nI (by omega)]
      refine G_aload_n (pc := 40) M dX0_count_40 rfl ?_
      refine G_dup (pc := 41) M dX0_count_41 rfl ?_
      refine G_getf (pc := 42) M dX0_count_42 fl_X0_25 rfl (by first | rfl | assumption) ?_
      refine G_iconst (pc := 45) (v := 1) M dX0_count_45 (by decide +kernel) ?_
      refine G_iadd (pc := 46) M dX0_count_46 ?_
      refine G_putfi (pc := 47) M dX0_count_47 fl_X0_25 rfl (Nat.le_of_ble_eq_true rfl) ?_
      refine G_goto (pc := 50) M 68 dX0_count_50 (by decide) ?_
      exact G_vret M hr dX0_count_68 rfl ⟨rfl, by simp only [kC, kT, kL]; first | (rw [if_pos h6, if_pos h30, if_pos h6, if_pos h30, if_pos h6, if_pos h30]; rfl) | (rw [if_pos h6, if_neg h30, if_pos h6, if_neg h30, if_pos h6, if_neg h30]; rfl) | (rw [if_neg h6, if_neg h6, if_neg h6]; rfl)⟩
  · refine G_aload_n (pc := 9) M dX0_count_9 rfl ?_
    refine G_getf (pc := 10) M dX0_count_10 fl_X0_9 rfl (by first | rfl | assumption) ?_
    refine G_iload_n (pc := 13) M dX0_count_13 rfl ?_
    first | refine G_dup2 (pc := 14) M dX0_count_14 rfl rfl ?_ | refine G_dup2L (pc := 14) M dX0_count_14 rfl ?_
    refine G_iaload (pc := 15) M dX0_count_15 rfl (by first | assumption | exact vp_in_nI (by omega) (by omega)) ?_
    rw [cl_nI (by omega)]
    refine G_iconst (pc := 16) (v := 1) M dX0_count_16 (by decide +kernel) ?_
    refine G_iadd (pc := 17) M dX0_count_17 ?_
    refine G_iastore (pc := 18) M dX0_count_18 rfl (by first | assumption | exact vp_in_nI (by omega) (by omega)) ?_
    rw [cl_nI (by omega)]
    refine G_goto (pc := 19) M 68 dX0_count_19 (by decide) ?_
    exact G_vret M hr dX0_count_68 rfl ⟨rfl, by simp only [kC, kT, kL]; first | (rw [if_pos h6, if_pos h30, if_pos h6, if_pos h30, if_pos h6, if_pos h30]; rfl) | (rw [if_pos h6, if_neg h30, if_pos h6, if_neg h30, if_pos h6, if_neg h30]; rfl) | (rw [if_neg h6, if_neg h6, if_neg h6]; rfl)⟩
/-- the greatest count of the first k nodes that are not in ps -/
def gB (f : Nat → Int32) (ps : Int64) : Nat → Int32 × Int32
  | 0 => (-2, 0)
  | k + 1 => if f k ≤ (gB f ps k).2 ∨ bt ps k = true then gB f ps k else (nI k, f k)
theorem grt_loop {D : DD} {X : MX} {A : Nat → Prop} (M : CX D X A mi_X0_greatest.1.cls mi_X0_greatest.2.1 mi_X0_greatest.2.2.1 (miR mi_X0_greatest)) (hr : RT X mi_X0_greatest.2.2.2.1) {ad : Nat → Nat} {fs : List Value} {nn : Nat} {f : Nat → Int32} {ps : Int64} (hnn : nn ≤ 64) (hf2 : gt fs 2 = some (.int (nI nn))) : ∀ m k : Nat, k ≤ nn → nn - k < m →
    G D X A 0 0 (GQ D X A ad 2 (fun v cs => v = some (.int (gB f ps nn).1) ∧ cs = [ob 0 fs, ia D 64 f])) ad 10 [some (.ref (ad 0)), some (.ref (ad 1)), some (.long ps), none, some (.int (gB f ps k).1), some (.int (gB f ps k).2), some (.int (nI k))] [] [ob 0 fs, ia D 64 f] := by
  intro m
  induction m with
  | zero => intro k _ h; omega
  | succ m ih =>
    intro k hk hm
    refine G_iload (pc := 10) M dX0_greatest_10 rfl ?_
    refine G_aload_n (pc := 12) M dX0_greatest_12 rfl ?_
    refine G_getf (pc := 13) M dX0_greatest_13 fl_X0_18 rfl (by first | rfl | assumption) ?_
    refine G_icmp_ge (pc := 16) M 53 dX0_greatest_16 (by decide) (fun h16 => ?_) (fun h16 => ?_)
    · have e : k = nn := by
        have := (nI_leI (a := nn) (b := k) (by omega) (by omega)).mp h16
        omega
      subst e
      refine G_iload (pc := 53) M dX0_greatest_53 rfl ?_
      exact G_iret M hr dX0_greatest_55 rfl ⟨rfl, rfl⟩
    · have hkn : k < nn := Nat.lt_of_not_le (fun q => h16 (nI_le q (by omega)))
      refine G_aload_n (pc := 19) M dX0_greatest_19 rfl ?_
      refine G_iload (pc := 20) M dX0_greatest_20 rfl ?_
      refine G_iaload (pc := 22) M dX0_greatest_22 rfl (by first | assumption | exact vp_in_nI (by omega) (by omega)) ?_
      rw [cl_nI (by omega)]
      refine G_iload (pc := 23) M dX0_greatest_23 rfl ?_
      refine G_icmp_le (pc := 25) M 47 dX0_greatest_25 (by decide) (fun h25 => ?_) (fun h25 => ?_)
      · have e : gB f ps (k + 1) = gB f ps k := by rw [gB, if_pos (Or.inl h25)]
        refine G_iinc (pc := 47) (v := 1) M dX0_greatest_47 rfl (by decide +kernel) (Nat.le_of_ble_eq_true rfl) ?_
        refine G_goto (pc := 50) M 10 dX0_greatest_50 (by decide) ?_
        have := ih (k + 1) (by omega) (by omega)
        rw [e, ← nI_1 k] at this
        exact this
      · refine G_lload_n (pc := 28) M dX0_greatest_28 rfl ?_
        refine G_iload (pc := 29) M dX0_greatest_29 rfl ?_
        refine G_calln (pc := 31) M [] dX0_greatest_31 mn_X0_57 (c_holds D _ (fun j => ad (pn [] j)) ps (nI k)) trivial rfl rfl rfl rfl (Nat.le_of_ble_eq_true rfl) (Nat.le_of_ble_eq_true rfl) (Nat.le_of_ble_eq_true rfl) ⟨Nat.zero_le _, Nat.zero_le _⟩ (fun v c1 hq hlen => ?_)
        obtain ⟨rfl, rfl⟩ := hq
        refine G_if_ne (pc := 34) M 47 dX0_greatest_34 (by decide) (fun h34 => ?_) (fun h34 => ?_)
        · have e : gB f ps (k + 1) = gB f ps k := by
            rw [hb_bt ps (by omega)] at h34
            rw [gB, if_pos (Or.inr (bz1 h34))]
          refine G_iinc (pc := 47) (v := 1) M dX0_greatest_47 rfl (by decide +kernel) (Nat.le_of_ble_eq_true rfl) ?_
          refine G_goto (pc := 50) M 10 dX0_greatest_50 (by decide) ?_
          have := ih (k + 1) (by omega) (by omega)
          rw [e, ← nI_1 k] at this
          exact this
        · have e : gB f ps (k + 1) = (nI k, f k) := by
            rw [hb_bt ps (by omega)] at h34
            have := bz0 h34
            rw [gB, if_neg (fun q => q.elim h25 (fun z => by rw [this] at z; cases z))]
          refine G_iload (pc := 37) M dX0_greatest_37 rfl ?_
          refine G_istore (pc := 39) M dX0_greatest_39 (Nat.le_of_ble_eq_true rfl) ?_
          refine G_aload_n (pc := 41) M dX0_greatest_41 rfl ?_
          refine G_iload (pc := 42) M dX0_greatest_42 rfl ?_
          refine G_iaload (pc := 44) M dX0_greatest_44 rfl (by first | assumption | exact vp_in_nI (by omega) (by omega)) ?_
          rw [cl_nI (by omega)]
          refine G_istore (pc := 45) M dX0_greatest_45 (Nat.le_of_ble_eq_true rfl) ?_
          refine G_iinc (pc := 47) (v := 1) M dX0_greatest_47 rfl (by decide +kernel) (Nat.le_of_ble_eq_true rfl) ?_
          refine G_goto (pc := 50) M 10 dX0_greatest_50 (by decide) ?_
          have := ih (k + 1) (by omega) (by omega)
          rw [e, ← nI_1 k] at this
          exact this
theorem c_greatest (D : DD) (l : Launch) (ad : Nat → Nat) (fs : List Value) (nn : Nat) (f : Nat → Int32) (ps : Int64) (hnn : nn ≤ 64) (hf2 : gt fs 2 = some (.int (nI nn))) : Ct D l mi_X0_greatest [.ref (ad 0), .ref (ad 1), .long ps] ad [ob 0 fs, ia D 64 f] (fun v cs => v = some (.int (gB f ps nn).1) ∧ cs = [ob 0 fs, ia D 64 f]) := by
  refine Ct.of (by decide +kernel) (Nat.le_of_ble_eq_true rfl) (fun X A hX M hr => ?_)
  subst hX
  refine G_bipush (pc := 0) (v := -2) M dX0_greatest_0 (by decide +kernel) ?_
  refine G_istore (pc := 2) M dX0_greatest_2 (Nat.le_of_ble_eq_true rfl) ?_
  refine G_iconst (pc := 4) (v := 0) M dX0_greatest_4 (by decide +kernel) ?_
  refine G_istore (pc := 5) M dX0_greatest_5 (Nat.le_of_ble_eq_true rfl) ?_
  refine G_iconst (pc := 7) (v := 0) M dX0_greatest_7 (by decide +kernel) ?_
  refine G_istore (pc := 8) M dX0_greatest_8 (Nat.le_of_ble_eq_true rfl) ?_
  exact grt_loop M hr hnn hf2 65 0 (by omega) (by omega)
/-- the node at place j behind those of ps -/
def nap (f : Nat → Int32) (nn : Nat) : Nat → Int64 → Int32
  | 0, ps => (gB f ps nn).1
  | j + 1, ps => if (gB f ps nn).1 = -2 then -2 else nap f nn j (ps ||| (1 <<< ((gB f ps nn).1.toInt64 &&& 63)))
theorem nap_loop {D : DD} {X : MX} {A : Nat → Prop} (M : CX D X A mi_X0_nodeAtPlace.1.cls mi_X0_nodeAtPlace.2.1 mi_X0_nodeAtPlace.2.2.1 (miR mi_X0_nodeAtPlace)) (hr : RT X mi_X0_nodeAtPlace.2.2.2.1) {ad : Nat → Nat} {fs : List Value} {nn p : Nat} {f : Nat → Int32} (hnn : nn ≤ 64) (hp : p < 2 ^ 30) (hf2 : gt fs 2 = some (.int (nI nn))) : ∀ j : Nat, j ≤ p → ∀ (ps : Int64) (z : Int32),
    G D X A 0 0 (GQ D X A ad 2 (fun v cs => v = some (.int (nap f nn j ps)) ∧ cs = [ob 0 fs, ia D 64 f])) ad 9 [some (.ref (ad 0)), some (.ref (ad 1)), some (.int (nI p)), some (.long ps), none, some (.int z), some (.int (nI (p - j)))] [] [ob 0 fs, ia D 64 f] := by
  intro j
  induction j with
  | zero =>
    intro _ ps z
    have fin : ∀ z : Int32, ¬ z = -2 → z = (gB f ps nn).1 → ∀ q : Int64, G D X A 0 0 (GQ D X A ad 2 (fun v cs => v = some (.int (nap f nn 0 ps)) ∧ cs = [ob 0 fs, ia D 64 f])) ad 9 [some (.ref (ad 0)), some (.ref (ad 1)), some (.int (nI p)), some (.long q), none, some (.int z), some (.int (nI (p + 1)))] [] [ob 0 fs, ia D 64 f] := by
      intro z hz e q
      refine G_iload (pc := 9) M dX0_nodeAtPlace_9 rfl ?_
      refine G_iload_n (pc := 11) M dX0_nodeAtPlace_11 rfl ?_
      refine G_icmp_gt (pc := 12) M 46 dX0_nodeAtPlace_12 (by decide) (fun h12 => ?_) (fun h12 => ?_)
      · refine G_iload (pc := 46) M dX0_nodeAtPlace_46 rfl ?_
        exact G_iret M hr dX0_nodeAtPlace_48 rfl ⟨by rw [nap, e], rfl⟩
      · exact absurd (nI_lt (a := p) (b := p + 1) (by omega) (by omega)) h12
    refine G_iload (pc := 9) M dX0_nodeAtPlace_9 rfl ?_
    refine G_iload_n (pc := 11) M dX0_nodeAtPlace_11 rfl ?_
    refine G_icmp_gt (pc := 12) M 46 dX0_nodeAtPlace_12 (by decide) (fun h12 => ?_) (fun h12 => ?_)
    · exact absurd ((nI_ltI (a := p) (b := p - 0) (by omega) (by omega)).mp h12) (by omega)
    · refine G_aload_n (pc := 15) M dX0_nodeAtPlace_15 rfl ?_
      refine G_aload_n (pc := 16) M dX0_nodeAtPlace_16 rfl ?_
      refine G_lload_n (pc := 17) M dX0_nodeAtPlace_17 rfl ?_
      refine G_callv (pc := 18) M [0, 1] dX0_nodeAtPlace_18 mv_X0_53 (c_greatest D _ (fun j => ad (pn [0, 1] j)) fs nn f ps hnn hf2) rfl ⟨rfl, rfl, trivial⟩ rfl rfl rfl rfl (Nat.le_of_ble_eq_true rfl) (Nat.le_of_ble_eq_true rfl) (Nat.le_of_ble_eq_true rfl) ⟨Nat.zero_le _, Nat.zero_le _⟩ (fun v c1 hq hlen => ?_)
      obtain ⟨rfl, rfl⟩ := hq
      refine G_istore (pc := 21) M dX0_nodeAtPlace_21 (Nat.le_of_ble_eq_true rfl) ?_
      refine G_iload (pc := 23) M dX0_nodeAtPlace_23 rfl ?_
      refine G_bipush (pc := 25) (v := -2) M dX0_nodeAtPlace_25 (by decide +kernel) ?_
      refine G_icmp_ne (pc := 27) M 33 dX0_nodeAtPlace_27 (by decide) (fun h27 => ?_) (fun h27 => ?_)
      · refine G_lload_n (pc := 33) M dX0_nodeAtPlace_33 rfl ?_
        refine G_lconst (pc := 34) (v := 1) M dX0_nodeAtPlace_34 (by decide +kernel) ?_
        refine G_iload (pc := 35) M dX0_nodeAtPlace_35 rfl ?_
        refine G_lshl (pc := 37) M dX0_nodeAtPlace_37 ?_
        refine G_lor (pc := 38) M dX0_nodeAtPlace_38 ?_
        refine G_lstore_n (pc := 39) M dX0_nodeAtPlace_39 (Nat.le_of_ble_eq_true rfl) ?_
        refine G_iinc (pc := 40) (v := 1) M dX0_nodeAtPlace_40 rfl (by decide +kernel) (Nat.le_of_ble_eq_true rfl) ?_
        refine G_goto (pc := 43) M 9 dX0_nodeAtPlace_43 (by decide) ?_
        have := fin _ h27 rfl (ps ||| (1 <<< ((gB f ps nn).1.toInt64 &&& 63)))
        rw [← nI_1 p] at this
        exact this
      · refine G_bipush (pc := 30) (v := -2) M dX0_nodeAtPlace_30 (by decide +kernel) ?_
        exact G_iret M hr dX0_nodeAtPlace_32 rfl ⟨by rw [nap]; simpa using h27.symm, rfl⟩
  | succ j ih =>
    intro hj ps z
    refine G_iload (pc := 9) M dX0_nodeAtPlace_9 rfl ?_
    refine G_iload_n (pc := 11) M dX0_nodeAtPlace_11 rfl ?_
    refine G_icmp_gt (pc := 12) M 46 dX0_nodeAtPlace_12 (by decide) (fun h12 => ?_) (fun h12 => ?_)
    · exact absurd ((nI_ltI (a := p) (b := p - (j + 1)) (by omega) (by omega)).mp h12) (by omega)
    · refine G_aload_n (pc := 15) M dX0_nodeAtPlace_15 rfl ?_
      refine G_aload_n (pc := 16) M dX0_nodeAtPlace_16 rfl ?_
      refine G_lload_n (pc := 17) M dX0_nodeAtPlace_17 rfl ?_
      refine G_callv (pc := 18) M [0, 1] dX0_nodeAtPlace_18 mv_X0_53 (c_greatest D _ (fun j => ad (pn [0, 1] j)) fs nn f ps hnn hf2) rfl ⟨rfl, rfl, trivial⟩ rfl rfl rfl rfl (Nat.le_of_ble_eq_true rfl) (Nat.le_of_ble_eq_true rfl) (Nat.le_of_ble_eq_true rfl) ⟨Nat.zero_le _, Nat.zero_le _⟩ (fun v c1 hq hlen => ?_)
      obtain ⟨rfl, rfl⟩ := hq
      refine G_istore (pc := 21) M dX0_nodeAtPlace_21 (Nat.le_of_ble_eq_true rfl) ?_
      refine G_iload (pc := 23) M dX0_nodeAtPlace_23 rfl ?_
      refine G_bipush (pc := 25) (v := -2) M dX0_nodeAtPlace_25 (by decide +kernel) ?_
      refine G_icmp_ne (pc := 27) M 33 dX0_nodeAtPlace_27 (by decide) (fun h27 => ?_) (fun h27 => ?_)
      · refine G_lload_n (pc := 33) M dX0_nodeAtPlace_33 rfl ?_
        refine G_lconst (pc := 34) (v := 1) M dX0_nodeAtPlace_34 (by decide +kernel) ?_
        refine G_iload (pc := 35) M dX0_nodeAtPlace_35 rfl ?_
        refine G_lshl (pc := 37) M dX0_nodeAtPlace_37 ?_
        refine G_lor (pc := 38) M dX0_nodeAtPlace_38 ?_
        refine G_lstore_n (pc := 39) M dX0_nodeAtPlace_39 (Nat.le_of_ble_eq_true rfl) ?_
        refine G_iinc (pc := 40) (v := 1) M dX0_nodeAtPlace_40 rfl (by decide +kernel) (Nat.le_of_ble_eq_true rfl) ?_
        refine G_goto (pc := 43) M 9 dX0_nodeAtPlace_43 (by decide) ?_
        have := ih (by omega) (ps ||| (1 <<< ((gB f ps nn).1.toInt64 &&& 63))) (gB f ps nn).1
        rw [show p - j = p - (j + 1) + 1 by omega, ← nI_1 (p - (j + 1))] at this
        rw [nap, if_neg h27]
        exact this
      · refine G_bipush (pc := 30) (v := -2) M dX0_nodeAtPlace_30 (by decide +kernel) ?_
        exact G_iret M hr dX0_nodeAtPlace_32 rfl ⟨by rw [nap, if_pos (by simpa using h27)], rfl⟩
theorem c_nodeAtPlace (D : DD) (l : Launch) (ad : Nat → Nat) (fs : List Value) (nn p : Nat) (f : Nat → Int32) (hnn : nn ≤ 64) (hp : p < 2 ^ 30) (hf2 : gt fs 2 = some (.int (nI nn))) : Ct D l mi_X0_nodeAtPlace [.ref (ad 0), .ref (ad 1), .int (nI p)] ad [ob 0 fs, ia D 64 f] (fun v cs => v = some (.int (nap f nn p 0)) ∧ cs = [ob 0 fs, ia D 64 f]) := by
  refine Ct.of (by decide +kernel) (Nat.le_of_ble_eq_true rfl) (fun X A hX M hr => ?_)
  subst hX
  refine G_lconst (pc := 0) (v := 0) M dX0_nodeAtPlace_0 (by decide +kernel) ?_
  refine G_lstore_n (pc := 1) M dX0_nodeAtPlace_1 (Nat.le_of_ble_eq_true rfl) ?_
  refine G_bipush (pc := 2) (v := -2) M dX0_nodeAtPlace_2 (by decide +kernel) ?_
  refine G_istore (pc := 4) M dX0_nodeAtPlace_4 (Nat.le_of_ble_eq_true rfl) ?_
  refine G_iconst (pc := 6) (v := 0) M dX0_nodeAtPlace_6 (by decide +kernel) ?_
  refine G_istore (pc := 7) M dX0_nodeAtPlace_7 (Nat.le_of_ble_eq_true rfl) ?_
  have := nap_loop M hr (ad := ad) (f := f) hnn hp hf2 p (Nat.le_refl p) 0 (-2)
  rw [Nat.sub_self] at this
  exact this
end
section
/-! Counters.putTogether -/
theorem gB_rng (f : Nat → Int32) (ps : Int64) : ∀ k, (gB f ps k).1 = -2 ∨ ∃ a, a < k ∧ (gB f ps k).1 = nI a
  | 0 => Or.inl rfl
  | k + 1 => by
    rw [gB]
    split
    · rcases gB_rng f ps k with h | ⟨a, h1, h2⟩
      · exact Or.inl h
      · exact Or.inr ⟨a, by omega, h2⟩
    · exact Or.inr ⟨k, by omega, rfl⟩
theorem nap_rng (f : Nat → Int32) (nn : Nat) : ∀ (j : Nat) (ps : Int64), nap f nn j ps = -2 ∨ ∃ a, a < nn ∧ nap f nn j ps = nI a
  | 0, ps => gB_rng f ps nn
  | j + 1, ps => by
    rw [nap]
    split
    · exact Or.inl rfl
    · exact nap_rng f nn j _
theorem gB_congr {f g : Nat → Int32} (ps : Int64) : ∀ k, (∀ j, j < k → f j = g j) → gB f ps k = gB g ps k
  | 0, _ => rfl
  | k + 1, h => by
    rw [gB, gB, gB_congr ps k (fun j hj => h j (by omega)), h k (by omega)]
theorem nap_congr {f g : Nat → Int32} {nn : Nat} (h : ∀ j, j < nn → f j = g j) : ∀ (j : Nat) (ps : Int64), nap f nn j ps = nap g nn j ps
  | 0, ps => by rw [nap, nap, gB_congr ps nn h]
  | j + 1, ps => by rw [nap, nap, gB_congr ps nn h, nap_congr h j]
def sm2 (C E : Nat → Int32) : Nat → Int32 := fun j => C j + E j
def anyB (C E : Nat → Int32) : Nat → Bool
  | 0 => false
  | k + 1 => anyB C E k || decide ((1000000000 : Int64) < (C k).toInt64 + (E k).toInt64)
theorem anyB_mono (C E : Nat → Int32) {k : Nat} (h : anyB C E k = true) : ∀ n, k ≤ n → anyB C E n = true := by
  intro n hn
  induction n with
  | zero => rw [show k = 0 by omega] at h; exact h
  | succ n ih =>
    by_cases e : k = n + 1
    · rw [← e]; exact h
    · simp [anyB, ih (by omega)]
def pcut (C E : Nat → Int32) (nn kk : Nat) : Int32 := if nap (sm2 C E) nn kk 0 = -2 then 0 else sm2 C E (nap (sm2 C E) nn kk 0).toNatClampNeg
def plost (C E : Nat → Int32) (lo lo2 : Int32) (nn kk : Nat) : Int64 := lo.toInt64 + lo2.toInt64 + (pcut C E nn kk).toInt64
def pfull (C E : Nat → Int32) (lo lo2 : Int32) (nn kk : Nat) : Bool := anyB C E nn || decide ((1000000000 : Int64) < plost C E lo lo2 nn kk)
theorem add_l2i (x y : Int32) : (x.toInt64 + y.toInt64).toInt32 = x + y := by simp
def tgK (C E tg : Nat → Int32) (k : Nat) : Nat → Int32 := fun j => if j < k then sm2 C E j else tg j
theorem tgK_step (C E tg : Nat → Int32) (k : Nat) : upd (tgK C E tg k) k (C k + E k) = tgK C E tg (k + 1) := by
  funext j
  simp only [upd, tgK]
  by_cases h : j = k
  · subst h; simp [sm2]
  · rw [if_neg h]
    by_cases h2 : j < k
    · rw [if_pos h2, if_pos (show j < k + 1 by omega)]
    · rw [if_neg h2, if_neg (show ¬ j < k + 1 by omega)]
abbrev ptW (D : DD) (ad : Nat → Nat) (nn kk : Nat) (tk lo : Int32) (C tg : Nat → Int32) (gs : List Value) (E : Nat → Int32) : List va_E := [ctO ad nn kk tk lo, ia D 64 C, ia D 64 tg, ob 0 gs, ia D 64 E]
def ptQ (D : DD) (ad : Nat → Nat) (nn kk : Nat) (tk lo lo2 : Int32) (C : Nat → Int32) (gs : List Value) (E : Nat → Int32) : Option Value → List va_E → Prop := fun v cs => ∃ tg, (pfull C E lo lo2 nn kk = true ∧ v = some (.int 0) ∧ cs = ptW D ad nn kk tk lo C tg gs E) ∨ (pfull C E lo lo2 nn kk = false ∧ v = some (.int 1) ∧ cs = ptW D ad nn kk (nI (cntP (lsD (sm2 C E) (pcut C E nn kk)) nn)) (plost C E lo lo2 nn kk).toInt32 (fun j => if j < nn then lsD (sm2 C E) (pcut C E nn kk) j else C j) tg gs E)
theorem cntP_congr {f g : Nat → Int32} : ∀ k, (∀ j, j < k → f j = g j) → cntP f k = cntP g k
  | 0, _ => rfl
  | k + 1, h => by rw [cntP, cntP, cntP_congr k (fun j hj => h j (by omega)), h k (by omega)]
theorem pt_end {D : DD} {X : MX} {A : Nat → Prop} (M : CX D X A mi_X0_putTogether.1.cls mi_X0_putTogether.2.1 mi_X0_putTogether.2.2.1 (miR mi_X0_putTogether)) (hr : RT X mi_X0_putTogether.2.2.2.1) {ad : Nat → Nat} {nn kk : Nat} {tk lo lo2 : Int32} {C E tg : Nat → Int32} {gs : List Value} (hnn : nn ≤ 64) (hkk : kk < 64) (hg0 : gt gs 0 = some (.ref (ad 4))) (hg5 : gt gs 5 = some (.int lo2)) (hb : anyB C E nn = false) (z2 z3 z4 z5 : Option Value) :
    G D X A 0 0 (GQ D X A ad 5 (ptQ D ad nn kk tk lo lo2 C gs E)) ad 79 [some (.ref (ad 0)), some (.ref (ad 3)), some (.int (nap (sm2 C E) nn kk 0)), z3, z4, z5] [.int (pcut C E nn kk)] (ptW D ad nn kk tk lo C (tgK C E tg nn) gs E) := by
  refine G_istore_n (pc := 79) M dX0_putTogether_79 (Nat.le_of_ble_eq_true rfl) ?_
  refine G_aload_n (pc := 80) M dX0_putTogether_80 rfl ?_
  refine G_getf (pc := 81) M dX0_putTogether_81 fl_X0_28 rfl (by first | rfl | assumption) ?_
  refine G_i2l (pc := 84) M dX0_putTogether_84 ?_
  refine G_aload_n (pc := 85) M dX0_putTogether_85 rfl ?_
  refine G_getf (pc := 86) M dX0_putTogether_86 fl_X0_28 rfl (by first | rfl | assumption) ?_
  refine G_i2l (pc := 89) M dX0_putTogether_89 ?_
  refine G_ladd (pc := 90) M dX0_putTogether_90 ?_
  refine G_iload_n (pc := 91) M dX0_putTogether_91 rfl ?_
  refine G_i2l (pc := 92) M dX0_putTogether_92 ?_
  refine G_ladd (pc := 93) M dX0_putTogether_93 ?_
  refine G_lstore (pc := 94) M dX0_putTogether_94 (Nat.le_of_ble_eq_true rfl) ?_
  refine G_lload (pc := 96) M dX0_putTogether_96 rfl ?_
  refine G_ldc2 (pc := 98) M dX0_putTogether_98 cn_X0_41 ?_
  refine G_lcmp (pc := 101) M dX0_putTogether_101 ?_
  refine G_if_le (pc := 102) M 107 dX0_putTogether_102 (by decide) (fun h102 => ?_) (fun h102 => ?_)
  · rw [lg_cmp_le] at h102
    have hfull : pfull C E lo lo2 nn kk = false := by
      simp only [pfull, hb, Bool.false_or]
      exact decide_eq_false (Int64.not_lt.mpr h102)
    refine G_aload_n (pc := 107) M dX0_putTogether_107 rfl ?_
    refine G_getf (pc := 108) M dX0_putTogether_108 fl_X0_15 rfl (by first | rfl | assumption) ?_
    refine G_iconst (pc := 111) (v := 0) M dX0_putTogether_111 (by decide +kernel) ?_
    refine G_aload_n (pc := 112) M dX0_putTogether_112 rfl ?_
    refine G_getf (pc := 113) M dX0_putTogether_113 fl_X0_9 rfl (by first | rfl | assumption) ?_
    refine G_iconst (pc := 116) (v := 0) M dX0_putTogether_116 (by decide +kernel) ?_
    refine G_aload_n (pc := 117) M dX0_putTogether_117 rfl ?_
    refine G_getf (pc := 118) M dX0_putTogether_118 fl_X0_18 rfl (by first | rfl | assumption) ?_
    refine G_copyi (pc := 121) M dX0_putTogether_121 sys_lnk rfl rfl (by decide) (by decide) (nI_pos (by omega)) (by rw [cl_nI (by omega)]; show 0 + nn ≤ 64; omega) (by rw [cl_nI (by omega)]; show 0 + nn ≤ 64; omega) rfl (Nat.le_of_ble_eq_true rfl) (by decide) ?_
    refine G_normI 1 (fun j => if j < nn then sm2 C E j else C j) rfl (fun j hj => ?_) ?_
    · show va_cpy (tgK C E tg nn) C 0 0 (nI nn).toNatClampNeg j = _
      rw [cl_nI (by omega)]
      by_cases h : j < nn
      · rw [pk_cpy_in (by omega) (by omega), if_pos h, show 0 + (j - 0) = j by omega]
        simp [tgK, h]
      · rw [pk_cpy_out (by omega), if_neg h]
    refine G_aload_n (pc := 124) M dX0_putTogether_124 rfl ?_
    refine G_lload (pc := 125) M dX0_putTogether_125 rfl ?_
    refine G_l2i (pc := 127) M dX0_putTogether_127 ?_
    refine G_putfi (pc := 128) M dX0_putTogether_128 fl_X0_28 rfl (Nat.le_of_ble_eq_true rfl) ?_
    refine G_aload_n (pc := 131) M dX0_putTogether_131 rfl ?_
    refine G_iload_n (pc := 132) M dX0_putTogether_132 rfl ?_
    refine G_callv (pc := 133) M [0, 1, 2] dX0_putTogether_133 mv_X0_37 (c_lessen D _ (fun j => ad (pn [0, 1, 2] j)) nn kk tk (plost C E lo lo2 nn kk).toInt32 (pcut C E nn kk) (fun j => if j < nn then sm2 C E j else C j) (tgK C E tg nn) hnn) rfl ⟨rfl, rfl, rfl, trivial⟩ rfl rfl rfl rfl (Nat.le_of_ble_eq_true rfl) (Nat.le_of_ble_eq_true rfl) (Nat.le_of_ble_eq_true rfl) ⟨Nat.zero_le _, Nat.zero_le _⟩ (fun v c1 hq hlen => ?_)
    obtain ⟨rfl, rfl⟩ := hq
    refine G_normI 1 (fun j => if j < nn then lsD (sm2 C E) (pcut C E nn kk) j else C j) rfl (fun j hj => ?_) ?_
    · by_cases h : j < nn
      · simp [lsK, lsD, h]
      · simp [lsK, h]
    rw [cntP_congr (g := lsD (sm2 C E) (pcut C E nn kk)) nn (fun j hj => by simp [lsD, hj])]
    refine G_iconst (pc := 136) (v := 1) M dX0_putTogether_136 (by decide +kernel) ?_
    exact G_zret M hr dX0_putTogether_137 rfl rfl ⟨tgK C E tg nn, Or.inr ⟨hfull, rfl, rfl⟩⟩
  · rw [lg_cmp_le] at h102
    have hfull : pfull C E lo lo2 nn kk = true := by
      simp only [pfull, hb, Bool.false_or]
      exact decide_eq_true (Int64.not_le.mp h102)
    refine G_iconst (pc := 105) (v := 0) M dX0_putTogether_105 (by decide +kernel) ?_
    exact G_zret M hr dX0_putTogether_106 rfl rfl ⟨tgK C E tg nn, Or.inl ⟨hfull, rfl, rfl⟩⟩
theorem pt_mid {D : DD} {X : MX} {A : Nat → Prop} (M : CX D X A mi_X0_putTogether.1.cls mi_X0_putTogether.2.1 mi_X0_putTogether.2.2.1 (miR mi_X0_putTogether)) (hr : RT X mi_X0_putTogether.2.2.2.1) {ad : Nat → Nat} {nn kk : Nat} {tk lo lo2 : Int32} {C E tg : Nat → Int32} {gs : List Value} (hnn : nn ≤ 64) (hkk : kk < 64) (hg0 : gt gs 0 = some (.ref (ad 4))) (hg5 : gt gs 5 = some (.int lo2)) (hb : anyB C E nn = false) (z2 z3 z4 z5 : Option Value) :
    G D X A 0 0 (GQ D X A ad 5 (ptQ D ad nn kk tk lo lo2 C gs E)) ad 50 [some (.ref (ad 0)), some (.ref (ad 3)), z2, z3, z4, z5] [] (ptW D ad nn kk tk lo C (tgK C E tg nn) gs E) := by
  have hnc : nap (tgK C E tg nn) nn kk 0 = nap (sm2 C E) nn kk 0 := nap_congr (fun j hj => by simp [tgK, hj]) kk 0
  refine G_aload_n (pc := 50) M dX0_putTogether_50 rfl ?_
  refine G_aload_n (pc := 51) M dX0_putTogether_51 rfl ?_
  refine G_getf (pc := 52) M dX0_putTogether_52 fl_X0_15 rfl (by first | rfl | assumption) ?_
  refine G_aload_n (pc := 55) M dX0_putTogether_55 rfl ?_
  refine G_getf (pc := 56) M dX0_putTogether_56 fl_X0_22 rfl (by first | rfl | assumption) ?_
  refine G_callv (pc := 59) M [0, 2] dX0_putTogether_59 mv_X0_43 (c_nodeAtPlace D _ (fun j => ad (pn [0, 2] j)) _ nn kk (tgK C E tg nn) hnn (by omega) rfl) rfl ⟨rfl, rfl, trivial⟩ rfl rfl rfl rfl (Nat.le_of_ble_eq_true rfl) (Nat.le_of_ble_eq_true rfl) (Nat.le_of_ble_eq_true rfl) ⟨Nat.zero_le _, Nat.zero_le _⟩ (fun v c1 hq hlen => ?_)
  obtain ⟨rfl, rfl⟩ := hq
  rw [hnc]
  refine G_istore_n (pc := 62) M dX0_putTogether_62 (Nat.le_of_ble_eq_true rfl) ?_
  refine G_iload_n (pc := 63) M dX0_putTogether_63 rfl ?_
  refine G_bipush (pc := 64) (v := -2) M dX0_putTogether_64 (by decide +kernel) ?_
  refine G_icmp_ne (pc := 66) M 73 dX0_putTogether_66 (by decide) (fun h66 => ?_) (fun h66 => ?_)
  · obtain ⟨a, ha, ea⟩ := (nap_rng (sm2 C E) nn kk 0).resolve_left h66
    have e : pcut C E nn kk = sm2 C E a := by rw [pcut, if_neg h66, ea, cl_nI (by omega)]
    refine G_aload_n (pc := 73) M dX0_putTogether_73 rfl ?_
    refine G_getf (pc := 74) M dX0_putTogether_74 fl_X0_15 rfl (by first | rfl | assumption) ?_
    refine G_iload_n (pc := 77) M dX0_putTogether_77 rfl ?_
    refine G_iaload (pc := 78) M dX0_putTogether_78 rfl (by rw [ea]; exact vp_in_nI (by omega) (by omega)) ?_
    rw [ea, cl_nI (by omega), show tgK C E tg nn a = sm2 C E a by simp [tgK, ha], ← e, ← ea]
    first | exact pt_end M hr hnn hkk hg0 hg5 hb none _ _ _ | (rw [← e]; exact pt_end M hr hnn hkk hg0 hg5 hb none _ _ _)
  · have e : pcut C E nn kk = 0 := by rw [pcut, if_pos (by simpa using h66)]
    refine G_iconst (pc := 69) (v := 0) M dX0_putTogether_69 (by decide +kernel) ?_
    refine G_goto (pc := 70) M 79 dX0_putTogether_70 (by decide) ?_
    first | exact pt_end M hr hnn hkk hg0 hg5 hb none _ _ _ | (rw [← e]; exact pt_end M hr hnn hkk hg0 hg5 hb none _ _ _)
end
section
theorem pt_loop {D : DD} {X : MX} {A : Nat → Prop} (M : CX D X A mi_X0_putTogether.1.cls mi_X0_putTogether.2.1 mi_X0_putTogether.2.2.1 (miR mi_X0_putTogether)) (hr : RT X mi_X0_putTogether.2.2.2.1) {ad : Nat → Nat} {nn kk : Nat} {tk lo lo2 : Int32} {C E tg : Nat → Int32} {gs : List Value} (hnn : nn ≤ 64) (hkk : kk < 64) (hg0 : gt gs 0 = some (.ref (ad 4))) (hg5 : gt gs 5 = some (.int lo2)) : ∀ m k : Nat, k ≤ nn → nn - k < m → anyB C E k = false → ∀ z3 z4 z5 : Option Value,
    G D X A 0 0 (GQ D X A ad 5 (ptQ D ad nn kk tk lo lo2 C gs E)) ad 2 [some (.ref (ad 0)), some (.ref (ad 3)), some (.int (nI k)), z3, z4, z5] [] (ptW D ad nn kk tk lo C (tgK C E tg k) gs E) := by
  intro m
  induction m with
  | zero => intro k _ h; omega
  | succ m ih =>
    intro k hk hm hb z3 z4 z5
    refine G_iload_n (pc := 2) M dX0_putTogether_2 rfl ?_
    refine G_aload_n (pc := 3) M dX0_putTogether_3 rfl ?_
    refine G_getf (pc := 4) M dX0_putTogether_4 fl_X0_18 rfl (by first | rfl | assumption) ?_
    refine G_icmp_ge (pc := 7) M 50 dX0_putTogether_7 (by decide) (fun h7 => ?_) (fun h7 => ?_)
    · have e : k = nn := by
        have := (nI_leI (a := nn) (b := k) (by omega) (by omega)).mp h7
        omega
      subst e
      exact pt_mid M hr hnn hkk hg0 hg5 hb _ _ _ _
    · have hkn : k < nn := Nat.lt_of_not_le (fun q => h7 (nI_le q (by omega)))
      refine G_aload_n (pc := 10) M dX0_putTogether_10 rfl ?_
      refine G_getf (pc := 11) M dX0_putTogether_11 fl_X0_9 rfl (by first | rfl | assumption) ?_
      refine G_iload_n (pc := 14) M dX0_putTogether_14 rfl ?_
      refine G_iaload (pc := 15) M dX0_putTogether_15 rfl (by first | assumption | exact vp_in_nI (by omega) (by omega)) ?_
      rw [cl_nI (by omega)]
      refine G_i2l (pc := 16) M dX0_putTogether_16 ?_
      refine G_aload_n (pc := 17) M dX0_putTogether_17 rfl ?_
      refine G_getf (pc := 18) M dX0_putTogether_18 fl_X0_9 rfl (by first | rfl | assumption) ?_
      refine G_iload_n (pc := 21) M dX0_putTogether_21 rfl ?_
      refine G_iaload (pc := 22) M dX0_putTogether_22 rfl (by first | assumption | exact vp_in_nI (by omega) (by omega)) ?_
      rw [cl_nI (by omega)]
      refine G_i2l (pc := 23) M dX0_putTogether_23 ?_
      refine G_ladd (pc := 24) M dX0_putTogether_24 ?_
      refine G_lstore_n (pc := 25) M dX0_putTogether_25 (Nat.le_of_ble_eq_true rfl) ?_
      refine G_lload_n (pc := 26) M dX0_putTogether_26 rfl ?_
      refine G_ldc2 (pc := 27) M dX0_putTogether_27 cn_X0_41 ?_
      refine G_lcmp (pc := 30) M dX0_putTogether_30 ?_
      refine G_if_le (pc := 31) M 36 dX0_putTogether_31 (by decide) (fun h31 => ?_) (fun h31 => ?_)
      · rw [lg_cmp_le] at h31
        have hb1 : anyB C E (k + 1) = false := by
          simp only [anyB, hb, Bool.false_or]
          exact decide_eq_false (Int64.not_lt.mpr h31)
        refine G_aload_n (pc := 36) M dX0_putTogether_36 rfl ?_
        refine G_getf (pc := 37) M dX0_putTogether_37 fl_X0_15 rfl (by first | rfl | assumption) ?_
        refine G_iload_n (pc := 40) M dX0_putTogether_40 rfl ?_
        refine G_lload_n (pc := 41) M dX0_putTogether_41 rfl ?_
        refine G_l2i (pc := 42) M dX0_putTogether_42 ?_
        rw [add_l2i]
        refine G_iastore (pc := 43) M dX0_putTogether_43 rfl (by first | assumption | exact vp_in_nI (by omega) (by omega)) ?_
        rw [cl_nI (by omega), tgK_step]
        refine G_iinc (pc := 44) (v := 1) M dX0_putTogether_44 rfl (by decide +kernel) (Nat.le_of_ble_eq_true rfl) ?_
        refine G_goto (pc := 47) M 2 dX0_putTogether_47 (by decide) ?_
        have := ih (k + 1) (by omega) (by omega) hb1
        rw [← nI_1 k] at this
        exact this _ _ _
      · rw [lg_cmp_le] at h31
        have hb1 : anyB C E (k + 1) = true := by
          simp only [anyB, hb, Bool.false_or]
          exact decide_eq_true (Int64.not_le.mp h31)
        refine G_iconst (pc := 34) (v := 0) M dX0_putTogether_34 (by decide +kernel) ?_
        exact G_zret M hr dX0_putTogether_35 rfl rfl ⟨tgK C E tg k, Or.inl ⟨by simp [pfull, anyB_mono C E hb1 nn (by omega)], rfl, rfl⟩⟩
theorem c_putTogether (D : DD) (l : Launch) (ad : Nat → Nat) (nn kk : Nat) (tk lo lo2 : Int32) (C E tg : Nat → Int32) (gs : List Value) (hnn : nn ≤ 64) (hkk : kk < 64) (hg0 : gt gs 0 = some (.ref (ad 4))) (hg5 : gt gs 5 = some (.int lo2)) : Ct D l mi_X0_putTogether [.ref (ad 0), .ref (ad 3)] ad (ptW D ad nn kk tk lo C tg gs E) (ptQ D ad nn kk tk lo lo2 C gs E) := by
  refine Ct.of (by decide +kernel) (Nat.le_of_ble_eq_true rfl) (fun X A hX M hr => ?_)
  subst hX
  refine G_iconst (pc := 0) (v := 0) M dX0_putTogether_0 (by decide +kernel) ?_
  refine G_istore_n (pc := 1) M dX0_putTogether_1 (Nat.le_of_ble_eq_true rfl) ?_
  have := pt_loop M hr (ad := ad) (kk := kk) (tk := tk) (lo := lo) (C := C) (E := E) (tg := tg) hnn hkk hg0 hg5 65 0 (by omega) (by omega) rfl none none none
  rw [show tgK C E tg 0 = tg by funext j; simp [tgK]] at this
  exact this
end
section
/-! Forest: leaders -/
abbrev foO (ad : Nat → Nat) (n : Nat) : va_E := ob 1 [.ref (ad 1), .ref (ad 2), .ref (ad 3), .int (nI n)]
abbrev foW (D : DD) (ad : Nat → Nat) (n : Nat) (tm ky ld : Nat → Int32) : List va_E := [foO ad n, ia D 64 tm, ia D 64 ky, ia D 64 ld]
/-- the leaders' chains lead to the labels L -/
def UFP (ld : Nat → Int32) (L : Nat → Nat) : Prop := ∀ a, a < 64 → ∃ q, q ≤ a ∧ ld a = nI q ∧ (q = a → L a = a) ∧ (q ≠ a → L a = L q)
theorem UFP.le {ld : Nat → Int32} {L : Nat → Nat} (h : UFP ld L) : ∀ n a, a < n → a < 64 → L a ≤ a ∧ ld (L a) = nI (L a) ∧ L (L a) = L a := by
  intro n
  induction n with
  | zero => intro a h1; omega
  | succ n ih =>
    intro a h1 h2
    obtain ⟨q, hq, e, c1, c2⟩ := h a h2
    by_cases hqa : q = a
    · have := c1 hqa
      subst hqa
      rw [this]
      exact ⟨Nat.le_refl _, e, this⟩
    · rw [c2 hqa]
      obtain ⟨i1, i2, i3⟩ := ih q (by omega) (by omega)
      exact ⟨by omega, i2, i3⟩
theorem UFP.init : UFP (fun a => nI a) (fun a => a) := fun a _ => ⟨a, Nat.le_refl a, rfl, fun _ => rfl, fun h => absurd rfl h⟩
theorem UFP.join {ld : Nat → Int32} {L : Nat → Nat} (h : UFP ld L) {p q : Nat} (hp : p < 64) (hq : q < 64) : UFP (upd ld (max (L p) (L q)) (nI (min (L p) (L q)))) (unN L (L p) (L q)) := by
  obtain ⟨p1, p2, p3⟩ := h.le 64 p hp hp
  obtain ⟨q1, q2, q3⟩ := h.le 64 q hq hq
  intro a ha
  by_cases e : a = max (L p) (L q)
  · have hL : L a = a := by
      rcases Nat.le_total (L p) (L q) with z | z
      · rw [e, Nat.max_eq_right z]; exact q3
      · rw [e, Nat.max_eq_left z]; exact p3
    refine ⟨min (L p) (L q), by omega, by rw [e]; simp [upd], fun z => ?_, fun z => ?_⟩
    · simp only [unN]
      rw [if_pos (by omega)]
      exact z
    · simp only [unN]
      rw [if_pos (by omega), if_pos]
      rcases Nat.le_total (L p) (L q) with z | z
      · rw [Nat.min_eq_left z]; exact Or.inl p3
      · rw [Nat.min_eq_right z]; exact Or.inr q3
  · obtain ⟨r, r1, r2, r3, r4⟩ := h a ha
    refine ⟨r, r1, by simp only [upd]; rw [if_neg e]; exact r2, fun z => ?_, fun z => ?_⟩
    · have := r3 z
      simp only [unN, this]
      split
      · omega
      · rfl
    · simp only [unN, r4 z]
theorem c_partAll_loop {D : DD} {X : MX} {A : Nat → Prop} (M : CX D X A mi_X1_partAll.1.cls mi_X1_partAll.2.1 mi_X1_partAll.2.2.1 (miR mi_X1_partAll)) (hr : RT X mi_X1_partAll.2.2.2.1) {ad : Nat → Nat} {fs : List Value} {ld : Nat → Int32} (hf2 : gt fs 2 = some (.ref (ad 1))) : ∀ m k : Nat, k ≤ 64 → 64 - k < m →
    G D X A 0 0 (GQ D X A ad 2 (fun v c => v = none ∧ c = [ob 1 fs, ia D 64 (fun a => nI a)])) ad 2 [some (.ref (ad 0)), some (.int (nI k))] [] [ob 1 fs, ia D 64 (fun j => if j < k then nI j else ld j)] := by
  intro m
  induction m with
  | zero => intro k _ h; omega
  | succ m ih =>
    intro k hk hm
    refine G_iload_n (pc := 2) M dX1_partAll_2 rfl ?_
    refine G_bipush (pc := 3) (v := 64) M dX1_partAll_3 (by decide +kernel) ?_
    refine G_icmp_ge (pc := 5) M 21 dX1_partAll_5 (by decide) (fun h5 => ?_) (fun h5 => ?_)
    · have hk64 : k = 64 := by
        have := (nI_leI (a := 64) (b := k) (by omega) (by omega)).mp h5
        omega
      subst hk64
      refine G_normI 1 (fun a => nI a) rfl (fun j hj => if_pos hj) ?_
      exact G_vret M hr dX1_partAll_21 rfl ⟨rfl, rfl⟩
    · have hk64 : k < 64 := Nat.lt_of_not_le (fun q => h5 (nI_le q (by omega)))
      refine G_aload_n (pc := 8) M dX1_partAll_8 rfl ?_
      refine G_getf (pc := 9) M dX1_partAll_9 fl_X1_18 rfl (by first | rfl | assumption) ?_
      refine G_iload_n (pc := 12) M dX1_partAll_12 rfl ?_
      refine G_iload_n (pc := 13) M dX1_partAll_13 rfl ?_
      refine G_iastore (pc := 14) M dX1_partAll_14 rfl (by first | assumption | exact vp_in_nI (by omega) (by omega)) ?_
      rw [cl_nI (by omega)]
      refine G_iinc (pc := 15) (v := 1) M dX1_partAll_15 rfl (by decide +kernel) (Nat.le_of_ble_eq_true rfl) ?_
      refine G_goto (pc := 18) M 2 dX1_partAll_18 (by decide) ?_
      have := ih (k + 1) (by omega) (by omega)
      have e : upd (fun j => if j < k then nI j else ld j) k (nI k) = (fun j => if j < k + 1 then nI j else ld j) := by
        funext j
        simp only [upd]
        by_cases h : j = k
        · subst h; simp
        · rw [if_neg h]
          by_cases h2 : j < k
          · rw [if_pos h2, if_pos (by omega)]
          · rw [if_neg h2, if_neg (by omega)]
      rw [← e, ← nI_1 k] at this
      exact this
theorem c_partAll (D : DD) (l : Launch) (ad : Nat → Nat) (fs : List Value) (ld : Nat → Int32) (hf2 : gt fs 2 = some (.ref (ad 1))) : Ct D l mi_X1_partAll [.ref (ad 0)] ad [ob 1 fs, ia D 64 ld] (fun v c => v = none ∧ c = [ob 1 fs, ia D 64 (fun a => nI a)]) := by
  refine Ct.of (by decide +kernel) (Nat.le_of_ble_eq_true rfl) (fun X A hX M hr => ?_)
  subst hX
  refine G_iconst (pc := 0) (v := 0) M dX1_partAll_0 (by decide +kernel) ?_
  refine G_istore_n (pc := 1) M dX1_partAll_1 (Nat.le_of_ble_eq_true rfl) ?_
  have := c_partAll_loop M hr (ad := ad) (ld := ld) hf2 65 0 (by omega) (by omega)
  simp only [Nat.not_lt_zero, if_false] at this
  exact this
theorem leader_loop {D : DD} {X : MX} {A : Nat → Prop} (M : CX D X A mi_X1_leaderOf.1.cls mi_X1_leaderOf.2.1 mi_X1_leaderOf.2.2.1 (miR mi_X1_leaderOf)) (hr : RT X mi_X1_leaderOf.2.2.2.1) {ad : Nat → Nat} {fs : List Value} {ld : Nat → Int32} {L : Nat → Nat} {z : Int32} (hU : UFP ld L) (hf2 : gt fs 2 = some (.ref (ad 1))) : ∀ m a k : Nat, a < m → a + k ≤ 63 →
    G D X A 0 0 (GQ D X A ad 2 (fun v c => v = some (.int (nI (L a))) ∧ c = [ob 1 fs, ia D 64 ld])) ad 4 [some (.ref (ad 0)), some (.int z), some (.int (nI a)), some (.int (nI k))] [] [ob 1 fs, ia D 64 ld] := by
  intro m
  induction m with
  | zero => intro a k h; omega
  | succ m ih =>
    intro a k ha hak
    obtain ⟨q, q1, q2, q3, q4⟩ := hU a (by omega)
    refine G_iload_n (pc := 4) M dX1_leaderOf_4 rfl ?_
    refine G_bipush (pc := 5) (v := 64) M dX1_leaderOf_5 (by decide +kernel) ?_
    refine G_icmp_ge (pc := 7) M 33 dX1_leaderOf_7 (by decide) (fun h7 => ?_) (fun h7 => ?_)
    · exact absurd ((nI_leI (a := 64) (b := k) (by omega) (by omega)).mp h7) (by omega)
    · refine G_aload_n (pc := 10) M dX1_leaderOf_10 rfl ?_
      refine G_getf (pc := 11) M dX1_leaderOf_11 fl_X1_18 rfl (by first | rfl | assumption) ?_
      refine G_iload_n (pc := 14) M dX1_leaderOf_14 rfl ?_
      refine G_iaload (pc := 15) M dX1_leaderOf_15 rfl (by first | assumption | exact vp_in_nI (by omega) (by omega)) ?_
      rw [cl_nI (by omega), q2]
      refine G_iload_n (pc := 16) M dX1_leaderOf_16 rfl ?_
      refine G_icmp_eq (pc := 17) M 33 dX1_leaderOf_17 (by decide) (fun h17 => ?_) (fun h17 => ?_)
      · have e : q = a := (nI_eq (by omega) (by omega)).mp h17
        have eL := q3 e
        refine G_iload_n (pc := 33) M dX1_leaderOf_33 rfl ?_
        exact G_iret M hr dX1_leaderOf_34 rfl ⟨by rw [eL], rfl⟩
      · have e : ¬ q = a := fun w => h17 (by rw [w])
        have eL := q4 e
        refine G_aload_n (pc := 20) M dX1_leaderOf_20 rfl ?_
        refine G_getf (pc := 21) M dX1_leaderOf_21 fl_X1_18 rfl (by first | rfl | assumption) ?_
        refine G_iload_n (pc := 24) M dX1_leaderOf_24 rfl ?_
        refine G_iaload (pc := 25) M dX1_leaderOf_25 rfl (by first | assumption | exact vp_in_nI (by omega) (by omega)) ?_
        rw [cl_nI (by omega), q2]
        refine G_istore_n (pc := 26) M dX1_leaderOf_26 (Nat.le_of_ble_eq_true rfl) ?_
        refine G_iinc (pc := 27) (v := 1) M dX1_leaderOf_27 rfl (by decide +kernel) (Nat.le_of_ble_eq_true rfl) ?_
        refine G_goto (pc := 30) M 4 dX1_leaderOf_30 (by decide) ?_
        rw [eL, nI_1]
        exact ih q (k + 1) (by omega) (by omega)
theorem c_leaderOf (D : DD) (l : Launch) (ad : Nat → Nat) (fs : List Value) (ld : Nat → Int32) (L : Nat → Nat) (a : Nat) (ha : a < 64) (hU : UFP ld L) (hf2 : gt fs 2 = some (.ref (ad 1))) : Ct D l mi_X1_leaderOf [.ref (ad 0), .int (nI a)] ad [ob 1 fs, ia D 64 ld] (fun v c => v = some (.int (nI (L a))) ∧ c = [ob 1 fs, ia D 64 ld]) := by
  refine Ct.of (by decide +kernel) (Nat.le_of_ble_eq_true rfl) (fun X A hX M hr => ?_)
  subst hX
  refine G_iload_n (pc := 0) M dX1_leaderOf_0 rfl ?_
  refine G_istore_n (pc := 1) M dX1_leaderOf_1 (Nat.le_of_ble_eq_true rfl) ?_
  refine G_iconst (pc := 2) (v := 0) M dX1_leaderOf_2 (by decide +kernel) ?_
  refine G_istore_n (pc := 3) M dX1_leaderOf_3 (Nat.le_of_ble_eq_true rfl) ?_
  exact leader_loop M hr hU hf2 64 a 0 (by omega) (by omega)
theorem mx_nI {x y : Nat} (hx : x < 2 ^ 31) (hy : y < 2 ^ 31) : (if nI x < nI y then nI y else nI x) = nI (max x y) := by
  by_cases h : x < y
  · rw [if_pos (nI_lt h hy), Nat.max_eq_right (by omega)]
  · rw [if_neg (fun w => h ((nI_ltI hx hy).mp w)), Nat.max_eq_left (by omega)]
theorem mn_nI {x y : Nat} (hx : x < 2 ^ 31) (hy : y < 2 ^ 31) : (if nI y < nI x then nI y else nI x) = nI (min x y) := by
  by_cases h : y < x
  · rw [if_pos (nI_lt h hx), Nat.min_eq_right (by omega)]
  · rw [if_neg (fun w => h ((nI_ltI hy hx).mp w)), Nat.min_eq_left (by omega)]
theorem key_div {x y : Nat} (hx : x < 64) (hy : y < 64) : nI (64 * x + y) / 64 = nI x := by
  rw [n64, pk_div (by omega) (by omega) (by omega)]
  congr 1
  omega
theorem key_rem {x y : Nat} (hx : x < 64) (hy : y < 64) : nI (64 * x + y) - nI (64 * x + y) / 64 * 64 = nI y := by
  rw [n64, pk_rem (by omega) (by omega) (by omega)]
  congr 1
  omega
theorem c_joinByArc (D : DD) (l : Launch) (ad : Nat → Nat) (n i x y : Nat) (tm ky ld : Nat → Int32) (L : Nat → Nat) (hi : i < 64) (hk : ky i = nI (64 * x + y)) (hx : x < 64) (hy : y < 64) (hU : UFP ld L) : Ct D l mi_X1_joinByArc [.ref (ad 0), .int (nI i)] ad (foW D ad n tm ky ld) (fun v c => v = none ∧ ∃ ld2, UFP ld2 (unN L (L x) (L y)) ∧ c = foW D ad n tm ky ld2) := by
  obtain ⟨p1, p2, p3⟩ := hU.le 64 x hx hx
  obtain ⟨q1, q2, q3⟩ := hU.le 64 y hy hy
  refine Ct.of (by decide +kernel) (Nat.le_of_ble_eq_true rfl) (fun X A hX M hr => ?_)
  subst hX
  refine G_aload_n (pc := 0) M dX1_joinByArc_0 rfl ?_
  refine G_aload_n (pc := 1) M dX1_joinByArc_1 rfl ?_
  refine G_getf (pc := 2) M dX1_joinByArc_2 fl_X1_15 rfl (by first | rfl | assumption) ?_
  refine G_iload_n (pc := 5) M dX1_joinByArc_5 rfl ?_
  refine G_iaload (pc := 6) M dX1_joinByArc_6 rfl (by first | assumption | exact vp_in_nI (by omega) (by omega)) ?_
  rw [cl_nI (by omega), hk]
  refine G_calln (pc := 7) M [] dX1_joinByArc_7 mn_X1_46 (c_lesserNode D _ (fun j => ad (pn [] j)) (nI (64 * x + y))) trivial rfl rfl rfl rfl (Nat.le_of_ble_eq_true rfl) (Nat.le_of_ble_eq_true rfl) (Nat.le_of_ble_eq_true rfl) ⟨Nat.zero_le _, Nat.zero_le _⟩ (fun v c1 hq hlen => ?_)
  obtain ⟨rfl, rfl⟩ := hq
  rw [key_div hx hy]
  refine G_callv (pc := 10) M [0, 3] dX1_joinByArc_10 mv_X1_42 (c_leaderOf D _ (fun j => ad (pn [0, 3] j)) _ ld L x hx hU rfl) rfl ⟨rfl, rfl, trivial⟩ rfl rfl rfl rfl (Nat.le_of_ble_eq_true rfl) (Nat.le_of_ble_eq_true rfl) (Nat.le_of_ble_eq_true rfl) ⟨Nat.zero_le _, Nat.zero_le _⟩ (fun v c1 hq hlen => ?_)
  obtain ⟨rfl, rfl⟩ := hq
  refine G_istore_n (pc := 13) M dX1_joinByArc_13 (Nat.le_of_ble_eq_true rfl) ?_
  refine G_aload_n (pc := 14) M dX1_joinByArc_14 rfl ?_
  refine G_aload_n (pc := 15) M dX1_joinByArc_15 rfl ?_
  refine G_getf (pc := 16) M dX1_joinByArc_16 fl_X1_15 rfl (by first | rfl | assumption) ?_
  refine G_iload_n (pc := 19) M dX1_joinByArc_19 rfl ?_
  refine G_iaload (pc := 20) M dX1_joinByArc_20 rfl (by first | assumption | exact vp_in_nI (by omega) (by omega)) ?_
  rw [cl_nI (by omega), hk]
  refine G_calln (pc := 21) M [] dX1_joinByArc_21 mn_X1_49 (c_greaterNode D _ (fun j => ad (pn [] j)) (nI (64 * x + y))) trivial rfl rfl rfl rfl (Nat.le_of_ble_eq_true rfl) (Nat.le_of_ble_eq_true rfl) (Nat.le_of_ble_eq_true rfl) ⟨Nat.zero_le _, Nat.zero_le _⟩ (fun v c1 hq hlen => ?_)
  obtain ⟨rfl, rfl⟩ := hq
  rw [key_rem hx hy]
  refine G_callv (pc := 24) M [0, 3] dX1_joinByArc_24 mv_X1_42 (c_leaderOf D _ (fun j => ad (pn [0, 3] j)) _ ld L y hy hU rfl) rfl ⟨rfl, rfl, trivial⟩ rfl rfl rfl rfl (Nat.le_of_ble_eq_true rfl) (Nat.le_of_ble_eq_true rfl) (Nat.le_of_ble_eq_true rfl) ⟨Nat.zero_le _, Nat.zero_le _⟩ (fun v c1 hq hlen => ?_)
  obtain ⟨rfl, rfl⟩ := hq
  refine G_istore_n (pc := 27) M dX1_joinByArc_27 (Nat.le_of_ble_eq_true rfl) ?_
  refine G_aload_n (pc := 28) M dX1_joinByArc_28 rfl ?_
  refine G_getf (pc := 29) M dX1_joinByArc_29 fl_X1_18 rfl (by first | rfl | assumption) ?_
  refine G_iload_n (pc := 32) M dX1_joinByArc_32 rfl ?_
  refine G_iload_n (pc := 33) M dX1_joinByArc_33 rfl ?_
  refine G_mmax (pc := 34) M dX1_joinByArc_34 mm_X1_52 rfl (Nat.le_of_ble_eq_true rfl) (Nat.le_of_ble_eq_true rfl) (Nat.zero_le _) (Nat.zero_le _) ?_
  rw [mx_nI (by omega) (by omega)]
  refine G_iload_n (pc := 37) M dX1_joinByArc_37 rfl ?_
  refine G_iload_n (pc := 38) M dX1_joinByArc_38 rfl ?_
  refine G_mmin (pc := 39) M dX1_joinByArc_39 mm_X1_57 rfl (Nat.le_of_ble_eq_true rfl) (Nat.le_of_ble_eq_true rfl) (Nat.zero_le _) (Nat.zero_le _) ?_
  rw [mn_nI (by omega) (by omega)]
  refine G_iastore (pc := 42) M dX1_joinByArc_42 rfl (by first | assumption | exact vp_in_nI (by omega) (by omega)) ?_
  rw [cl_nI (by omega)]
  exact G_vret M hr dX1_joinByArc_43 rfl ⟨rfl, _, hU.join hx hy, rfl⟩
end
section
/-! Forest: searches, drop, accept -/
def fArc (n : Nat) (ky : Nat → Int32) (fu fv : Nat → Nat) : Prop := ∀ i, i < n → ky i = nI (64 * fu i + fv i) ∧ fu i < 64 ∧ fv i < 64
/-- the place of the arc that first joins a and b, from place r - 1 down -/
def obt (fu fv : Nat → Nat) (n a b : Nat) : Nat → Option Nat
  | 0 => none
  | r + 1 => if lab fu fv n (n - r) a = lab fu fv n (n - r) b then some r else obt fu fv n a b r
def oI : Option Nat → Int32
  | none => -2
  | some r => nI r
theorem lab_succ (fu fv : Nat → Nat) (n i : Nat) : lab fu fv n (i + 1) = unN (lab fu fv n i) (lab fu fv n i (fu (n - 1 - i))) (lab fu fv n i (fv (n - 1 - i))) := rfl
theorem dec_neg {r : Nat} (hr : r < 2 ^ 30) : nI r - 1 < 0 ↔ r = 0 := by
  have := dec_lt (m := r) (L := 0) hr (by omega)
  rw [nI_0] at this
  rw [this]
  omega
theorem ob_loop {D : DD} {X : MX} {A : Nat → Prop} (M : CX D X A mi_X1_oldestBetween.1.cls mi_X1_oldestBetween.2.1 mi_X1_oldestBetween.2.2.1 (miR mi_X1_oldestBetween)) (hr : RT X mi_X1_oldestBetween.2.2.2.1) {ad : Nat → Nat} {n a b : Nat} {tm ky : Nat → Int32} {fu fv : Nat → Nat} (hn : n ≤ 64) (ha : a < 64) (hb : b < 64) (hK : fArc n ky fu fv) : ∀ r : Nat, r ≤ n → ∀ ld : Nat → Int32, UFP ld (lab fu fv n (n - r)) →
    G D X A 0 0 (GQ D X A ad 4 (fun v c => v = some (.int (oI (obt fu fv n a b r))) ∧ ∃ ld2, c = foW D ad n tm ky ld2)) ad 11 [some (.ref (ad 0)), some (.int (nI a)), some (.int (nI b)), some (.int (nI r - 1))] [] (foW D ad n tm ky ld) := by
  intro r
  induction r with
  | zero =>
    intro _ ld hU
    refine G_iload_n (pc := 11) M dX1_oldestBetween_11 rfl ?_
    refine G_if_lt (pc := 12) M 41 dX1_oldestBetween_12 (by decide) (fun h12 => ?_) (fun h12 => ?_)
    · refine G_bipush (pc := 41) (v := -2) M dX1_oldestBetween_41 (by decide +kernel) ?_
      exact G_iret M hr dX1_oldestBetween_43 rfl ⟨rfl, _, rfl⟩
    · exact absurd ((dec_neg (by omega)).mpr rfl) h12
  | succ r ih =>
    intro hr1 ld hU
    obtain ⟨k1, k2, k3⟩ := hK r (by omega)
    have el : lab fu fv n (n - r) = unN (lab fu fv n (n - (r + 1))) (lab fu fv n (n - (r + 1)) (fu r)) (lab fu fv n (n - (r + 1)) (fv r)) := by
      rw [show n - r = n - (r + 1) + 1 by omega, lab_succ, show n - 1 - (n - (r + 1)) = r by omega]
    rw [nI_pred]
    refine G_iload_n (pc := 11) M dX1_oldestBetween_11 rfl ?_
    refine G_if_lt (pc := 12) M 41 dX1_oldestBetween_12 (by decide) (fun h12 => ?_) (fun h12 => ?_)
    · exact absurd h12 (nI_pos (by omega))
    · refine G_aload_n (pc := 15) M dX1_oldestBetween_15 rfl ?_
      refine G_iload_n (pc := 16) M dX1_oldestBetween_16 rfl ?_
      refine G_callv (pc := 17) M [0, 1, 2, 3] dX1_oldestBetween_17 mv_X1_39 (c_joinByArc D _ (fun j => ad (pn [0, 1, 2, 3] j)) n r (fu r) (fv r) tm ky ld _ (by omega) k1 k2 k3 hU) rfl ⟨rfl, rfl, rfl, rfl, trivial⟩ rfl rfl rfl rfl (Nat.le_of_ble_eq_true rfl) (Nat.le_of_ble_eq_true rfl) (Nat.le_of_ble_eq_true rfl) ⟨Nat.zero_le _, Nat.zero_le _⟩ (fun v c1 hq hlen => ?_)
      obtain ⟨rfl, ld2, hU2, rfl⟩ := hq
      rw [← el] at hU2
      refine G_aload_n (pc := 20) M dX1_oldestBetween_20 rfl ?_
      refine G_iload_n (pc := 21) M dX1_oldestBetween_21 rfl ?_
      refine G_callv (pc := 22) M [0, 3] dX1_oldestBetween_22 mv_X1_42 (c_leaderOf D _ (fun j => ad (pn [0, 3] j)) _ ld2 _ a ha hU2 rfl) rfl ⟨rfl, rfl, trivial⟩ rfl rfl rfl rfl (Nat.le_of_ble_eq_true rfl) (Nat.le_of_ble_eq_true rfl) (Nat.le_of_ble_eq_true rfl) ⟨Nat.zero_le _, Nat.zero_le _⟩ (fun v c1 hq hlen => ?_)
      obtain ⟨rfl, rfl⟩ := hq
      refine G_aload_n (pc := 25) M dX1_oldestBetween_25 rfl ?_
      refine G_iload_n (pc := 26) M dX1_oldestBetween_26 rfl ?_
      refine G_callv (pc := 27) M [0, 3] dX1_oldestBetween_27 mv_X1_42 (c_leaderOf D _ (fun j => ad (pn [0, 3] j)) _ ld2 _ b hb hU2 rfl) rfl ⟨rfl, rfl, trivial⟩ rfl rfl rfl rfl (Nat.le_of_ble_eq_true rfl) (Nat.le_of_ble_eq_true rfl) (Nat.le_of_ble_eq_true rfl) ⟨Nat.zero_le _, Nat.zero_le _⟩ (fun v c1 hq hlen => ?_)
      obtain ⟨rfl, rfl⟩ := hq
      have l1 := (hU2.le 64 a ha ha).1
      have l2 := (hU2.le 64 b hb hb).1
      refine G_icmp_ne (pc := 30) M 35 dX1_oldestBetween_30 (by decide) (fun h30 => ?_) (fun h30 => ?_)
      · have e : obt fu fv n a b (r + 1) = obt fu fv n a b r := by rw [obt, if_neg (fun w => h30 (by rw [w]))]
        refine G_iinc (pc := 35) (v := -1) M dX1_oldestBetween_35 rfl (by decide +kernel) (Nat.le_of_ble_eq_true rfl) ?_
        refine G_goto (pc := 38) M 11 dX1_oldestBetween_38 (by decide) ?_
        rw [e, m1_sub]
        exact ih (by omega) ld2 hU2
      · have e : obt fu fv n a b (r + 1) = some r := by rw [obt, if_pos ((nI_eq (by omega) (by omega)).mp (by simpa using h30))]
        refine G_iload_n (pc := 33) M dX1_oldestBetween_33 rfl ?_
        exact G_iret M hr dX1_oldestBetween_34 rfl ⟨by rw [e]; rfl, _, rfl⟩
theorem c_oldest (D : DD) (l : Launch) (ad : Nat → Nat) (n a b : Nat) (tm ky ld : Nat → Int32) (fu fv : Nat → Nat) (hn : n ≤ 64) (ha : a < 64) (hb : b < 64) (hK : fArc n ky fu fv) : Ct D l mi_X1_oldestBetween [.ref (ad 0), .int (nI a), .int (nI b)] ad (foW D ad n tm ky ld) (fun v c => v = some (.int (oI (obt fu fv n a b n))) ∧ ∃ ld2, c = foW D ad n tm ky ld2) := by
  refine Ct.of (by decide +kernel) (Nat.le_of_ble_eq_true rfl) (fun X A hX M hr => ?_)
  subst hX
  refine G_aload_n (pc := 0) M dX1_oldestBetween_0 rfl ?_
  refine G_callv (pc := 1) M [0, 3] dX1_oldestBetween_1 mv_X1_36 (c_partAll D _ (fun j => ad (pn [0, 3] j)) _ ld rfl) rfl ⟨rfl, rfl, trivial⟩ rfl rfl rfl rfl (Nat.le_of_ble_eq_true rfl) (Nat.le_of_ble_eq_true rfl) (Nat.le_of_ble_eq_true rfl) ⟨Nat.zero_le _, Nat.zero_le _⟩ (fun v c1 hq hlen => ?_)
  obtain ⟨rfl, rfl⟩ := hq
  refine G_aload_n (pc := 4) M dX1_oldestBetween_4 rfl ?_
  refine G_getf (pc := 5) M dX1_oldestBetween_5 fl_X1_21 rfl (by first | rfl | assumption) ?_
  refine G_iconst (pc := 8) (v := 1) M dX1_oldestBetween_8 (by decide +kernel) ?_
  refine G_isub (pc := 9) M dX1_oldestBetween_9 ?_
  refine G_istore_n (pc := 10) M dX1_oldestBetween_10 (Nat.le_of_ble_eq_true rfl) ?_
  exact ob_loop M hr hn ha hb hK n (Nat.le_refl n) _ (by rw [Nat.sub_self]; exact UFP.init)
/-- how many arcs from place r - 1 down have a time above t -/
def afr (tm : Nat → Int32) (t : Int32) : Nat → Nat
  | 0 => 0
  | r + 1 => if tm r ≤ t then 0 else afr tm t r + 1
theorem afr_le (tm : Nat → Int32) (t : Int32) : ∀ r, afr tm t r ≤ r
  | 0 => Nat.le_refl 0
  | r + 1 => by
    have := afr_le tm t r
    simp only [afr]
    split <;> omega
theorem aa_loop {D : DD} {X : MX} {A : Nat → Prop} (M : CX D X A mi_X1_arcsAfter.1.cls mi_X1_arcsAfter.2.1 mi_X1_arcsAfter.2.2.1 (miR mi_X1_arcsAfter)) (hr : RT X mi_X1_arcsAfter.2.2.2.1) {ad : Nat → Nat} {n : Nat} {tm : Nat → Int32} {t : Int32} {fs : List Value} (hn : n ≤ 64) (hf0 : gt fs 0 = some (.ref (ad 1))) : ∀ r c : Nat, r ≤ n →
    G D X A 0 0 (GQ D X A ad 2 (fun v cs => v = some (.int (nI (c + afr tm t r))) ∧ cs = [ob 1 fs, ia D 64 tm])) ad 9 [some (.ref (ad 0)), some (.int t), some (.int (nI c)), some (.int (nI r - 1))] [] [ob 1 fs, ia D 64 tm] := by
  intro r
  induction r with
  | zero =>
    intro c _
    refine G_iload_n (pc := 9) M dX1_arcsAfter_9 rfl ?_
    refine G_if_lt (pc := 10) M 32 dX1_arcsAfter_10 (by decide) (fun h10 => ?_) (fun h10 => ?_)
    · refine G_iload_n (pc := 32) M dX1_arcsAfter_32 rfl ?_
      exact G_iret M hr dX1_arcsAfter_33 rfl ⟨rfl, rfl⟩
    · exact absurd ((dec_neg (by omega)).mpr rfl) h10
  | succ r ih =>
    intro c hr1
    rw [nI_pred]
    refine G_iload_n (pc := 9) M dX1_arcsAfter_9 rfl ?_
    refine G_if_lt (pc := 10) M 32 dX1_arcsAfter_10 (by decide) (fun h10 => ?_) (fun h10 => ?_)
    · exact absurd h10 (nI_pos (by omega))
    · refine G_aload_n (pc := 13) M dX1_arcsAfter_13 rfl ?_
      refine G_getf (pc := 14) M dX1_arcsAfter_14 fl_X1_9 rfl (by first | rfl | assumption) ?_
      refine G_iload_n (pc := 17) M dX1_arcsAfter_17 rfl ?_
      refine G_iaload (pc := 18) M dX1_arcsAfter_18 rfl (by first | assumption | exact vp_in_nI (by omega) (by omega)) ?_
      rw [cl_nI (by omega)]
      refine G_iload_n (pc := 19) M dX1_arcsAfter_19 rfl ?_
      refine G_icmp_le (pc := 20) M 32 dX1_arcsAfter_20 (by decide) (fun h20 => ?_) (fun h20 => ?_)
      · refine G_iload_n (pc := 32) M dX1_arcsAfter_32 rfl ?_
        exact G_iret M hr dX1_arcsAfter_33 rfl ⟨by rw [afr, if_pos h20]; rfl, rfl⟩
      · refine G_iinc (pc := 23) (v := 1) M dX1_arcsAfter_23 rfl (by decide +kernel) (Nat.le_of_ble_eq_true rfl) ?_
        refine G_iinc (pc := 26) (v := -1) M dX1_arcsAfter_26 rfl (by decide +kernel) (Nat.le_of_ble_eq_true rfl) ?_
        refine G_goto (pc := 29) M 9 dX1_arcsAfter_29 (by decide) ?_
        have := ih (c + 1) (by omega)
        rw [afr, if_neg h20, m1_sub, nI_1, show c + (afr tm t r + 1) = c + 1 + afr tm t r by omega]
        exact this
theorem c_arcsAfter (D : DD) (l : Launch) (ad : Nat → Nat) (n : Nat) (tm : Nat → Int32) (t : Int32) (fs : List Value) (hn : n ≤ 64) (hf0 : gt fs 0 = some (.ref (ad 1))) (hf3 : gt fs 3 = some (.int (nI n))) : Ct D l mi_X1_arcsAfter [.ref (ad 0), .int t] ad [ob 1 fs, ia D 64 tm] (fun v cs => v = some (.int (nI (afr tm t n))) ∧ cs = [ob 1 fs, ia D 64 tm]) := by
  refine Ct.of (by decide +kernel) (Nat.le_of_ble_eq_true rfl) (fun X A hX M hr => ?_)
  subst hX
  refine G_iconst (pc := 0) (v := 0) M dX1_arcsAfter_0 (by decide +kernel) ?_
  refine G_istore_n (pc := 1) M dX1_arcsAfter_1 (Nat.le_of_ble_eq_true rfl) ?_
  refine G_aload_n (pc := 2) M dX1_arcsAfter_2 rfl ?_
  refine G_getf (pc := 3) M dX1_arcsAfter_3 fl_X1_21 rfl (by first | rfl | assumption) ?_
  refine G_iconst (pc := 6) (v := 1) M dX1_arcsAfter_6 (by decide +kernel) ?_
  refine G_isub (pc := 7) M dX1_arcsAfter_7 ?_
  refine G_istore_n (pc := 8) M dX1_arcsAfter_8 (Nat.le_of_ble_eq_true rfl) ?_
  have := aa_loop M hr (ad := ad) (tm := tm) (t := t) hn hf0 n 0 (Nat.le_refl n)
  rw [Nat.zero_add] at this
  exact this
theorem lp_loop {D : DD} {X : MX} {A : Nat → Prop} (M : CX D X A mi_X1_leastOfPart.1.cls mi_X1_leastOfPart.2.1 mi_X1_leastOfPart.2.2.1 (miR mi_X1_leastOfPart)) (hr : RT X mi_X1_leastOfPart.2.2.2.1) {ad : Nat → Nat} {n a : Nat} {tm ky : Nat → Int32} {t : Int32} {fu fv : Nat → Nat} (hn : n ≤ 64) (ha : a < 64) (hK : fArc n ky fu fv) : ∀ r : Nat, r ≤ n → ∀ ld : Nat → Int32, UFP ld (lab fu fv n (n - r)) →
    G D X A 0 0 (GQ D X A ad 4 (fun v c => v = some (.int (nI (lab fu fv n (n - r + afr tm t r) a))) ∧ ∃ ld2, c = foW D ad n tm ky ld2)) ad 11 [some (.ref (ad 0)), some (.int t), some (.int (nI a)), some (.int (nI r - 1))] [] (foW D ad n tm ky ld) := by
  intro r
  induction r with
  | zero =>
    intro _ ld hU
    refine G_iload_n (pc := 11) M dX1_leastOfPart_11 rfl ?_
    refine G_if_lt (pc := 12) M 36 dX1_leastOfPart_12 (by decide) (fun h12 => ?_) (fun h12 => ?_)
    · refine G_aload_n (pc := 36) M dX1_leastOfPart_36 rfl ?_
      refine G_iload_n (pc := 37) M dX1_leastOfPart_37 rfl ?_
      refine G_callv (pc := 38) M [0, 3] dX1_leastOfPart_38 mv_X1_42 (c_leaderOf D _ (fun j => ad (pn [0, 3] j)) _ ld _ a ha hU rfl) rfl ⟨rfl, rfl, trivial⟩ rfl rfl rfl rfl (Nat.le_of_ble_eq_true rfl) (Nat.le_of_ble_eq_true rfl) (Nat.le_of_ble_eq_true rfl) ⟨Nat.zero_le _, Nat.zero_le _⟩ (fun v c1 hq hlen => ?_)
      obtain ⟨rfl, rfl⟩ := hq
      exact G_iret M hr dX1_leastOfPart_41 rfl ⟨rfl, _, rfl⟩
    · exact absurd ((dec_neg (by omega)).mpr rfl) h12
  | succ r ih =>
    intro hr1 ld hU
    obtain ⟨k1, k2, k3⟩ := hK r (by omega)
    have el : lab fu fv n (n - r) = unN (lab fu fv n (n - (r + 1))) (lab fu fv n (n - (r + 1)) (fu r)) (lab fu fv n (n - (r + 1)) (fv r)) := by
      rw [show n - r = n - (r + 1) + 1 by omega, lab_succ, show n - 1 - (n - (r + 1)) = r by omega]
    rw [nI_pred]
    refine G_iload_n (pc := 11) M dX1_leastOfPart_11 rfl ?_
    refine G_if_lt (pc := 12) M 36 dX1_leastOfPart_12 (by decide) (fun h12 => ?_) (fun h12 => ?_)
    · exact absurd h12 (nI_pos (by omega))
    · refine G_aload_n (pc := 15) M dX1_leastOfPart_15 rfl ?_
      refine G_getf (pc := 16) M dX1_leastOfPart_16 fl_X1_9 rfl (by first | rfl | assumption) ?_
      refine G_iload_n (pc := 19) M dX1_leastOfPart_19 rfl ?_
      refine G_iaload (pc := 20) M dX1_leastOfPart_20 rfl (by first | assumption | exact vp_in_nI (by omega) (by omega)) ?_
      rw [cl_nI (by omega)]
      refine G_iload_n (pc := 21) M dX1_leastOfPart_21 rfl ?_
      refine G_icmp_le (pc := 22) M 36 dX1_leastOfPart_22 (by decide) (fun h22 => ?_) (fun h22 => ?_)
      · have e : afr tm t (r + 1) = 0 := by rw [afr, if_pos h22]
        refine G_aload_n (pc := 36) M dX1_leastOfPart_36 rfl ?_
        refine G_iload_n (pc := 37) M dX1_leastOfPart_37 rfl ?_
        refine G_callv (pc := 38) M [0, 3] dX1_leastOfPart_38 mv_X1_42 (c_leaderOf D _ (fun j => ad (pn [0, 3] j)) _ ld _ a ha hU rfl) rfl ⟨rfl, rfl, trivial⟩ rfl rfl rfl rfl (Nat.le_of_ble_eq_true rfl) (Nat.le_of_ble_eq_true rfl) (Nat.le_of_ble_eq_true rfl) ⟨Nat.zero_le _, Nat.zero_le _⟩ (fun v c1 hq hlen => ?_)
        obtain ⟨rfl, rfl⟩ := hq
        exact G_iret M hr dX1_leastOfPart_41 rfl ⟨by rw [e]; rfl, _, rfl⟩
      · have e : afr tm t (r + 1) = afr tm t r + 1 := by rw [afr, if_neg h22]
        refine G_aload_n (pc := 25) M dX1_leastOfPart_25 rfl ?_
        refine G_iload_n (pc := 26) M dX1_leastOfPart_26 rfl ?_
        refine G_callv (pc := 27) M [0, 1, 2, 3] dX1_leastOfPart_27 mv_X1_39 (c_joinByArc D _ (fun j => ad (pn [0, 1, 2, 3] j)) n r (fu r) (fv r) tm ky ld _ (by omega) k1 k2 k3 hU) rfl ⟨rfl, rfl, rfl, rfl, trivial⟩ rfl rfl rfl rfl (Nat.le_of_ble_eq_true rfl) (Nat.le_of_ble_eq_true rfl) (Nat.le_of_ble_eq_true rfl) ⟨Nat.zero_le _, Nat.zero_le _⟩ (fun v c1 hq hlen => ?_)
        obtain ⟨rfl, ld2, hU2, rfl⟩ := hq
        rw [← el] at hU2
        refine G_iinc (pc := 30) (v := -1) M dX1_leastOfPart_30 rfl (by decide +kernel) (Nat.le_of_ble_eq_true rfl) ?_
        refine G_goto (pc := 33) M 11 dX1_leastOfPart_33 (by decide) ?_
        have := ih (by omega) ld2 hU2
        rw [e, m1_sub, show n - (r + 1) + (afr tm t r + 1) = n - r + afr tm t r by omega]
        exact this
theorem c_leastOfPart (D : DD) (l : Launch) (ad : Nat → Nat) (n a : Nat) (tm ky ld : Nat → Int32) (t : Int32) (fu fv : Nat → Nat) (hn : n ≤ 64) (ha : a < 64) (hK : fArc n ky fu fv) : Ct D l mi_X1_leastOfPart [.ref (ad 0), .int t, .int (nI a)] ad (foW D ad n tm ky ld) (fun v c => v = some (.int (nI (lab fu fv n (afr tm t n) a))) ∧ ∃ ld2, c = foW D ad n tm ky ld2) := by
  refine Ct.of (by decide +kernel) (Nat.le_of_ble_eq_true rfl) (fun X A hX M hr => ?_)
  subst hX
  refine G_aload_n (pc := 0) M dX1_leastOfPart_0 rfl ?_
  refine G_callv (pc := 1) M [0, 3] dX1_leastOfPart_1 mv_X1_36 (c_partAll D _ (fun j => ad (pn [0, 3] j)) _ ld rfl) rfl ⟨rfl, rfl, trivial⟩ rfl rfl rfl rfl (Nat.le_of_ble_eq_true rfl) (Nat.le_of_ble_eq_true rfl) (Nat.le_of_ble_eq_true rfl) ⟨Nat.zero_le _, Nat.zero_le _⟩ (fun v c1 hq hlen => ?_)
  obtain ⟨rfl, rfl⟩ := hq
  refine G_aload_n (pc := 4) M dX1_leastOfPart_4 rfl ?_
  refine G_getf (pc := 5) M dX1_leastOfPart_5 fl_X1_21 rfl (by first | rfl | assumption) ?_
  refine G_iconst (pc := 8) (v := 1) M dX1_leastOfPart_8 (by decide +kernel) ?_
  refine G_isub (pc := 9) M dX1_leastOfPart_9 ?_
  refine G_istore_n (pc := 10) M dX1_leastOfPart_10 (Nat.le_of_ble_eq_true rfl) ?_
  have := lp_loop M hr (ad := ad) (tm := tm) (t := t) hn ha hK n (Nat.le_refl n) _ (by rw [Nat.sub_self]; exact UFP.init)
  rw [Nat.sub_self, Nat.zero_add] at this
  exact this
/-- the places behind p move down -/
def drpF {α : Type} (f : Nat → α) (p n : Nat) : Nat → α := fun j => if p ≤ j ∧ j + 1 < n then f (j + 1) else f j
theorem drp_step {f : Nat → Int32} {p i : Nat} (hp : p < i) : upd (drpF f p i) (i - 1) (f i) = drpF f p (i + 1) := by
  funext j
  simp only [upd, drpF]
  by_cases h : j = i - 1
  · rw [if_pos h, if_pos (by omega)]
    congr 1
    omega
  · rw [if_neg h]
    by_cases h2 : p ≤ j ∧ j + 1 < i
    · rw [if_pos h2, if_pos (by omega)]
    · rw [if_neg h2, if_neg (by omega)]
theorem drp_at {f : Nat → Int32} {p i : Nat} : drpF f p i i = f i := by simp only [drpF]; rw [if_neg (by omega)]
theorem drop_loop {D : DD} {X : MX} {A : Nat → Prop} (M : CX D X A mi_X1_drop.1.cls mi_X1_drop.2.1 mi_X1_drop.2.2.1 (miR mi_X1_drop)) (hr : RT X mi_X1_drop.2.2.2.1) {ad : Nat → Nat} {n p : Nat} {tm ky ld : Nat → Int32} (hn : n ≤ 64) (hp : p < n) : ∀ m i : Nat, p < i → i ≤ n → n - i < m →
    G D X A 0 0 (GQ D X A ad 4 (fun v c => v = none ∧ c = foW D ad (n - 1) (drpF tm p n) (drpF ky p n) ld)) ad 4 [some (.ref (ad 0)), some (.int (nI p)), some (.int (nI i))] [] (foW D ad n (drpF tm p i) (drpF ky p i) ld) := by
  intro m
  induction m with
  | zero => intro i _ _ h; omega
  | succ m ih =>
    intro i hi1 hi2 hm
    have em : nI i - 1 = nI (i - 1) := by rw [show i = i - 1 + 1 by omega, nI_pred]; rfl
    refine G_iload_n (pc := 4) M dX1_drop_4 rfl ?_
    refine G_aload_n (pc := 5) M dX1_drop_5 rfl ?_
    refine G_getf (pc := 6) M dX1_drop_6 fl_X1_21 rfl (by first | rfl | assumption) ?_
    refine G_icmp_ge (pc := 9) M 46 dX1_drop_9 (by decide) (fun h9 => ?_) (fun h9 => ?_)
    · have e : i = n := by
        have := (nI_leI (a := n) (b := i) (by omega) (by omega)).mp h9
        omega
      subst e
      refine G_aload_n (pc := 46) M dX1_drop_46 rfl ?_
      refine G_dup (pc := 47) M dX1_drop_47 rfl ?_
      refine G_getf (pc := 48) M dX1_drop_48 fl_X1_21 rfl (by first | rfl | assumption) ?_
      refine G_iconst (pc := 51) (v := 1) M dX1_drop_51 (by decide +kernel) ?_
      refine G_isub (pc := 52) M dX1_drop_52 ?_
      rw [em]
      refine G_putfi (pc := 53) M dX1_drop_53 fl_X1_21 rfl (Nat.le_of_ble_eq_true rfl) ?_
      exact G_vret M hr dX1_drop_56 rfl ⟨rfl, rfl⟩
    · have hin : i < n := Nat.lt_of_not_le (fun q => h9 (nI_le q (by omega)))
      refine G_aload_n (pc := 12) M dX1_drop_12 rfl ?_
      refine G_getf (pc := 13) M dX1_drop_13 fl_X1_9 rfl (by first | rfl | assumption) ?_
      refine G_iload_n (pc := 16) M dX1_drop_16 rfl ?_
      refine G_iconst (pc := 17) (v := 1) M dX1_drop_17 (by decide +kernel) ?_
      refine G_isub (pc := 18) M dX1_drop_18 ?_
      rw [em]
      refine G_aload_n (pc := 19) M dX1_drop_19 rfl ?_
      refine G_getf (pc := 20) M dX1_drop_20 fl_X1_9 rfl (by first | rfl | assumption) ?_
      refine G_iload_n (pc := 23) M dX1_drop_23 rfl ?_
      refine G_iaload (pc := 24) M dX1_drop_24 rfl (by first | assumption | exact vp_in_nI (by omega) (by omega)) ?_
      rw [cl_nI (by omega), drp_at]
      refine G_iastore (pc := 25) M dX1_drop_25 rfl (by first | assumption | exact vp_in_nI (by omega) (by omega)) ?_
      rw [cl_nI (by omega), drp_step hi1]
      refine G_aload_n (pc := 26) M dX1_drop_26 rfl ?_
      refine G_getf (pc := 27) M dX1_drop_27 fl_X1_15 rfl (by first | rfl | assumption) ?_
      refine G_iload_n (pc := 30) M dX1_drop_30 rfl ?_
      refine G_iconst (pc := 31) (v := 1) M dX1_drop_31 (by decide +kernel) ?_
      refine G_isub (pc := 32) M dX1_drop_32 ?_
      rw [em]
      refine G_aload_n (pc := 33) M dX1_drop_33 rfl ?_
      refine G_getf (pc := 34) M dX1_drop_34 fl_X1_15 rfl (by first | rfl | assumption) ?_
      refine G_iload_n (pc := 37) M dX1_drop_37 rfl ?_
      refine G_iaload (pc := 38) M dX1_drop_38 rfl (by first | assumption | exact vp_in_nI (by omega) (by omega)) ?_
      rw [cl_nI (by omega), drp_at]
      refine G_iastore (pc := 39) M dX1_drop_39 rfl (by first | assumption | exact vp_in_nI (by omega) (by omega)) ?_
      rw [cl_nI (by omega), drp_step hi1]
      refine G_iinc (pc := 40) (v := 1) M dX1_drop_40 rfl (by decide +kernel) (Nat.le_of_ble_eq_true rfl) ?_
      refine G_goto (pc := 43) M 4 dX1_drop_43 (by decide) ?_
      rw [nI_1]
      exact ih (i + 1) (by omega) (by omega) (by omega)
theorem c_drop (D : DD) (l : Launch) (ad : Nat → Nat) (n p : Nat) (tm ky ld : Nat → Int32) (hn : n ≤ 64) (hp : p < n) : Ct D l mi_X1_drop [.ref (ad 0), .int (nI p)] ad (foW D ad n tm ky ld) (fun v c => v = none ∧ c = foW D ad (n - 1) (drpF tm p n) (drpF ky p n) ld) := by
  refine Ct.of (by decide +kernel) (Nat.le_of_ble_eq_true rfl) (fun X A hX M hr => ?_)
  subst hX
  refine G_iload_n (pc := 0) M dX1_drop_0 rfl ?_
  refine G_iconst (pc := 1) (v := 1) M dX1_drop_1 (by decide +kernel) ?_
  refine G_iadd (pc := 2) M dX1_drop_2 ?_
  rw [nI_1]
  refine G_istore_n (pc := 3) M dX1_drop_3 (Nat.le_of_ble_eq_true rfl) ?_
  have := drop_loop M hr (ad := ad) (tm := tm) (ky := ky) (ld := ld) hn hp 65 (p + 1) (by omega) (by omega) (by omega)
  rw [show drpF tm p (p + 1) = tm by (funext j; simp only [drpF]; rw [if_neg (by omega)]), show drpF ky p (p + 1) = ky by (funext j; simp only [drpF]; rw [if_neg (by omega)])] at this
  exact this
theorem obt_lt (fu fv : Nat → Nat) (n a b : Nat) : ∀ r p, obt fu fv n a b r = some p → p < r
  | 0, p, h => by simp [obt] at h
  | r + 1, p, h => by
    rw [obt] at h
    split at h
    · cases h; omega
    · have := obt_lt fu fv n a b r p h
      omega
/-- a forest's array when an arc of x, y comes: the one at place o goes, the new one is the last -/
def facF {α : Type} (f : Nat → α) (n : Nat) (o : Option Nat) (x : α) : Nat → α := match o with
  | none => fun j => if j = n then x else f j
  | some p => fun j => if j = n - 1 then x else drpF f p n j
def facN (n : Nat) (o : Option Nat) : Nat := match o with
  | none => n + 1
  | some _ => n
theorem c_fAccept (D : DD) (l : Launch) (ad : Nat → Nat) (n x y : Nat) (tm ky ld : Nat → Int32) (t : Int32) (fu fv : Nat → Nat) (hn : n < 64) (hx : x < 64) (hy : y < 64) (hK : fArc n ky fu fv) : Ct D l mi_X1_accept [.ref (ad 0), .int (nI x), .int (nI y), .int t] ad (foW D ad n tm ky ld) (fun v c => v = none ∧ ∃ ld2, c = foW D ad (facN n (obt fu fv n x y n)) (facF tm n (obt fu fv n x y n) t) (facF ky n (obt fu fv n x y n) (nI (64 * x + y))) ld2) := by
  have hl := obt_lt fu fv n x y n
  refine Ct.of (by decide +kernel) (Nat.le_of_ble_eq_true rfl) (fun X A hX M hr => ?_)
  subst hX
  have fin : ∀ (n1 : Nat) (tm1 ky1 ld1 : Nat → Int32) (z : Option Value), n1 < 64 → G D X A 0 0 (GQ D X A ad 4 (fun v c => v = none ∧ ∃ ld2, c = foW D ad (n1 + 1) (upd tm1 n1 t) (upd ky1 n1 (nI (64 * x + y))) ld2)) ad 21 [some (.ref (ad 0)), some (.int (nI x)), some (.int (nI y)), some (.int t), z] [] (foW D ad n1 tm1 ky1 ld1) := by
    intro n1 tm1 ky1 ld1 z h1
    refine G_aload_n (pc := 21) M dX1_accept_21 rfl ?_
    refine G_getf (pc := 22) M dX1_accept_22 fl_X1_21 rfl (by first | rfl | assumption) ?_
    refine G_bipush (pc := 25) (v := 64) M dX1_accept_25 (by decide +kernel) ?_
    refine G_icmp_ge (pc := 27) M 64 dX1_accept_27 (by decide) (fun h27 => ?_) (fun h27 => ?_)
    · exact absurd ((nI_leI (a := 64) (b := n1) (by omega) (by omega)).mp h27) (by omega)
    · refine G_aload_n (pc := 30) M dX1_accept_30 rfl ?_
      refine G_getf (pc := 31) M dX1_accept_31 fl_X1_9 rfl (by first | rfl | assumption) ?_
      refine G_aload_n (pc := 34) M dX1_accept_34 rfl ?_
      refine G_getf (pc := 35) M dX1_accept_35 fl_X1_21 rfl (by first | rfl | assumption) ?_
      refine G_iload_n (pc := 38) M dX1_accept_38 rfl ?_
      refine G_iastore (pc := 39) M dX1_accept_39 rfl (by first | assumption | exact vp_in_nI (by omega) (by omega)) ?_
      rw [cl_nI (by omega)]
      refine G_aload_n (pc := 40) M dX1_accept_40 rfl ?_
      refine G_getf (pc := 41) M dX1_accept_41 fl_X1_15 rfl (by first | rfl | assumption) ?_
      refine G_aload_n (pc := 44) M dX1_accept_44 rfl ?_
      refine G_getf (pc := 45) M dX1_accept_45 fl_X1_21 rfl (by first | rfl | assumption) ?_
      refine G_iload_n (pc := 48) M dX1_accept_48 rfl ?_
      refine G_iload_n (pc := 49) M dX1_accept_49 rfl ?_
      refine G_calln (pc := 50) M [] dX1_accept_50 mn_X1_33 (c_keyOf D _ (fun j => ad (pn [] j)) (nI x) (nI y)) trivial rfl rfl rfl rfl (Nat.le_of_ble_eq_true rfl) (Nat.le_of_ble_eq_true rfl) (Nat.le_of_ble_eq_true rfl) ⟨Nat.zero_le _, Nat.zero_le _⟩ (fun v c1 hq hlen => ?_)
      obtain ⟨rfl, rfl⟩ := hq
      rw [ixA]
      refine G_iastore (pc := 53) M dX1_accept_53 rfl (by first | assumption | exact vp_in_nI (by omega) (by omega)) ?_
      rw [cl_nI (by omega)]
      refine G_aload_n (pc := 54) M dX1_accept_54 rfl ?_
      refine G_dup (pc := 55) M dX1_accept_55 rfl ?_
      refine G_getf (pc := 56) M dX1_accept_56 fl_X1_21 rfl (by first | rfl | assumption) ?_
      refine G_iconst (pc := 59) (v := 1) M dX1_accept_59 (by decide +kernel) ?_
      refine G_iadd (pc := 60) M dX1_accept_60 ?_
      rw [nI_1]
      refine G_putfi (pc := 61) M dX1_accept_61 fl_X1_21 rfl (Nat.le_of_ble_eq_true rfl) ?_
      exact G_vret M hr dX1_accept_64 rfl ⟨rfl, _, rfl⟩
  cases hO : obt fu fv n x y n with
  | none =>
    refine G_aload_n (pc := 0) M dX1_accept_0 rfl ?_
    refine G_iload_n (pc := 1) M dX1_accept_1 rfl ?_
    refine G_iload_n (pc := 2) M dX1_accept_2 rfl ?_
    refine G_callv (pc := 3) M [0, 1, 2, 3] dX1_accept_3 mv_X1_25 (c_oldest D _ (fun j => ad (pn [0, 1, 2, 3] j)) n x y tm ky ld fu fv (by omega) hx hy hK) rfl ⟨rfl, rfl, rfl, rfl, trivial⟩ rfl rfl rfl rfl (Nat.le_of_ble_eq_true rfl) (Nat.le_of_ble_eq_true rfl) (Nat.le_of_ble_eq_true rfl) ⟨Nat.zero_le _, Nat.zero_le _⟩ (fun v c1 hq hlen => ?_)
    obtain ⟨rfl, ld2, rfl⟩ := hq
    refine G_istore (pc := 6) M dX1_accept_6 (Nat.le_of_ble_eq_true rfl) ?_
    rw [hO]
    refine G_iload (pc := 8) M dX1_accept_8 rfl ?_
    refine G_bipush (pc := 10) (v := -2) M dX1_accept_10 (by decide +kernel) ?_
    refine G_icmp_eq (pc := 12) M 21 dX1_accept_12 (by decide) (fun h12 => ?_) (fun h12 => ?_)
    · exact fin n tm ky ld2 _ hn
    · exact absurd rfl h12
  | some p =>
    have hp := hl p hO
    refine G_aload_n (pc := 0) M dX1_accept_0 rfl ?_
    refine G_iload_n (pc := 1) M dX1_accept_1 rfl ?_
    refine G_iload_n (pc := 2) M dX1_accept_2 rfl ?_
    refine G_callv (pc := 3) M [0, 1, 2, 3] dX1_accept_3 mv_X1_25 (c_oldest D _ (fun j => ad (pn [0, 1, 2, 3] j)) n x y tm ky ld fu fv (by omega) hx hy hK) rfl ⟨rfl, rfl, rfl, rfl, trivial⟩ rfl rfl rfl rfl (Nat.le_of_ble_eq_true rfl) (Nat.le_of_ble_eq_true rfl) (Nat.le_of_ble_eq_true rfl) ⟨Nat.zero_le _, Nat.zero_le _⟩ (fun v c1 hq hlen => ?_)
    obtain ⟨rfl, ld2, rfl⟩ := hq
    rw [hO]
    refine G_istore (pc := 6) M dX1_accept_6 (Nat.le_of_ble_eq_true rfl) ?_
    refine G_iload (pc := 8) M dX1_accept_8 rfl ?_
    refine G_bipush (pc := 10) (v := -2) M dX1_accept_10 (by decide +kernel) ?_
    refine G_icmp_eq (pc := 12) M 21 dX1_accept_12 (by decide) (fun h12 => ?_) (fun h12 => ?_)
    · exact absurd h12 (fun w => absurd (show ¬ nI p < 0 from nI_pos (by omega)) (by rw [show nI p = -2 from w]; decide))
    · refine G_aload_n (pc := 15) M dX1_accept_15 rfl ?_
      refine G_iload (pc := 16) M dX1_accept_16 rfl ?_
      refine G_callv (pc := 18) M [0, 1, 2, 3] dX1_accept_18 mv_X1_29 (c_drop D _ (fun j => ad (pn [0, 1, 2, 3] j)) n p tm ky ld2 (by omega) hp) rfl ⟨rfl, rfl, rfl, rfl, trivial⟩ rfl rfl rfl rfl (Nat.le_of_ble_eq_true rfl) (Nat.le_of_ble_eq_true rfl) (Nat.le_of_ble_eq_true rfl) ⟨Nat.zero_le _, Nat.zero_le _⟩ (fun v c1 hq hlen => ?_)
      obtain ⟨rfl, rfl⟩ := hq
      have := fin (n - 1) (drpF tm p n) (drpF ky p n) ld2 (some (.int (nI p))) (by omega)
      rw [show n - 1 + 1 = n by omega] at this
      exact this
end
section
/-! Thinned -/
abbrev thO (ad : Nat → Nat) (nn st z : Nat) : va_E := ob 5 [.ref (ad 1), .ref (ad 2), .ref (ad 3), .int (nI nn), .int (nI st), .int (nI z)]
abbrev thW (D : DD) (ad : Nat → Nat) (nn st z : Nat) (tm ky : Nat → Int32) (nb : Nat → Int64) : List va_E := [thO ad nn st z, ia D 512 tm, ia D 512 ky, la D 64 nb]
theorem c_tRestart (D : DD) (l : Launch) (ad : Nat → Nat) (n0 s0 z0 nn st : Nat) (tm ky : Nat → Int32) (nb : Nat → Int64) : Ct D l mi_X5_restart [.ref (ad 0), .int (nI nn), .int (nI st)] ad (thW D ad n0 s0 z0 tm ky nb) (fun v c => v = none ∧ c = thW D ad nn st 0 tm ky (fun _ => 0)) := by
  refine Ct.of (by decide +kernel) (Nat.le_of_ble_eq_true rfl) (fun X A hX M hr => ?_)
  subst hX
  refine G_aload_n (pc := 0) M dX5_restart_0 rfl ?_
  refine G_iload_n (pc := 1) M dX5_restart_1 rfl ?_
  refine G_putfi (pc := 2) M dX5_restart_2 fl_X5_22 rfl (Nat.le_of_ble_eq_true rfl) ?_
  refine G_aload_n (pc := 5) M dX5_restart_5 rfl ?_
  refine G_iload_n (pc := 6) M dX5_restart_6 rfl ?_
  refine G_putfi (pc := 7) M dX5_restart_7 fl_X5_26 rfl (Nat.le_of_ble_eq_true rfl) ?_
  refine G_aload_n (pc := 10) M dX5_restart_10 rfl ?_
  refine G_iconst (pc := 11) (v := 0) M dX5_restart_11 (by decide +kernel) ?_
  refine G_putfi (pc := 12) M dX5_restart_12 fl_X5_29 rfl (Nat.le_of_ble_eq_true rfl) ?_
  refine G_aload_n (pc := 15) M dX5_restart_15 rfl ?_
  refine G_getf (pc := 16) M dX5_restart_16 fl_X5_18 rfl (by first | rfl | assumption) ?_
  refine G_lconst (pc := 19) (v := 0) M dX5_restart_19 (by decide +kernel) ?_
  refine G_calls (pc := 20) M [3] dX5_restart_20 ms_X5_32 (c_filll D _ (fun j => ad (pn [3] j)) 64 nb 0 (by omega)) ⟨rfl, trivial⟩ rfl rfl rfl rfl (Nat.le_of_ble_eq_true rfl) (Nat.le_of_ble_eq_true rfl) (Nat.le_of_ble_eq_true rfl) ⟨Nat.zero_le _, Nat.zero_le _⟩ (fun v c1 hq hlen => ?_)
  obtain ⟨rfl, rfl⟩ := hq
  exact G_vret M hr dX5_restart_23 rfl ⟨rfl, rfl⟩
def nbF (nb : Nat → Int64) (set : Int64) : Nat → Int64
  | 0 => 0
  | k + 1 => bif bt set k then nbF nb set k ||| nb k else nbF nb set k
theorem nb_loop {D : DD} {X : MX} {A : Nat → Prop} (M : CX D X A mi_X5_neighboursOf.1.cls mi_X5_neighboursOf.2.1 mi_X5_neighboursOf.2.2.1 (miR mi_X5_neighboursOf)) (hr : RT X mi_X5_neighboursOf.2.2.2.1) {ad : Nat → Nat} {fs : List Value} {nn : Nat} {nb : Nat → Int64} {set : Int64} (hnn : nn ≤ 64) (hf2 : gt fs 2 = some (.ref (ad 1))) (hf3 : gt fs 3 = some (.int (nI nn))) : ∀ m k : Nat, k ≤ nn → nn - k < m →
    G D X A 0 0 (GQ D X A ad 2 (fun v c => v = some (.long (nbF nb set nn)) ∧ c = [ob 5 fs, la D 64 nb])) ad 5 [some (.ref (ad 0)), some (.long set), none, some (.long (nbF nb set k)), none, some (.int (nI k))] [] [ob 5 fs, la D 64 nb] := by
  intro m
  induction m with
  | zero => intro k _ h; omega
  | succ m ih =>
    intro k hk hm
    refine G_iload (pc := 5) M dX5_neighboursOf_5 rfl ?_
    refine G_aload_n (pc := 7) M dX5_neighboursOf_7 rfl ?_
    refine G_getf (pc := 8) M dX5_neighboursOf_8 fl_X5_22 rfl (by first | rfl | assumption) ?_
    refine G_icmp_ge (pc := 11) M 39 dX5_neighboursOf_11 (by decide) (fun h11 => ?_) (fun h11 => ?_)
    · have e : k = nn := by
        have := (nI_leI (a := nn) (b := k) (by omega) (by omega)).mp h11
        omega
      subst e
      refine G_lload_n (pc := 39) M dX5_neighboursOf_39 rfl ?_
      exact G_lret M hr dX5_neighboursOf_40 rfl ⟨rfl, rfl⟩
    · have hkn : k < nn := Nat.lt_of_not_le (fun q => h11 (nI_le q (by omega)))
      refine G_lload_n (pc := 14) M dX5_neighboursOf_14 rfl ?_
      refine G_iload (pc := 15) M dX5_neighboursOf_15 rfl ?_
      refine G_calln (pc := 17) M [] dX5_neighboursOf_17 mn_X5_46 (c_holds D _ (fun j => ad (pn [] j)) set (nI k)) trivial rfl rfl rfl rfl (Nat.le_of_ble_eq_true rfl) (Nat.le_of_ble_eq_true rfl) (Nat.le_of_ble_eq_true rfl) ⟨Nat.zero_le _, Nat.zero_le _⟩ (fun v c1 hq hlen => ?_)
      obtain ⟨rfl, rfl⟩ := hq
      rw [hb_bt set (by omega)]
      refine G_if_eq (pc := 20) M 33 dX5_neighboursOf_20 (by decide) (fun h20 => ?_) (fun h20 => ?_)
      · have e : nbF nb set (k + 1) = nbF nb set k := by rw [nbF, bz0 h20]; rfl
        refine G_iinc (pc := 33) (v := 1) M dX5_neighboursOf_33 rfl (by decide +kernel) (Nat.le_of_ble_eq_true rfl) ?_
        refine G_goto (pc := 36) M 5 dX5_neighboursOf_36 (by decide) ?_
        have := ih (k + 1) (by omega) (by omega)
        rw [e, ← nI_1 k] at this
        exact this
      · have e : nbF nb set (k + 1) = nbF nb set k ||| nb k := by rw [nbF, bz1 h20]; rfl
        refine G_lload_n (pc := 23) M dX5_neighboursOf_23 rfl ?_
        refine G_aload_n (pc := 24) M dX5_neighboursOf_24 rfl ?_
        refine G_getf (pc := 25) M dX5_neighboursOf_25 fl_X5_18 rfl (by first | rfl | assumption) ?_
        refine G_iload (pc := 28) M dX5_neighboursOf_28 rfl ?_
        refine G_laload (pc := 30) M dX5_neighboursOf_30 rfl (by first | assumption | exact vp_in_nI (by omega) (by omega)) ?_
        rw [cl_nI (by omega)]
        refine G_lor (pc := 31) M dX5_neighboursOf_31 ?_
        refine G_lstore_n (pc := 32) M dX5_neighboursOf_32 (Nat.le_of_ble_eq_true rfl) ?_
        refine G_iinc (pc := 33) (v := 1) M dX5_neighboursOf_33 rfl (by decide +kernel) (Nat.le_of_ble_eq_true rfl) ?_
        refine G_goto (pc := 36) M 5 dX5_neighboursOf_36 (by decide) ?_
        have := ih (k + 1) (by omega) (by omega)
        rw [e, ← nI_1 k] at this
        exact this
theorem c_neighboursOf (D : DD) (l : Launch) (ad : Nat → Nat) (fs : List Value) (nn : Nat) (nb : Nat → Int64) (set : Int64) (hnn : nn ≤ 64) (hf2 : gt fs 2 = some (.ref (ad 1))) (hf3 : gt fs 3 = some (.int (nI nn))) : Ct D l mi_X5_neighboursOf [.ref (ad 0), .long set] ad [ob 5 fs, la D 64 nb] (fun v c => v = some (.long (nbF nb set nn)) ∧ c = [ob 5 fs, la D 64 nb]) := by
  refine Ct.of (by decide +kernel) (Nat.le_of_ble_eq_true rfl) (fun X A hX M hr => ?_)
  subst hX
  refine G_lconst (pc := 0) (v := 0) M dX5_neighboursOf_0 (by decide +kernel) ?_
  refine G_lstore_n (pc := 1) M dX5_neighboursOf_1 (Nat.le_of_ble_eq_true rfl) ?_
  refine G_iconst (pc := 2) (v := 0) M dX5_neighboursOf_2 (by decide +kernel) ?_
  refine G_istore (pc := 3) M dX5_neighboursOf_3 (Nat.le_of_ble_eq_true rfl) ?_
  exact nb_loop M hr hnn hf2 hf3 65 0 (by omega) (by omega)
def one (a : Nat) : Int64 := (1 : Int64) <<< ((nI a).toInt64 &&& 63)
/-- the search from the edge Ed, with Re reached, r steps at most left, sp done -/
def dst (nb : Nat → Int64) (nn b : Nat) : Nat → Nat → Int64 → Int64 → Int32
  | 0, _, _, _ => -2
  | r + 1, sp, Re, Ed => if Ed = 0 then -2 else bif bt Ed b then nI sp else dst nb nn b r (sp + 1) (Re ||| (nbF nb Ed nn &&& (Re ^^^ (-1)))) (nbF nb Ed nn &&& (Re ^^^ (-1)))
theorem dst_loop {D : DD} {X : MX} {A : Nat → Prop} (M : CX D X A mi_X5_distance.1.cls mi_X5_distance.2.1 mi_X5_distance.2.2.1 (miR mi_X5_distance)) (hr : RT X mi_X5_distance.2.2.2.1) {ad : Nat → Nat} {fs : List Value} {nn a b mo : Nat} {nb : Nat → Int64} (hnn : nn ≤ 64) (hb : b < 64) (hmo : mo ≤ 64) (hf2 : gt fs 2 = some (.ref (ad 1))) (hf3 : gt fs 3 = some (.int (nI nn))) : ∀ r sp : Nat, sp + r = mo + 1 → ∀ Re Ed : Int64,
    G D X A 0 0 (GQ D X A ad 2 (fun v c => v = some (.int (dst nb nn b r sp Re Ed)) ∧ c = [ob 5 fs, la D 64 nb])) ad 12 [some (.ref (ad 0)), some (.int (nI a)), some (.int (nI b)), some (.int (nI mo)), some (.long Re), none, some (.long Ed), none, some (.int (nI sp))] [] [ob 5 fs, la D 64 nb] := by
  intro r
  induction r with
  | zero =>
    intro sp hs Re Ed
    refine G_iload (pc := 12) M dX5_distance_12 rfl ?_
    refine G_iload_n (pc := 14) M dX5_distance_14 rfl ?_
    refine G_icmp_gt (pc := 15) M 65 dX5_distance_15 (by decide) (fun h15 => ?_) (fun h15 => ?_)
    · refine G_bipush (pc := 65) (v := -2) M dX5_distance_65 (by decide +kernel) ?_
      exact G_iret M hr dX5_distance_67 rfl ⟨rfl, rfl⟩
    · exact absurd (nI_lt (a := mo) (b := sp) (by omega) (by omega)) h15
  | succ r ih =>
    intro sp hs Re Ed
    refine G_iload (pc := 12) M dX5_distance_12 rfl ?_
    refine G_iload_n (pc := 14) M dX5_distance_14 rfl ?_
    refine G_icmp_gt (pc := 15) M 65 dX5_distance_15 (by decide) (fun h15 => ?_) (fun h15 => ?_)
    · exact absurd ((nI_ltI (a := mo) (b := sp) (by omega) (by omega)).mp h15) (by omega)
    · refine G_lload (pc := 18) M dX5_distance_18 rfl ?_
      refine G_lconst (pc := 20) (v := 0) M dX5_distance_20 (by decide +kernel) ?_
      refine G_lcmp (pc := 21) M dX5_distance_21 ?_
      refine G_if_eq (pc := 22) M 65 dX5_distance_22 (by decide) (fun h22 => ?_) (fun h22 => ?_)
      · rw [lg_cmp_eq] at h22
        have e : dst nb nn b (r + 1) sp Re Ed = -2 := by rw [dst, if_pos h22]
        refine G_bipush (pc := 65) (v := -2) M dX5_distance_65 (by decide +kernel) ?_
        exact G_iret M hr dX5_distance_67 rfl ⟨by rw [e], rfl⟩
      · rw [lg_cmp_eq] at h22
        refine G_lload (pc := 25) M dX5_distance_25 rfl ?_
        refine G_iload_n (pc := 27) M dX5_distance_27 rfl ?_
        refine G_calln (pc := 28) M [] dX5_distance_28 mn_X5_46 (c_holds D _ (fun j => ad (pn [] j)) Ed (nI b)) trivial rfl rfl rfl rfl (Nat.le_of_ble_eq_true rfl) (Nat.le_of_ble_eq_true rfl) (Nat.le_of_ble_eq_true rfl) ⟨Nat.zero_le _, Nat.zero_le _⟩ (fun v c1 hq hlen => ?_)
        obtain ⟨rfl, rfl⟩ := hq
        rw [hb_bt Ed (by omega)]
        refine G_if_eq (pc := 31) M 37 dX5_distance_31 (by decide) (fun h31 => ?_) (fun h31 => ?_)
        · have e : dst nb nn b (r + 1) sp Re Ed = dst nb nn b r (sp + 1) (Re ||| (nbF nb Ed nn &&& (Re ^^^ (-1)))) (nbF nb Ed nn &&& (Re ^^^ (-1))) := by rw [dst, if_neg h22, bz0 h31]; rfl
          refine G_aload_n (pc := 37) M dX5_distance_37 rfl ?_
          refine G_lload (pc := 38) M dX5_distance_38 rfl ?_
          refine G_callv (pc := 40) M [0, 1] dX5_distance_40 mv_X5_50 (c_neighboursOf D _ (fun j => ad (pn [0, 1] j)) fs nn nb Ed hnn hf2 hf3) rfl ⟨rfl, rfl, trivial⟩ rfl rfl rfl rfl (Nat.le_of_ble_eq_true rfl) (Nat.le_of_ble_eq_true rfl) (Nat.le_of_ble_eq_true rfl) ⟨Nat.zero_le _, Nat.zero_le _⟩ (fun v c1 hq hlen => ?_)
          obtain ⟨rfl, rfl⟩ := hq
          refine G_lload (pc := 43) M dX5_distance_43 rfl ?_
          refine G_ldc2 (pc := 45) M dX5_distance_45 cn_X5_54 ?_
          refine G_lxor (pc := 48) M dX5_distance_48 ?_
          refine G_land (pc := 49) M dX5_distance_49 ?_
          refine G_lstore (pc := 50) M dX5_distance_50 (Nat.le_of_ble_eq_true rfl) ?_
          refine G_lload (pc := 52) M dX5_distance_52 rfl ?_
          refine G_lload (pc := 54) M dX5_distance_54 rfl ?_
          refine G_lor (pc := 56) M dX5_distance_56 ?_
          refine G_lstore (pc := 57) M dX5_distance_57 (Nat.le_of_ble_eq_true rfl) ?_
          refine G_iinc (pc := 59) (v := 1) M dX5_distance_59 rfl (by decide +kernel) (Nat.le_of_ble_eq_true rfl) ?_
          refine G_goto (pc := 62) M 12 dX5_distance_62 (by decide) ?_
          rw [e, nI_1]
          exact ih (sp + 1) (by omega) _ _
        · have e : dst nb nn b (r + 1) sp Re Ed = nI sp := by rw [dst, if_neg h22, bz1 h31]; rfl
          refine G_iload (pc := 34) M dX5_distance_34 rfl ?_
          exact G_iret M hr dX5_distance_36 rfl ⟨by rw [e], rfl⟩
theorem c_distance (D : DD) (l : Launch) (ad : Nat → Nat) (fs : List Value) (nn a b mo : Nat) (nb : Nat → Int64) (hnn : nn ≤ 64) (hb : b < 64) (hmo : mo ≤ 64) (hf2 : gt fs 2 = some (.ref (ad 1))) (hf3 : gt fs 3 = some (.int (nI nn))) : Ct D l mi_X5_distance [.ref (ad 0), .int (nI a), .int (nI b), .int (nI mo)] ad [ob 5 fs, la D 64 nb] (fun v c => v = some (.int (dst nb nn b (mo + 1) 0 (one a) (one a))) ∧ c = [ob 5 fs, la D 64 nb]) := by
  refine Ct.of (by decide +kernel) (Nat.le_of_ble_eq_true rfl) (fun X A hX M hr => ?_)
  subst hX
  refine G_lconst (pc := 0) (v := 1) M dX5_distance_0 (by decide +kernel) ?_
  refine G_iload_n (pc := 1) M dX5_distance_1 rfl ?_
  refine G_lshl (pc := 2) M dX5_distance_2 ?_
  refine G_lstore (pc := 3) M dX5_distance_3 (Nat.le_of_ble_eq_true rfl) ?_
  refine G_lload (pc := 5) M dX5_distance_5 rfl ?_
  refine G_lstore (pc := 7) M dX5_distance_7 (Nat.le_of_ble_eq_true rfl) ?_
  refine G_iconst (pc := 9) (v := 0) M dX5_distance_9 (by decide +kernel) ?_
  refine G_istore (pc := 10) M dX5_distance_10 (Nat.le_of_ble_eq_true rfl) ?_
  exact dst_loop M hr hnn hb hmo hf2 hf3 (mo + 1) 0 (by omega) _ _
def nbA (nb : Nat → Int64) (x y : Nat) : Nat → Int64 := vp_updL (vp_updL nb x (nb x ||| one y)) y (vp_updL nb x (nb x ||| one y) y ||| one x)
theorem c_tAccept (D : DD) (l : Launch) (ad : Nat → Nat) (nn st z x y : Nat) (tm ky : Nat → Int32) (nb : Nat → Int64) (t : Int32) (hnn : nn ≤ 64) (hst : st ≤ 64) (hz : z < 512) (hx : x < 64) (hy : y < 64) : Ct D l mi_X5_accept [.ref (ad 0), .int (nI x), .int (nI y), .int t] ad (thW D ad nn st z tm ky nb) (fun v c => v = none ∧ c = if dst nb nn y (st + 1) 0 (one x) (one x) = -2 then thW D ad nn st (z + 1) (upd tm z t) (upd ky z (nI (64 * x + y))) (nbA nb x y) else thW D ad nn st z tm ky nb) := by
  refine Ct.of (by decide +kernel) (Nat.le_of_ble_eq_true rfl) (fun X A hX M hr => ?_)
  subst hX
  refine G_aload_n (pc := 0) M dX5_accept_0 rfl ?_
  refine G_getf (pc := 1) M dX5_accept_1 fl_X5_29 rfl (by first | rfl | assumption) ?_
  refine G_sipush (pc := 4) (v := 512) M dX5_accept_4 (by decide +kernel) ?_
  refine G_icmp_ge (pc := 7) M 25 dX5_accept_7 (by decide) (fun h7 => ?_) (fun h7 => ?_)
  · exact absurd ((nI_leI (a := 512) (b := z) (by omega) (by omega)).mp h7) (by omega)
  · refine G_aload_n (pc := 10) M dX5_accept_10 rfl ?_
    refine G_iload_n (pc := 11) M dX5_accept_11 rfl ?_
    refine G_iload_n (pc := 12) M dX5_accept_12 rfl ?_
    refine G_aload_n (pc := 13) M dX5_accept_13 rfl ?_
    refine G_getf (pc := 14) M dX5_accept_14 fl_X5_26 rfl (by first | rfl | assumption) ?_
    refine G_callv (pc := 17) M [0, 3] dX5_accept_17 mv_X5_38 (c_distance D _ (fun j => ad (pn [0, 3] j)) _ nn x y st nb hnn hy hst rfl rfl) rfl ⟨rfl, rfl, trivial⟩ rfl rfl rfl rfl (Nat.le_of_ble_eq_true rfl) (Nat.le_of_ble_eq_true rfl) (Nat.le_of_ble_eq_true rfl) ⟨Nat.zero_le _, Nat.zero_le _⟩ (fun v c1 hq hlen => ?_)
    obtain ⟨rfl, rfl⟩ := hq
    refine G_bipush (pc := 20) (v := -2) M dX5_accept_20 (by decide +kernel) ?_
    refine G_icmp_eq (pc := 22) M 26 dX5_accept_22 (by decide) (fun h22 => ?_) (fun h22 => ?_)
    · refine G_aload_n (pc := 26) M dX5_accept_26 rfl ?_
      refine G_getf (pc := 27) M dX5_accept_27 fl_X5_9 rfl (by first | rfl | assumption) ?_
      refine G_aload_n (pc := 30) M dX5_accept_30 rfl ?_
      refine G_getf (pc := 31) M dX5_accept_31 fl_X5_29 rfl (by first | rfl | assumption) ?_
      refine G_iload_n (pc := 34) M dX5_accept_34 rfl ?_
      refine G_iastore (pc := 35) M dX5_accept_35 rfl (by first | assumption | exact vp_in_nI (by omega) (by omega)) ?_
      rw [cl_nI (by omega)]
      refine G_aload_n (pc := 36) M dX5_accept_36 rfl ?_
      refine G_getf (pc := 37) M dX5_accept_37 fl_X5_15 rfl (by first | rfl | assumption) ?_
      refine G_aload_n (pc := 40) M dX5_accept_40 rfl ?_
      refine G_getf (pc := 41) M dX5_accept_41 fl_X5_29 rfl (by first | rfl | assumption) ?_
      refine G_iload_n (pc := 44) M dX5_accept_44 rfl ?_
      refine G_iload_n (pc := 45) M dX5_accept_45 rfl ?_
      refine G_calln (pc := 46) M [] dX5_accept_46 mn_X5_42 (c_keyOf D _ (fun j => ad (pn [] j)) (nI x) (nI y)) trivial rfl rfl rfl rfl (Nat.le_of_ble_eq_true rfl) (Nat.le_of_ble_eq_true rfl) (Nat.le_of_ble_eq_true rfl) ⟨Nat.zero_le _, Nat.zero_le _⟩ (fun v c1 hq hlen => ?_)
      obtain ⟨rfl, rfl⟩ := hq
      rw [ixA]
      refine G_iastore (pc := 49) M dX5_accept_49 rfl (by first | assumption | exact vp_in_nI (by omega) (by omega)) ?_
      rw [cl_nI (by omega)]
      refine G_aload_n (pc := 50) M dX5_accept_50 rfl ?_
      refine G_dup (pc := 51) M dX5_accept_51 rfl ?_
      refine G_getf (pc := 52) M dX5_accept_52 fl_X5_29 rfl (by first | rfl | assumption) ?_
      refine G_iconst (pc := 55) (v := 1) M dX5_accept_55 (by decide +kernel) ?_
      refine G_iadd (pc := 56) M dX5_accept_56 ?_
      rw [nI_1]
      refine G_putfi (pc := 57) M dX5_accept_57 fl_X5_29 rfl (Nat.le_of_ble_eq_true rfl) ?_
      refine G_aload_n (pc := 60) M dX5_accept_60 rfl ?_
      refine G_getf (pc := 61) M dX5_accept_61 fl_X5_18 rfl (by first | rfl | assumption) ?_
      refine G_iload_n (pc := 64) M dX5_accept_64 rfl ?_
      first | refine G_dup2 (pc := 65) M dX5_accept_65 rfl rfl ?_ | refine G_dup2L (pc := 65) M dX5_accept_65 rfl ?_
      refine G_laload (pc := 66) M dX5_accept_66 rfl (by first | assumption | exact vp_in_nI (by omega) (by omega)) ?_
      rw [cl_nI (by omega)]
      refine G_lconst (pc := 67) (v := 1) M dX5_accept_67 (by decide +kernel) ?_
      refine G_iload_n (pc := 68) M dX5_accept_68 rfl ?_
      refine G_lshl (pc := 69) M dX5_accept_69 ?_
      refine G_lor (pc := 70) M dX5_accept_70 ?_
      refine G_lastore (pc := 71) M dX5_accept_71 rfl (by first | assumption | exact vp_in_nI (by omega) (by omega)) ?_
      rw [cl_nI (by omega)]
      refine G_aload_n (pc := 72) M dX5_accept_72 rfl ?_
      refine G_getf (pc := 73) M dX5_accept_73 fl_X5_18 rfl (by first | rfl | assumption) ?_
      refine G_iload_n (pc := 76) M dX5_accept_76 rfl ?_
      first | refine G_dup2 (pc := 77) M dX5_accept_77 rfl rfl ?_ | refine G_dup2L (pc := 77) M dX5_accept_77 rfl ?_
      refine G_laload (pc := 78) M dX5_accept_78 rfl (by first | assumption | exact vp_in_nI (by omega) (by omega)) ?_
      rw [cl_nI (by omega)]
      refine G_lconst (pc := 79) (v := 1) M dX5_accept_79 (by decide +kernel) ?_
      refine G_iload_n (pc := 80) M dX5_accept_80 rfl ?_
      refine G_lshl (pc := 81) M dX5_accept_81 ?_
      refine G_lor (pc := 82) M dX5_accept_82 ?_
      refine G_lastore (pc := 83) M dX5_accept_83 rfl (by first | assumption | exact vp_in_nI (by omega) (by omega)) ?_
      rw [cl_nI (by omega)]
      exact G_vret M hr dX5_accept_84 rfl ⟨rfl, by rw [if_pos h22]; rfl⟩
    · exact G_vret M hr dX5_accept_25 rfl ⟨rfl, by rw [if_neg h22]; rfl⟩
end
section
/-! Rows -/
abbrev rwO (ad : Nat → Nat) (nn : Nat) (sd : Int64) : va_E := ob 3 [.ref (ad 1), .int (nI nn), .long sd]
abbrev rwW (D : DD) (ad : Nat → Nat) (nn : Nat) (sd : Int64) (S : Nat → Int64) : List va_E := [rwO ad nn sd, la D 1920 S]
theorem c_rRestart (D : DD) (l : Launch) (ad : Nat → Nat) (n0 nn : Nat) (s0 sd : Int64) (S : Nat → Int64) : Ct D l mi_X3_restart [.ref (ad 0), .int (nI nn), .long sd] ad (rwW D ad n0 s0 S) (fun v c => v = none ∧ c = rwW D ad nn sd (fun _ => 0)) := by
  refine Ct.of (by decide +kernel) (Nat.le_of_ble_eq_true rfl) (fun X A hX M hr => ?_)
  subst hX
  refine G_aload_n (pc := 0) M dX3_restart_0 rfl ?_
  refine G_iload_n (pc := 1) M dX3_restart_1 rfl ?_
  refine G_putfi (pc := 2) M dX3_restart_2 fl_X3_15 rfl (Nat.le_of_ble_eq_true rfl) ?_
  refine G_aload_n (pc := 5) M dX3_restart_5 rfl ?_
  refine G_lload_n (pc := 6) M dX3_restart_6 rfl ?_
  refine G_putfl (pc := 7) M dX3_restart_7 fl_X3_19 rfl (Nat.le_of_ble_eq_true rfl) ?_
  refine G_aload_n (pc := 10) M dX3_restart_10 rfl ?_
  refine G_getf (pc := 11) M dX3_restart_11 fl_X3_9 rfl (by first | rfl | assumption) ?_
  refine G_lconst (pc := 14) (v := 0) M dX3_restart_14 (by decide +kernel) ?_
  refine G_calls (pc := 15) M [1] dX3_restart_15 ms_X3_23 (c_filll D _ (fun j => ad (pn [1] j)) 1920 S 0 (by omega)) ⟨rfl, trivial⟩ rfl rfl rfl rfl (Nat.le_of_ble_eq_true rfl) (Nat.le_of_ble_eq_true rfl) (Nat.le_of_ble_eq_true rfl) ⟨Nat.zero_le _, Nat.zero_le _⟩ (fun v c1 hq hlen => ?_)
  obtain ⟨rfl, rfl⟩ := hq
  exact G_vret M hr dX3_restart_18 rfl ⟨rfl, rfl⟩
theorem lvC_loop {D : DD} {X : MX} {A : Nat → Prop} (M : CX D X A mi_X3_levelOf.1.cls mi_X3_levelOf.2.1 mi_X3_levelOf.2.2.1 (miR mi_X3_levelOf)) (hr : RT X mi_X3_levelOf.2.2.2.1) {ad : Nat → Nat} {cs : List va_E} {n : Nat} (hn : cs.length = n) {z : Int64} {a b c : Option Value} : ∀ m : Nat, m ≤ 9 →
    G D X A 0 0 (GQ D X A ad n (fun v c => v = some (.int (nI (lvF z m))) ∧ c = cs)) ad 45 [a, b, c, some (.long z), none, some (.int (nI (9 - m)))] [] cs := by
  intro m
  induction m with
  | zero =>
    intro _
    refine G_iload (pc := 45) M dX3_levelOf_45 rfl ?_
    refine G_bipush (pc := 47) (v := 9) M dX3_levelOf_47 (by decide +kernel) ?_
    refine G_icmp_ge (pc := 49) M 67 dX3_levelOf_49 (by decide) (fun h49 => ?_) (fun h49 => ?_)
    · refine G_iload (pc := 67) M dX3_levelOf_67 rfl ?_
      exact G_iret M hr dX3_levelOf_69 hn ⟨rfl, rfl⟩
    · exact absurd (nI_le (a := 9) (b := 9 - 0) (by omega) (by omega)) h49
  | succ m ih =>
    intro hm
    refine G_iload (pc := 45) M dX3_levelOf_45 rfl ?_
    refine G_bipush (pc := 47) (v := 9) M dX3_levelOf_47 (by decide +kernel) ?_
    refine G_icmp_ge (pc := 49) M 67 dX3_levelOf_49 (by decide) (fun h49 => ?_) (fun h49 => ?_)
    · exact absurd ((nI_leI (a := 9) (b := 9 - (m + 1)) (by omega) (by omega)).mp h49) (by omega)
    · refine G_lload_n (pc := 52) M dX3_levelOf_52 rfl ?_
      refine G_iload (pc := 53) M dX3_levelOf_53 rfl ?_
      refine G_calln (pc := 55) M [] dX3_levelOf_55 mn_X3_57 (c_holds D _ (fun j => ad (pn [] j)) z (nI (9 - (m + 1)))) trivial rfl rfl rfl rfl (Nat.le_of_ble_eq_true rfl) (Nat.le_of_ble_eq_true rfl) (Nat.le_of_ble_eq_true rfl) ⟨Nat.zero_le _, Nat.zero_le _⟩ (fun v c1 hq hlen => ?_)
      obtain ⟨rfl, rfl⟩ := hq
      rw [hb_bt z (by omega)]
      refine G_if_ne (pc := 58) M 67 dX3_levelOf_58 (by decide) (fun h58 => ?_) (fun h58 => ?_)
      · have el : lvF z (m + 1) = 9 - (m + 1) := by rw [lvF, bz1 h58]; rfl
        refine G_iload (pc := 67) M dX3_levelOf_67 rfl ?_
        exact G_iret M hr dX3_levelOf_69 hn ⟨by rw [el], rfl⟩
      · have el : lvF z (m + 1) = lvF z m := by rw [lvF, bz0 (b := bt z (9 - (m + 1))) (by simpa using h58)]; rfl
        refine G_iinc (pc := 61) (v := 1) M dX3_levelOf_61 rfl (by decide +kernel) (Nat.le_of_ble_eq_true rfl) ?_
        refine G_goto (pc := 64) M 45 dX3_levelOf_64 (by decide) ?_
        have := ih (by omega)
        rw [show 9 - m = 9 - (m + 1) + 1 by omega, ← nI_1] at this
        rw [el]
        exact this
theorem c_levelOfC (D : DD) (l : Launch) (ad : Nat → Nat) (fs : List Value) (sd key : Int64) (hf2 : gt fs 2 = some (.long sd)) : Ct D l mi_X3_levelOf [.ref (ad 0), .long key] ad [ob 3 fs] (fun v c => v = some (.int (nI (lvK sd key))) ∧ c = [ob 3 fs]) := by
  refine Ct.of (by decide +kernel) (Nat.le_of_ble_eq_true rfl) (fun X A hX M hr => ?_)
  subst hX
  refine G_aload_n (pc := 0) M dX3_levelOf_0 rfl ?_
  refine G_getf (pc := 1) M dX3_levelOf_1 fl_X3_19 rfl (by first | rfl | assumption) ?_
  refine G_lload_n (pc := 4) M dX3_levelOf_4 rfl ?_
  refine G_lconst (pc := 5) (v := 1) M dX3_levelOf_5 (by decide +kernel) ?_
  refine G_ladd (pc := 6) M dX3_levelOf_6 ?_
  refine G_ldc2 (pc := 7) M dX3_levelOf_7 cn_X3_61 ?_
  refine G_lmul (pc := 10) M dX3_levelOf_10 ?_
  refine G_ladd (pc := 11) M dX3_levelOf_11 ?_
  refine G_lstore_n (pc := 12) M dX3_levelOf_12 (Nat.le_of_ble_eq_true rfl) ?_
  refine G_lload_n (pc := 13) M dX3_levelOf_13 rfl ?_
  refine G_lload_n (pc := 14) M dX3_levelOf_14 rfl ?_
  refine G_bipush (pc := 15) (v := 30) M dX3_levelOf_15 (by decide +kernel) ?_
  refine G_lushr (pc := 17) M dX3_levelOf_17 ?_
  refine G_lxor (pc := 18) M dX3_levelOf_18 ?_
  refine G_ldc2 (pc := 19) M dX3_levelOf_19 cn_X3_63 ?_
  refine G_lmul (pc := 22) M dX3_levelOf_22 ?_
  refine G_lstore_n (pc := 23) M dX3_levelOf_23 (Nat.le_of_ble_eq_true rfl) ?_
  refine G_lload_n (pc := 24) M dX3_levelOf_24 rfl ?_
  refine G_lload_n (pc := 25) M dX3_levelOf_25 rfl ?_
  refine G_bipush (pc := 26) (v := 27) M dX3_levelOf_26 (by decide +kernel) ?_
  refine G_lushr (pc := 28) M dX3_levelOf_28 ?_
  refine G_lxor (pc := 29) M dX3_levelOf_29 ?_
  refine G_ldc2 (pc := 30) M dX3_levelOf_30 cn_X3_65 ?_
  refine G_lmul (pc := 33) M dX3_levelOf_33 ?_
  refine G_lstore_n (pc := 34) M dX3_levelOf_34 (Nat.le_of_ble_eq_true rfl) ?_
  refine G_lload_n (pc := 35) M dX3_levelOf_35 rfl ?_
  refine G_lload_n (pc := 36) M dX3_levelOf_36 rfl ?_
  refine G_bipush (pc := 37) (v := 31) M dX3_levelOf_37 (by decide +kernel) ?_
  refine G_lushr (pc := 39) M dX3_levelOf_39 ?_
  refine G_lxor (pc := 40) M dX3_levelOf_40 ?_
  refine G_lstore_n (pc := 41) M dX3_levelOf_41 (Nat.le_of_ble_eq_true rfl) ?_
  refine G_iconst (pc := 42) (v := 0) M dX3_levelOf_42 (by decide +kernel) ?_
  refine G_istore (pc := 43) M dX3_levelOf_43 (Nat.le_of_ble_eq_true rfl) ?_
  exact lvC_loop M hr (z := mixZ sd key) rfl 9 (by omega)
theorem c_addTo (D : DD) (l : Launch) (ad : Nat → Nat) (fs : List Value) (S : Nat → Int64) (p : Nat) (key : Int64) (t : Int32) (hp : p + 2 < 1920) (hf0 : gt fs 0 = some (.ref (ad 1))) : Ct D l mi_X3_addTo [.ref (ad 0), .int (nI p), .long key, .int t] ad [ob 3 fs, la D 1920 S] (fun v c => v = none ∧ c = [ob 3 fs, la D 1920 (rowAdd S p key t.toInt64)]) := by
  refine Ct.of (by decide +kernel) (Nat.le_of_ble_eq_true rfl) (fun X A hX M hr => ?_)
  subst hX
  refine G_aload_n (pc := 0) M dX3_addTo_0 rfl ?_
  refine G_getf (pc := 1) M dX3_addTo_1 fl_X3_9 rfl (by first | rfl | assumption) ?_
  refine G_iload_n (pc := 4) M dX3_addTo_4 rfl ?_
  first | refine G_dup2 (pc := 5) M dX3_addTo_5 rfl rfl ?_ | refine G_dup2L (pc := 5) M dX3_addTo_5 rfl ?_
  refine G_laload (pc := 6) M dX3_addTo_6 rfl (by first | assumption | exact vp_in_nI (by omega) (by omega)) ?_
  rw [cl_nI (by omega)]
  refine G_iload (pc := 7) M dX3_addTo_7 rfl ?_
  refine G_i2l (pc := 9) M dX3_addTo_9 ?_
  refine G_ladd (pc := 10) M dX3_addTo_10 ?_
  refine G_lastore (pc := 11) M dX3_addTo_11 rfl (by first | assumption | exact vp_in_nI (by omega) (by omega)) ?_
  rw [cl_nI (by omega)]
  refine G_aload_n (pc := 12) M dX3_addTo_12 rfl ?_
  refine G_getf (pc := 13) M dX3_addTo_13 fl_X3_9 rfl (by first | rfl | assumption) ?_
  refine G_iload_n (pc := 16) M dX3_addTo_16 rfl ?_
  refine G_iconst (pc := 17) (v := 1) M dX3_addTo_17 (by decide +kernel) ?_
  refine G_iadd (pc := 18) M dX3_addTo_18 ?_
  rw [nI_1]
  first | refine G_dup2 (pc := 19) M dX3_addTo_19 rfl rfl ?_ | refine G_dup2L (pc := 19) M dX3_addTo_19 rfl ?_
  refine G_laload (pc := 20) M dX3_addTo_20 rfl (by first | assumption | exact vp_in_nI (by omega) (by omega)) ?_
  rw [cl_nI (by omega)]
  refine G_iload (pc := 21) M dX3_addTo_21 rfl ?_
  refine G_i2l (pc := 23) M dX3_addTo_23 ?_
  refine G_lload_n (pc := 24) M dX3_addTo_24 rfl ?_
  refine G_lmul (pc := 25) M dX3_addTo_25 ?_
  refine G_ladd (pc := 26) M dX3_addTo_26 ?_
  refine G_lastore (pc := 27) M dX3_addTo_27 rfl (by first | assumption | exact vp_in_nI (by omega) (by omega)) ?_
  rw [cl_nI (by omega)]
  refine G_aload_n (pc := 28) M dX3_addTo_28 rfl ?_
  refine G_getf (pc := 29) M dX3_addTo_29 fl_X3_9 rfl (by first | rfl | assumption) ?_
  refine G_iload_n (pc := 32) M dX3_addTo_32 rfl ?_
  refine G_iconst (pc := 33) (v := 2) M dX3_addTo_33 (by decide +kernel) ?_
  refine G_iadd (pc := 34) M dX3_addTo_34 ?_
  rw [nI_2]
  first | refine G_dup2 (pc := 35) M dX3_addTo_35 rfl rfl ?_ | refine G_dup2L (pc := 35) M dX3_addTo_35 rfl ?_
  refine G_laload (pc := 36) M dX3_addTo_36 rfl (by first | assumption | exact vp_in_nI (by omega) (by omega)) ?_
  rw [cl_nI (by omega)]
  refine G_iload (pc := 37) M dX3_addTo_37 rfl ?_
  refine G_i2l (pc := 39) M dX3_addTo_39 ?_
  refine G_lload_n (pc := 40) M dX3_addTo_40 rfl ?_
  refine G_lmul (pc := 41) M dX3_addTo_41 ?_
  refine G_lload_n (pc := 42) M dX3_addTo_42 rfl ?_
  refine G_lmul (pc := 43) M dX3_addTo_43 ?_
  refine G_ladd (pc := 44) M dX3_addTo_44 ?_
  refine G_lastore (pc := 45) M dX3_addTo_45 rfl (by first | assumption | exact vp_in_nI (by omega) (by omega)) ?_
  rw [cl_nI (by omega)]
  exact G_vret M hr dX3_addTo_46 rfl ⟨rfl, rfl⟩
theorem arcKey_nI {x y : Nat} (hx : x < 64) (hy : y < 64) : (nI (64 * x + y)).toInt64 = arcKey x y := by
  rw [arcKey, nI_l (by omega), nI_l (by omega), nI_l (by omega), show (64 : Int64) = lN 64 from rfl, lN_mul, lN_add]
theorem plc (x lv : Nat) : (nI x * 10 + nI lv) * 3 = nI (30 * x + 3 * lv) := by
  rw [show (10 : Int32) = nI 10 from rfl, show (3 : Int32) = nI 3 from rfl, pk_mul, nI_add, pk_mul]
  congr 1
  omega
theorem plc0 (x : Nat) : (nI x * 10 + 0) * 3 = nI (30 * x) := by
  have := plc x 0
  rw [nI_0, Nat.mul_zero, Nat.add_zero] at this
  exact this
theorem chC_loop {D : DD} {X : MX} {A : Nat → Prop} (M : CX D X A mi_X3_change.1.cls mi_X3_change.2.1 mi_X3_change.2.2.1 (miR mi_X3_change)) (hr : RT X mi_X3_change.2.2.2.1) {ad : Nat → Nat} {fs : List Value} {S : Nat → Int64} {x y top : Nat} {key : Int64} {t : Int32} (ht : (-t).toInt64 = -t.toInt64) (hx : x < 64) (hy : y < 64) (htop : top ≤ 9) (hf0 : gt fs 0 = some (.ref (ad 1))) : ∀ m n : Nat, n ≤ top + 1 → top + 1 - n < m →
    G D X A 0 0 (GQ D X A ad 2 (fun v c => v = some (.int (nI top)) ∧ c = [ob 3 fs, la D 1920 (chgR S x y key t.toInt64 (top + 1))])) ad 19 [some (.ref (ad 0)), some (.int (nI x)), some (.int (nI y)), some (.int t), some (.long key), none, some (.int (nI top)), some (.int (nI n))] [] [ob 3 fs, la D 1920 (chgR S x y key t.toInt64 n)] := by
  intro m
  induction m with
  | zero => intro n _ h; omega
  | succ m ih =>
    intro n hn hm
    refine G_iload (pc := 19) M dX3_change_19 rfl ?_
    refine G_iload (pc := 21) M dX3_change_21 rfl ?_
    refine G_icmp_gt (pc := 23) M 59 dX3_change_23 (by decide) (fun h23 => ?_) (fun h23 => ?_)
    · have e : n = top + 1 := by
        have := (nI_ltI (a := top) (b := n) (by omega) (by omega)).mp h23
        omega
      subst e
      refine G_iload (pc := 59) M dX3_change_59 rfl ?_
      exact G_iret M hr dX3_change_61 rfl ⟨rfl, rfl⟩
    · have hlt : n ≤ top := Nat.le_of_not_lt (fun q => h23 (nI_lt q (by omega)))
      refine G_aload_n (pc := 26) M dX3_change_26 rfl ?_
      refine G_iload_n (pc := 27) M dX3_change_27 rfl ?_
      refine G_iload (pc := 28) M dX3_change_28 rfl ?_
      refine G_calls (pc := 30) M [] dX3_change_30 ms_X3_37 (c_placeOf D _ (fun j => ad (pn [] j)) (nI x) (nI n)) trivial rfl rfl rfl rfl (Nat.le_of_ble_eq_true rfl) (Nat.le_of_ble_eq_true rfl) (Nat.le_of_ble_eq_true rfl) ⟨Nat.zero_le _, Nat.zero_le _⟩ (fun v c1 hq hlen => ?_)
      obtain ⟨rfl, rfl⟩ := hq
      rw [plc]
      refine G_lload (pc := 33) M dX3_change_33 rfl ?_
      refine G_iload_n (pc := 35) M dX3_change_35 rfl ?_
      refine G_callv (pc := 36) M [0, 1] dX3_change_36 mv_X3_40 (c_addTo D _ (fun j => ad (pn [0, 1] j)) fs (chgR S x y key t.toInt64 n) (30 * x + 3 * n) key t (by omega) hf0) rfl ⟨rfl, rfl, trivial⟩ rfl rfl rfl rfl (Nat.le_of_ble_eq_true rfl) (Nat.le_of_ble_eq_true rfl) (Nat.le_of_ble_eq_true rfl) ⟨Nat.zero_le _, Nat.zero_le _⟩ (fun v c1 hq hlen => ?_)
      obtain ⟨rfl, rfl⟩ := hq
      refine G_aload_n (pc := 39) M dX3_change_39 rfl ?_
      refine G_iload_n (pc := 40) M dX3_change_40 rfl ?_
      refine G_iload (pc := 41) M dX3_change_41 rfl ?_
      refine G_calls (pc := 43) M [] dX3_change_43 ms_X3_37 (c_placeOf D _ (fun j => ad (pn [] j)) (nI y) (nI n)) trivial rfl rfl rfl rfl (Nat.le_of_ble_eq_true rfl) (Nat.le_of_ble_eq_true rfl) (Nat.le_of_ble_eq_true rfl) ⟨Nat.zero_le _, Nat.zero_le _⟩ (fun v c1 hq hlen => ?_)
      obtain ⟨rfl, rfl⟩ := hq
      rw [plc]
      refine G_lload (pc := 46) M dX3_change_46 rfl ?_
      refine G_iload_n (pc := 48) M dX3_change_48 rfl ?_
      refine G_ineg (pc := 49) M dX3_change_49 ?_
      refine G_callv (pc := 50) M [0, 1] dX3_change_50 mv_X3_40 (c_addTo D _ (fun j => ad (pn [0, 1] j)) fs (rowAdd (chgR S x y key t.toInt64 n) (30 * x + 3 * n) key t.toInt64) (30 * y + 3 * n) key (-t) (by omega) hf0) rfl ⟨rfl, rfl, trivial⟩ rfl rfl rfl rfl (Nat.le_of_ble_eq_true rfl) (Nat.le_of_ble_eq_true rfl) (Nat.le_of_ble_eq_true rfl) ⟨Nat.zero_le _, Nat.zero_le _⟩ (fun v c1 hq hlen => ?_)
      obtain ⟨rfl, rfl⟩ := hq
      rw [ht]
      refine G_iinc (pc := 53) (v := 1) M dX3_change_53 rfl (by decide +kernel) (Nat.le_of_ble_eq_true rfl) ?_
      refine G_goto (pc := 56) M 19 dX3_change_56 (by decide) ?_
      have := ih (n + 1) (by omega) (by omega)
      rw [← nI_1 n] at this
      exact this
theorem c_changeC (D : DD) (l : Launch) (ad : Nat → Nat) (nn : Nat) (sd : Int64) (S : Nat → Int64) (x y : Nat) (t : Int32) (ht : (-t).toInt64 = -t.toInt64) (hx : x < 64) (hy : y < 64) : Ct D l mi_X3_change [.ref (ad 0), .int (nI x), .int (nI y), .int t] ad (rwW D ad nn sd S) (fun v c => v = some (.int (nI (lvK sd (arcKey x y)))) ∧ c = rwW D ad nn sd (chgR S x y (arcKey x y) t.toInt64 (lvK sd (arcKey x y) + 1))) := by
  have hlv := lvF_le (mixZ sd (arcKey x y)) 9
  refine Ct.of (by decide +kernel) (Nat.le_of_ble_eq_true rfl) (fun X A hX M hr => ?_)
  subst hX
  refine G_iload_n (pc := 0) M dX3_change_0 rfl ?_
  refine G_iload_n (pc := 1) M dX3_change_1 rfl ?_
  refine G_calln (pc := 2) M [] dX3_change_2 mn_X3_29 (c_keyOf D _ (fun j => ad (pn [] j)) (nI x) (nI y)) trivial rfl rfl rfl rfl (Nat.le_of_ble_eq_true rfl) (Nat.le_of_ble_eq_true rfl) (Nat.le_of_ble_eq_true rfl) ⟨Nat.zero_le _, Nat.zero_le _⟩ (fun v c1 hq hlen => ?_)
  obtain ⟨rfl, rfl⟩ := hq
  rw [ixA]
  refine G_i2l (pc := 5) M dX3_change_5 ?_
  rw [arcKey_nI hx hy]
  refine G_lstore (pc := 6) M dX3_change_6 (Nat.le_of_ble_eq_true rfl) ?_
  refine G_aload_n (pc := 8) M dX3_change_8 rfl ?_
  refine G_lload (pc := 9) M dX3_change_9 rfl ?_
  refine G_callv (pc := 11) M [0] dX3_change_11 mv_X3_33 (c_levelOfC D _ (fun j => ad (pn [0] j)) _ sd (arcKey x y) rfl) rfl ⟨rfl, trivial⟩ rfl rfl rfl rfl (Nat.le_of_ble_eq_true rfl) (Nat.le_of_ble_eq_true rfl) (Nat.le_of_ble_eq_true rfl) ⟨Nat.zero_le _, Nat.zero_le _⟩ (fun v c1 hq hlen => ?_)
  obtain ⟨rfl, rfl⟩ := hq
  refine G_istore (pc := 14) M dX3_change_14 (Nat.le_of_ble_eq_true rfl) ?_
  refine G_iconst (pc := 16) (v := 0) M dX3_change_16 (by decide +kernel) ?_
  refine G_istore (pc := 17) M dX3_change_17 (Nat.le_of_ble_eq_true rfl) ?_
  exact chC_loop M hr (S := S) ht hx hy hlv rfl 11 0 (by omega) (by show lvF _ _ + 1 - 0 < 11; omega)
/-- the first k sums of another stream are added -/
def addK (S T : Nat → Int64) (k : Nat) : Nat → Int64 := fun j => if j < k then S j + T j else S j
theorem rp_loop {D : DD} {X : MX} {A : Nat → Prop} (M : CX D X A mi_X3_putTogether.1.cls mi_X3_putTogether.2.1 mi_X3_putTogether.2.2.1 (miR mi_X3_putTogether)) (hr : RT X mi_X3_putTogether.2.2.2.1) {ad : Nat → Nat} {fs gs : List Value} {S T : Nat → Int64} {e : Nat} (he : e ≤ 1920) (hf0 : gt fs 0 = some (.ref (ad 1))) (hg0 : gt gs 0 = some (.ref (ad 3))) : ∀ m k : Nat, k ≤ e → e - k < m →
    G D X A 0 0 (GQ D X A ad 4 (fun v c => v = none ∧ c = [ob 3 fs, la D 1920 (addK S T e), ob 3 gs, la D 1920 T])) ad 11 [some (.ref (ad 0)), some (.ref (ad 2)), some (.int (nI e)), some (.int (nI k))] [] [ob 3 fs, la D 1920 (addK S T k), ob 3 gs, la D 1920 T] := by
  intro m
  induction m with
  | zero => intro k _ h; omega
  | succ m ih =>
    intro k hk hm
    refine G_iload_n (pc := 11) M dX3_putTogether_11 rfl ?_
    refine G_iload_n (pc := 12) M dX3_putTogether_12 rfl ?_
    refine G_icmp_ge (pc := 13) M 37 dX3_putTogether_13 (by decide) (fun h13 => ?_) (fun h13 => ?_)
    · have e1 : k = e := by
        have := (nI_leI (a := e) (b := k) (by omega) (by omega)).mp h13
        omega
      subst e1
      exact G_vret M hr dX3_putTogether_37 rfl ⟨rfl, rfl⟩
    · have hke : k < e := Nat.lt_of_not_le (fun q => h13 (nI_le q (by omega)))
      refine G_aload_n (pc := 16) M dX3_putTogether_16 rfl ?_
      refine G_getf (pc := 17) M dX3_putTogether_17 fl_X3_9 rfl (by first | rfl | assumption) ?_
      refine G_iload_n (pc := 20) M dX3_putTogether_20 rfl ?_
      first | refine G_dup2 (pc := 21) M dX3_putTogether_21 rfl rfl ?_ | refine G_dup2L (pc := 21) M dX3_putTogether_21 rfl ?_
      refine G_laload (pc := 22) M dX3_putTogether_22 rfl (by first | assumption | exact vp_in_nI (by omega) (by omega)) ?_
      rw [cl_nI (by omega), show addK S T k k = S k by simp [addK]]
      refine G_aload_n (pc := 23) M dX3_putTogether_23 rfl ?_
      refine G_getf (pc := 24) M dX3_putTogether_24 fl_X3_9 rfl (by first | rfl | assumption) ?_
      refine G_iload_n (pc := 27) M dX3_putTogether_27 rfl ?_
      refine G_laload (pc := 28) M dX3_putTogether_28 rfl (by first | assumption | exact vp_in_nI (by omega) (by omega)) ?_
      rw [cl_nI (by omega)]
      refine G_ladd (pc := 29) M dX3_putTogether_29 ?_
      refine G_lastore (pc := 30) M dX3_putTogether_30 rfl (by first | assumption | exact vp_in_nI (by omega) (by omega)) ?_
      rw [cl_nI (by omega)]
      refine G_iinc (pc := 31) (v := 1) M dX3_putTogether_31 rfl (by decide +kernel) (Nat.le_of_ble_eq_true rfl) ?_
      refine G_goto (pc := 34) M 11 dX3_putTogether_34 (by decide) ?_
      have := ih (k + 1) (by omega) (by omega)
      have e1 : vp_updL (addK S T k) k (S k + T k) = addK S T (k + 1) := by
        funext j
        simp only [vp_updL, addK]
        by_cases h : j = k
        · subst h; simp
        · rw [if_neg h]
          by_cases h2 : j < k
          · rw [if_pos h2, if_pos (show j < k + 1 by omega)]
          · rw [if_neg h2, if_neg (show ¬ j < k + 1 by omega)]
      rw [← e1, ← nI_1 k] at this
      exact this
theorem c_rPut (D : DD) (l : Launch) (ad : Nat → Nat) (nn : Nat) (sd : Int64) (S T : Nat → Int64) (gs : List Value) (hnn : nn ≤ 64) (hg0 : gt gs 0 = some (.ref (ad 3))) : Ct D l mi_X3_putTogether [.ref (ad 0), .ref (ad 2)] ad [rwO ad nn sd, la D 1920 S, ob 3 gs, la D 1920 T] (fun v c => v = none ∧ c = [rwO ad nn sd, la D 1920 (addK S T (30 * nn)), ob 3 gs, la D 1920 T]) := by
  refine Ct.of (by decide +kernel) (Nat.le_of_ble_eq_true rfl) (fun X A hX M hr => ?_)
  subst hX
  refine G_aload_n (pc := 0) M dX3_putTogether_0 rfl ?_
  refine G_getf (pc := 1) M dX3_putTogether_1 fl_X3_15 rfl (by first | rfl | assumption) ?_
  refine G_iconst (pc := 4) (v := 0) M dX3_putTogether_4 (by decide +kernel) ?_
  refine G_calls (pc := 5) M [] dX3_putTogether_5 ms_X3_37 (c_placeOf D _ (fun j => ad (pn [] j)) (nI nn) 0) trivial rfl rfl rfl rfl (Nat.le_of_ble_eq_true rfl) (Nat.le_of_ble_eq_true rfl) (Nat.le_of_ble_eq_true rfl) ⟨Nat.zero_le _, Nat.zero_le _⟩ (fun v c1 hq hlen => ?_)
  obtain ⟨rfl, rfl⟩ := hq
  rw [plc0]
  refine G_istore_n (pc := 8) M dX3_putTogether_8 (Nat.le_of_ble_eq_true rfl) ?_
  refine G_iconst (pc := 9) (v := 0) M dX3_putTogether_9 (by decide +kernel) ?_
  refine G_istore_n (pc := 10) M dX3_putTogether_10 (Nat.le_of_ble_eq_true rfl) ?_
  have := rp_loop M hr (ad := ad) (S := S) (T := T) (gs := gs) (fs := [.ref (ad 1), .int (nI nn), .long sd]) (e := 30 * nn) (by omega) rfl hg0 1921 0 (by omega) (by omega)
  rw [show addK S T 0 = S by funext j; simp [addK]] at this
  exact this
def alkB (S T : Nat → Int64) : Nat → Bool
  | 0 => true
  | k + 1 => alkB S T k && decide (S k = T k)
theorem alkB_mono (S T : Nat → Int64) {k : Nat} (h : alkB S T k = false) : ∀ n, k ≤ n → alkB S T n = false := by
  intro n hn
  induction n with
  | zero => rw [show k = 0 by omega] at h; exact h
  | succ n ih =>
    by_cases e : k = n + 1
    · rw [← e]; exact h
    · simp [alkB, ih (by omega)]
theorem al_loop {D : DD} {X : MX} {A : Nat → Prop} (M : CX D X A mi_X3_isAlike.1.cls mi_X3_isAlike.2.1 mi_X3_isAlike.2.2.1 (miR mi_X3_isAlike)) (hr : RT X mi_X3_isAlike.2.2.2.1) {ad : Nat → Nat} {fs gs : List Value} {S T : Nat → Int64} {e : Nat} (he : e ≤ 1920) (hf0 : gt fs 0 = some (.ref (ad 1))) (hg0 : gt gs 0 = some (.ref (ad 3))) : ∀ m k : Nat, k ≤ e → e - k < m → alkB S T k = true →
    G D X A 0 0 (GQ D X A ad 4 (fun v c => v = some (.int (bz (alkB S T e))) ∧ c = [ob 3 fs, la D 1920 S, ob 3 gs, la D 1920 T])) ad 11 [some (.ref (ad 0)), some (.ref (ad 2)), some (.int (nI e)), some (.int (nI k))] [] [ob 3 fs, la D 1920 S, ob 3 gs, la D 1920 T] := by
  intro m
  induction m with
  | zero => intro k _ h; omega
  | succ m ih =>
    intro k hk hm ha
    refine G_iload_n (pc := 11) M dX3_isAlike_11 rfl ?_
    refine G_iload_n (pc := 12) M dX3_isAlike_12 rfl ?_
    refine G_icmp_ge (pc := 13) M 40 dX3_isAlike_13 (by decide) (fun h13 => ?_) (fun h13 => ?_)
    · have e1 : k = e := by
        have := (nI_leI (a := e) (b := k) (by omega) (by omega)).mp h13
        omega
      subst e1
      refine G_iconst (pc := 40) (v := 1) M dX3_isAlike_40 (by decide +kernel) ?_
      exact G_zret M hr dX3_isAlike_41 rfl rfl ⟨by rw [ha]; rfl, rfl⟩
    · have hke : k < e := Nat.lt_of_not_le (fun q => h13 (nI_le q (by omega)))
      refine G_aload_n (pc := 16) M dX3_isAlike_16 rfl ?_
      refine G_getf (pc := 17) M dX3_isAlike_17 fl_X3_9 rfl (by first | rfl | assumption) ?_
      refine G_iload_n (pc := 20) M dX3_isAlike_20 rfl ?_
      refine G_laload (pc := 21) M dX3_isAlike_21 rfl (by first | assumption | exact vp_in_nI (by omega) (by omega)) ?_
      rw [cl_nI (by omega)]
      refine G_aload_n (pc := 22) M dX3_isAlike_22 rfl ?_
      refine G_getf (pc := 23) M dX3_isAlike_23 fl_X3_9 rfl (by first | rfl | assumption) ?_
      refine G_iload_n (pc := 26) M dX3_isAlike_26 rfl ?_
      refine G_laload (pc := 27) M dX3_isAlike_27 rfl (by first | assumption | exact vp_in_nI (by omega) (by omega)) ?_
      rw [cl_nI (by omega)]
      refine G_lcmp (pc := 28) M dX3_isAlike_28 ?_
      refine G_if_eq (pc := 29) M 34 dX3_isAlike_29 (by decide) (fun h29 => ?_) (fun h29 => ?_)
      · rw [lg_cmp_eq] at h29
        have ha1 : alkB S T (k + 1) = true := by simp [alkB, ha, h29]
        refine G_iinc (pc := 34) (v := 1) M dX3_isAlike_34 rfl (by decide +kernel) (Nat.le_of_ble_eq_true rfl) ?_
        refine G_goto (pc := 37) M 11 dX3_isAlike_37 (by decide) ?_
        rw [nI_1]
        exact ih (k + 1) (by omega) (by omega) ha1
      · rw [lg_cmp_eq] at h29
        have ha1 : alkB S T (k + 1) = false := by simp [alkB, h29]
        refine G_iconst (pc := 32) (v := 0) M dX3_isAlike_32 (by decide +kernel) ?_
        exact G_zret M hr dX3_isAlike_33 rfl rfl ⟨by rw [alkB_mono S T ha1 e (by omega)]; rfl, rfl⟩
theorem c_isAlike (D : DD) (l : Launch) (ad : Nat → Nat) (nn : Nat) (sd : Int64) (S T : Nat → Int64) (gs : List Value) (hnn : nn ≤ 64) (hg0 : gt gs 0 = some (.ref (ad 3))) : Ct D l mi_X3_isAlike [.ref (ad 0), .ref (ad 2)] ad [rwO ad nn sd, la D 1920 S, ob 3 gs, la D 1920 T] (fun v c => v = some (.int (bz (alkB S T (30 * nn)))) ∧ c = [rwO ad nn sd, la D 1920 S, ob 3 gs, la D 1920 T]) := by
  refine Ct.of (by decide +kernel) (Nat.le_of_ble_eq_true rfl) (fun X A hX M hr => ?_)
  subst hX
  refine G_aload_n (pc := 0) M dX3_isAlike_0 rfl ?_
  refine G_getf (pc := 1) M dX3_isAlike_1 fl_X3_15 rfl (by first | rfl | assumption) ?_
  refine G_iconst (pc := 4) (v := 0) M dX3_isAlike_4 (by decide +kernel) ?_
  refine G_calls (pc := 5) M [] dX3_isAlike_5 ms_X3_37 (c_placeOf D _ (fun j => ad (pn [] j)) (nI nn) 0) trivial rfl rfl rfl rfl (Nat.le_of_ble_eq_true rfl) (Nat.le_of_ble_eq_true rfl) (Nat.le_of_ble_eq_true rfl) ⟨Nat.zero_le _, Nat.zero_le _⟩ (fun v c1 hq hlen => ?_)
  obtain ⟨rfl, rfl⟩ := hq
  rw [plc0]
  refine G_istore_n (pc := 8) M dX3_isAlike_8 (Nat.le_of_ble_eq_true rfl) ?_
  refine G_iconst (pc := 9) (v := 0) M dX3_isAlike_9 (by decide +kernel) ?_
  refine G_istore_n (pc := 10) M dX3_isAlike_10 (Nat.le_of_ble_eq_true rfl) ?_
  exact al_loop M hr (fs := [.ref (ad 1), .int (nI nn), .long sd]) (e := 30 * nn) (by omega) rfl hg0 1921 0 (by omega) (by omega) rfl
theorem so_loop {D : DD} {X : MX} {A : Nat → Prop} (M : CX D X A mi_X3_sumOf.1.cls mi_X3_sumOf.2.1 mi_X3_sumOf.2.2.1 (miR mi_X3_sumOf)) (hr : RT X mi_X3_sumOf.2.2.2.1) {ad : Nat → Nat} {nn lv w : Nat} {sd set : Int64} {S : Nat → Int64} (hnn : nn ≤ 64) (hlv : lv < 10) (hw : w < 3) : ∀ m k : Nat, k ≤ nn → nn - k < m →
    G D X A 0 0 (GQ D X A ad 2 (fun v c => v = some (.long (osum S set (3 * lv + w) nn)) ∧ c = rwW D ad nn sd S)) ad 6 [some (.ref (ad 0)), some (.long set), none, some (.int (nI lv)), some (.int (nI w)), some (.long (osum S set (3 * lv + w) k)), none, some (.int (nI k))] [] (rwW D ad nn sd S) := by
  intro m
  induction m with
  | zero => intro k _ h; omega
  | succ m ih =>
    intro k hk hm
    refine G_iload (pc := 6) M dX3_sumOf_6 rfl ?_
    refine G_aload_n (pc := 8) M dX3_sumOf_8 rfl ?_
    refine G_getf (pc := 9) M dX3_sumOf_9 fl_X3_15 rfl (by first | rfl | assumption) ?_
    refine G_icmp_ge (pc := 12) M 49 dX3_sumOf_12 (by decide) (fun h12 => ?_) (fun h12 => ?_)
    · have e : k = nn := by
        have := (nI_leI (a := nn) (b := k) (by omega) (by omega)).mp h12
        omega
      subst e
      refine G_lload (pc := 49) M dX3_sumOf_49 rfl ?_
      exact G_lret M hr dX3_sumOf_51 rfl ⟨rfl, rfl⟩
    · have hkn : k < nn := Nat.lt_of_not_le (fun q => h12 (nI_le q (by omega)))
      refine G_lload_n (pc := 15) M dX3_sumOf_15 rfl ?_
      refine G_iload (pc := 16) M dX3_sumOf_16 rfl ?_
      refine G_calln (pc := 18) M [] dX3_sumOf_18 mn_X3_57 (c_holds D _ (fun j => ad (pn [] j)) set (nI k)) trivial rfl rfl rfl rfl (Nat.le_of_ble_eq_true rfl) (Nat.le_of_ble_eq_true rfl) (Nat.le_of_ble_eq_true rfl) ⟨Nat.zero_le _, Nat.zero_le _⟩ (fun v c1 hq hlen => ?_)
      obtain ⟨rfl, rfl⟩ := hq
      rw [hb_bt set (by omega)]
      refine G_if_eq (pc := 21) M 43 dX3_sumOf_21 (by decide) (fun h21 => ?_) (fun h21 => ?_)
      · have e : osum S set (3 * lv + w) (k + 1) = osum S set (3 * lv + w) k := by rw [osum, bz0 h21]; simp
        refine G_iinc (pc := 43) (v := 1) M dX3_sumOf_43 rfl (by decide +kernel) (Nat.le_of_ble_eq_true rfl) ?_
        refine G_goto (pc := 46) M 6 dX3_sumOf_46 (by decide) ?_
        have := ih (k + 1) (by omega) (by omega)
        rw [e, ← nI_1 k] at this
        exact this
      · have e : osum S set (3 * lv + w) (k + 1) = osum S set (3 * lv + w) k + S (30 * k + (3 * lv + w)) := by rw [osum, bz1 h21]; rfl
        refine G_lload (pc := 24) M dX3_sumOf_24 rfl ?_
        refine G_aload_n (pc := 26) M dX3_sumOf_26 rfl ?_
        refine G_getf (pc := 27) M dX3_sumOf_27 fl_X3_9 rfl (by first | rfl | assumption) ?_
        refine G_iload (pc := 30) M dX3_sumOf_30 rfl ?_
        refine G_iload_n (pc := 32) M dX3_sumOf_32 rfl ?_
        refine G_calls (pc := 33) M [] dX3_sumOf_33 ms_X3_37 (c_placeOf D _ (fun j => ad (pn [] j)) (nI k) (nI lv)) trivial rfl rfl rfl rfl (Nat.le_of_ble_eq_true rfl) (Nat.le_of_ble_eq_true rfl) (Nat.le_of_ble_eq_true rfl) ⟨Nat.zero_le _, Nat.zero_le _⟩ (fun v c1 hq hlen => ?_)
        obtain ⟨rfl, rfl⟩ := hq
        rw [plc]
        refine G_iload (pc := 36) M dX3_sumOf_36 rfl ?_
        refine G_iadd (pc := 38) M dX3_sumOf_38 ?_
        rw [nI_add, Nat.add_assoc]
        refine G_laload (pc := 39) M dX3_sumOf_39 rfl (by first | assumption | exact vp_in_nI (by omega) (by omega)) ?_
        rw [cl_nI (by omega)]
        refine G_ladd (pc := 40) M dX3_sumOf_40 ?_
        refine G_lstore (pc := 41) M dX3_sumOf_41 (Nat.le_of_ble_eq_true rfl) ?_
        refine G_iinc (pc := 43) (v := 1) M dX3_sumOf_43 rfl (by decide +kernel) (Nat.le_of_ble_eq_true rfl) ?_
        refine G_goto (pc := 46) M 6 dX3_sumOf_46 (by decide) ?_
        have := ih (k + 1) (by omega) (by omega)
        rw [e, ← nI_1 k] at this
        exact this
theorem c_sumOf (D : DD) (l : Launch) (ad : Nat → Nat) (nn lv w : Nat) (sd set : Int64) (S : Nat → Int64) (hnn : nn ≤ 64) (hlv : lv < 10) (hw : w < 3) : Ct D l mi_X3_sumOf [.ref (ad 0), .long set, .int (nI lv), .int (nI w)] ad (rwW D ad nn sd S) (fun v c => v = some (.long (osum S set (3 * lv + w) nn)) ∧ c = rwW D ad nn sd S) := by
  refine Ct.of (by decide +kernel) (Nat.le_of_ble_eq_true rfl) (fun X A hX M hr => ?_)
  subst hX
  refine G_lconst (pc := 0) (v := 0) M dX3_sumOf_0 (by decide +kernel) ?_
  refine G_lstore (pc := 1) M dX3_sumOf_1 (Nat.le_of_ble_eq_true rfl) ?_
  refine G_iconst (pc := 3) (v := 0) M dX3_sumOf_3 (by decide +kernel) ?_
  refine G_istore (pc := 4) M dX3_sumOf_4 (Nat.le_of_ble_eq_true rfl) ?_
  exact so_loop M hr hnn hlv hw 65 0 (by omega) (by omega)
def notB (S : Nat → Int64) (set : Int64) (nn : Nat) : Bool := decide (osum S set 0 nn = 0) && decide (osum S set 1 nn = 0) && decide (osum S set 2 nn = 0)
theorem c_isNothing (D : DD) (l : Launch) (ad : Nat → Nat) (nn : Nat) (sd set : Int64) (S : Nat → Int64) (hnn : nn ≤ 64) : Ct D l mi_X3_isNothing [.ref (ad 0), .long set] ad (rwW D ad nn sd S) (fun v c => v = some (.int (bz (notB S set nn))) ∧ c = rwW D ad nn sd S) := by
  refine Ct.of (by decide +kernel) (Nat.le_of_ble_eq_true rfl) (fun X A hX M hr => ?_)
  subst hX
  refine G_aload_n (pc := 0) M dX3_isNothing_0 rfl ?_
  refine G_lload_n (pc := 1) M dX3_isNothing_1 rfl ?_
  refine G_iconst (pc := 2) (v := 0) M dX3_isNothing_2 (by decide +kernel) ?_
  refine G_iconst (pc := 3) (v := 0) M dX3_isNothing_3 (by decide +kernel) ?_
  refine G_callv (pc := 4) M [0, 1] dX3_isNothing_4 mv_X3_44 (c_sumOf D _ (fun j => ad (pn [0, 1] j)) nn 0 0 sd set S hnn (by omega) (by omega)) rfl ⟨rfl, rfl, trivial⟩ rfl rfl rfl rfl (Nat.le_of_ble_eq_true rfl) (Nat.le_of_ble_eq_true rfl) (Nat.le_of_ble_eq_true rfl) ⟨Nat.zero_le _, Nat.zero_le _⟩ (fun v c1 hq hlen => ?_)
  obtain ⟨rfl, rfl⟩ := hq
  refine G_lconst (pc := 7) (v := 0) M dX3_isNothing_7 (by decide +kernel) ?_
  refine G_lcmp (pc := 8) M dX3_isNothing_8 ?_
  refine G_if_ne (pc := 9) M 40 dX3_isNothing_9 (by decide) (fun h9 => ?_) (fun h9 => ?_)
  · rw [lg_cmp_eq] at h9
    refine G_iconst (pc := 40) (v := 0) M dX3_isNothing_40 (by decide +kernel) ?_
    exact G_zret M hr dX3_isNothing_41 rfl rfl ⟨by simp_all [notB, bz], rfl⟩
  · rw [lg_cmp_eq] at h9
    refine G_aload_n (pc := 12) M dX3_isNothing_12 rfl ?_
    refine G_lload_n (pc := 13) M dX3_isNothing_13 rfl ?_
    refine G_iconst (pc := 14) (v := 0) M dX3_isNothing_14 (by decide +kernel) ?_
    refine G_iconst (pc := 15) (v := 1) M dX3_isNothing_15 (by decide +kernel) ?_
    refine G_callv (pc := 16) M [0, 1] dX3_isNothing_16 mv_X3_44 (c_sumOf D _ (fun j => ad (pn [0, 1] j)) nn 0 1 sd set S hnn (by omega) (by omega)) rfl ⟨rfl, rfl, trivial⟩ rfl rfl rfl rfl (Nat.le_of_ble_eq_true rfl) (Nat.le_of_ble_eq_true rfl) (Nat.le_of_ble_eq_true rfl) ⟨Nat.zero_le _, Nat.zero_le _⟩ (fun v c1 hq hlen => ?_)
    obtain ⟨rfl, rfl⟩ := hq
    refine G_lconst (pc := 19) (v := 0) M dX3_isNothing_19 (by decide +kernel) ?_
    refine G_lcmp (pc := 20) M dX3_isNothing_20 ?_
    refine G_if_ne (pc := 21) M 40 dX3_isNothing_21 (by decide) (fun h21 => ?_) (fun h21 => ?_)
    · rw [lg_cmp_eq] at h21
      refine G_iconst (pc := 40) (v := 0) M dX3_isNothing_40 (by decide +kernel) ?_
      exact G_zret M hr dX3_isNothing_41 rfl rfl ⟨by simp_all [notB, bz], rfl⟩
    · rw [lg_cmp_eq] at h21
      refine G_aload_n (pc := 24) M dX3_isNothing_24 rfl ?_
      refine G_lload_n (pc := 25) M dX3_isNothing_25 rfl ?_
      refine G_iconst (pc := 26) (v := 0) M dX3_isNothing_26 (by decide +kernel) ?_
      refine G_iconst (pc := 27) (v := 2) M dX3_isNothing_27 (by decide +kernel) ?_
      refine G_callv (pc := 28) M [0, 1] dX3_isNothing_28 mv_X3_44 (c_sumOf D _ (fun j => ad (pn [0, 1] j)) nn 0 2 sd set S hnn (by omega) (by omega)) rfl ⟨rfl, rfl, trivial⟩ rfl rfl rfl rfl (Nat.le_of_ble_eq_true rfl) (Nat.le_of_ble_eq_true rfl) (Nat.le_of_ble_eq_true rfl) ⟨Nat.zero_le _, Nat.zero_le _⟩ (fun v c1 hq hlen => ?_)
      obtain ⟨rfl, rfl⟩ := hq
      refine G_lconst (pc := 31) (v := 0) M dX3_isNothing_31 (by decide +kernel) ?_
      refine G_lcmp (pc := 32) M dX3_isNothing_32 ?_
      refine G_if_ne (pc := 33) M 40 dX3_isNothing_33 (by decide) (fun h33 => ?_) (fun h33 => ?_)
      · rw [lg_cmp_eq] at h33
        refine G_iconst (pc := 40) (v := 0) M dX3_isNothing_40 (by decide +kernel) ?_
        exact G_zret M hr dX3_isNothing_41 rfl rfl ⟨by simp_all [notB, bz], rfl⟩
      · rw [lg_cmp_eq] at h33
        refine G_iconst (pc := 36) (v := 1) M dX3_isNothing_36 (by decide +kernel) ?_
        refine G_goto (pc := 37) M 41 dX3_isNothing_37 (by decide) ?_
        exact G_zret M hr dX3_isNothing_41 rfl rfl ⟨by simp_all [notB, bz], rfl⟩
end
section
/-! Rows.keyOutOf -/
/-- the key that leads out of the set at level lv -/
def oK (S : Nat → Int64) (set : Int64) (lv nn : Nat) : Option Nat :=
  if (osum S set (3 * lv) nn = 1 ∨ osum S set (3 * lv) nn = -1) ∧ ∃ kk : Nat, kk < 4096 ∧ osum S set (3 * lv) nn * osum S set (3 * lv + 1) nn = lN kk ∧ osum S set (3 * lv) nn * osum S set (3 * lv + 2) nn = lN kk * lN kk ∧ ldB set nn kk (osum S set (3 * lv) nn) = true
  then some (osum S set (3 * lv) nn * osum S set (3 * lv + 1) nn).toInt.toNat else none
theorem oK_none1 {S : Nat → Int64} {set : Int64} {lv nn : Nat} (h1 : ¬ osum S set (3 * lv) nn = 1) (h2 : ¬ osum S set (3 * lv) nn = -1) : oK S set lv nn = none := if_neg (fun h => h.1.elim h1 h2)
theorem oK_none2 {S : Nat → Int64} {set : Int64} {lv nn : Nat} (h : ∀ kk : Nat, kk < 4096 → osum S set (3 * lv) nn * osum S set (3 * lv + 1) nn = lN kk → osum S set (3 * lv) nn * osum S set (3 * lv + 2) nn = lN kk * lN kk → ldB set nn kk (osum S set (3 * lv) nn) = true → False) : oK S set lv nn = none := if_neg (fun ⟨_, kk, a, b, c, d⟩ => h kk a b c d)
theorem lN_toNat {k : Nat} (h : k < 4096) : (lN k).toInt.toNat = k := by rw [lN_toInt (by omega)]; omega
theorem oK_some {S : Nat → Int64} {set : Int64} {lv nn kk : Nat} (h0 : osum S set (3 * lv) nn = 1 ∨ osum S set (3 * lv) nn = -1) (h1 : kk < 4096) (h2 : osum S set (3 * lv) nn * osum S set (3 * lv + 1) nn = lN kk) (h3 : osum S set (3 * lv) nn * osum S set (3 * lv + 2) nn = lN kk * lN kk) (h4 : ldB set nn kk (osum S set (3 * lv) nn) = true) : oK S set lv nn = some kk := by
  rw [oK, if_pos ⟨h0, kk, h1, h2, h3, h4⟩, h2, lN_toNat h1]
theorem lN_inj4 {a b : Nat} (ha : a < 4096) (hb : b < 4096) (h : lN a = lN b) : a = b := (lN_eq (by omega) (by omega)).mp h
theorem ldB_big {set : Int64} {nn kk : Nat} {c : Int64} (h : 64 * nn ≤ kk) : ldB set nn kk c = false := by
  by_cases h1 : kk / 64 < kk % 64
  · have : ¬ kk % 64 < nn := by omega
    simp [ldB, this]
  · simp [ldB, h1]
theorem c_keyOutOf (D : DD) (l : Launch) (ad : Nat → Nat) (nn lv : Nat) (sd set : Int64) (S : Nat → Int64) (hnn : nn ≤ 64) (hlv : lv < 10) : Ct D l mi_X3_keyOutOf [.ref (ad 0), .long set, .int (nI lv)] ad (rwW D ad nn sd S) (fun v c => v = some (.int (oI (oK S set lv nn))) ∧ c = rwW D ad nn sd S) := by
  refine Ct.of (by decide +kernel) (Nat.le_of_ble_eq_true rfl) (fun X A hX M hr => ?_)
  subst hX
  generalize hc : osum S set (3 * lv) nn = c
  generalize he : osum S set (3 * lv + 1) nn = e
  generalize hf : osum S set (3 * lv + 2) nn = f
  have hmul : ∀ x : Int64, x * c = c * x := fun x => Int64.mul_comm x c
  have fin : ∀ (kk : Nat), (c = 1 ∨ c = -1) → c * e = lN kk → c * f = lN kk * lN kk → kk < 64 * nn → G D X A 0 0 (GQ D X A ad 2 (fun v cs => v = some (.int (oI (oK S set lv nn))) ∧ cs = rwW D ad nn sd S)) ad 84 [some (.ref (ad 0)), some (.long set), none, some (.int (nI lv)), some (.long c), none, some (.long (lN kk)), none, none, none, none] [] (rwW D ad nn sd S) := by
    intro kk h0 h1 h2 h3
    have hk4 : kk < 4096 := by omega
    have hdiv : nI kk / 64 = nI (kk / 64) := by rw [n64, pk_div (by omega) (by omega) (by omega)]
    have hrem : nI kk - nI kk / 64 * 64 = nI (kk % 64) := by rw [n64, pk_rem (by omega) (by omega) (by omega)]
    have yes : ldB set nn kk c = true → oK S set lv nn = some kk := fun hh => oK_some (by rw [hc]; exact h0) hk4 (by rw [hc, he]; exact h1) (by rw [hc, hf]; exact h2) (by rw [hc]; exact hh)
    have no : ldB set nn kk c = false → oK S set lv nn = none := fun hh => oK_none2 (fun k2 a b _ d => by
      rw [hc, he, h1] at b
      rw [hc] at d
      have := lN_inj4 hk4 a b
      subst this
      rw [hh] at d
      cases d)
    have e1 : ∀ z : Option Value, ldB set nn kk c = true → G D X A 0 0 (GQ D X A ad 2 (fun v cs => v = some (.int (oI (oK S set lv nn))) ∧ cs = rwW D ad nn sd S)) ad 168 [some (.ref (ad 0)), some (.long set), none, some (.int (nI lv)), some (.long c), none, some (.long (lN kk)), none, some (.int (nI (kk / 64))), some (.int (nI (kk % 64))), z] [.int 1] (rwW D ad nn sd S) := by
      intro z hh
      refine G_istore (pc := 168) M dX3_keyOutOf_168 (Nat.le_of_ble_eq_true rfl) ?_
      refine G_iload (pc := 170) M dX3_keyOutOf_170 rfl ?_
      refine G_if_eq (pc := 172) M 181 dX3_keyOutOf_172 (by decide) (fun h172 => ?_) (fun h172 => ?_)
      · exact absurd h172 (by decide)
      · refine G_lload (pc := 175) M dX3_keyOutOf_175 rfl ?_
        refine G_l2i (pc := 177) M dX3_keyOutOf_177 ?_
        rw [lN_i]
        refine G_goto (pc := 178) M 183 dX3_keyOutOf_178 (by decide) ?_
        exact G_iret M hr dX3_keyOutOf_183 rfl ⟨by rw [yes hh]; rfl, rfl⟩
    have e0 : ∀ z : Option Value, ldB set nn kk c = false → G D X A 0 0 (GQ D X A ad 2 (fun v cs => v = some (.int (oI (oK S set lv nn))) ∧ cs = rwW D ad nn sd S)) ad 168 [some (.ref (ad 0)), some (.long set), none, some (.int (nI lv)), some (.long c), none, some (.long (lN kk)), none, some (.int (nI (kk / 64))), some (.int (nI (kk % 64))), z] [.int 0] (rwW D ad nn sd S) := by
      intro z hh
      refine G_istore (pc := 168) M dX3_keyOutOf_168 (Nat.le_of_ble_eq_true rfl) ?_
      refine G_iload (pc := 170) M dX3_keyOutOf_170 rfl ?_
      refine G_if_eq (pc := 172) M 181 dX3_keyOutOf_172 (by decide) (fun h172 => ?_) (fun h172 => ?_)
      · refine G_bipush (pc := 181) (v := -2) M dX3_keyOutOf_181 (by decide +kernel) ?_
        exact G_iret M hr dX3_keyOutOf_183 rfl ⟨by rw [no hh]; rfl, rfl⟩
      · exact absurd rfl h172
    refine G_lload (pc := 84) M dX3_keyOutOf_84 rfl ?_
    refine G_l2i (pc := 86) M dX3_keyOutOf_86 ?_
    rw [lN_i]
    refine G_calln (pc := 87) M [] dX3_keyOutOf_87 mn_X3_50 (c_lesserNode D _ (fun j => ad (pn [] j)) (nI kk)) trivial rfl rfl rfl rfl (Nat.le_of_ble_eq_true rfl) (Nat.le_of_ble_eq_true rfl) (Nat.le_of_ble_eq_true rfl) ⟨Nat.zero_le _, Nat.zero_le _⟩ (fun v c1 hq hlen => ?_)
    obtain ⟨rfl, rfl⟩ := hq
    rw [hdiv]
    refine G_istore (pc := 90) M dX3_keyOutOf_90 (Nat.le_of_ble_eq_true rfl) ?_
    refine G_lload (pc := 92) M dX3_keyOutOf_92 rfl ?_
    refine G_l2i (pc := 94) M dX3_keyOutOf_94 ?_
    rw [lN_i]
    refine G_calln (pc := 95) M [] dX3_keyOutOf_95 mn_X3_54 (c_greaterNode D _ (fun j => ad (pn [] j)) (nI kk)) trivial rfl rfl rfl rfl (Nat.le_of_ble_eq_true rfl) (Nat.le_of_ble_eq_true rfl) (Nat.le_of_ble_eq_true rfl) ⟨Nat.zero_le _, Nat.zero_le _⟩ (fun v c1 hq hlen => ?_)
    obtain ⟨rfl, rfl⟩ := hq
    rw [hrem]
    refine G_istore (pc := 98) M dX3_keyOutOf_98 (Nat.le_of_ble_eq_true rfl) ?_
    refine G_iload (pc := 100) M dX3_keyOutOf_100 rfl ?_
    refine G_iload (pc := 102) M dX3_keyOutOf_102 rfl ?_
    refine G_icmp_ge (pc := 104) M 116 dX3_keyOutOf_104 (by decide) (fun h104 => ?_) (fun h104 => ?_)
    · have h104b := (nI_leI (a := kk % 64) (b := kk / 64) (by omega) (by omega)).mp h104
      have h104c : decide (kk / 64 < kk % 64) = false := decide_eq_false (by omega)
      refine G_bipush (pc := 116) (v := -2) M dX3_keyOutOf_116 (by decide +kernel) ?_
      exact G_iret M hr dX3_keyOutOf_118 rfl ⟨by rw [no (by simp [ldB, *])]; rfl, rfl⟩
    · have h104b := Nat.lt_of_not_le (fun q => h104 (nI_le (a := kk % 64) (b := kk / 64) q (by omega)))
      have h104c : decide (kk / 64 < kk % 64) = true := decide_eq_true (by omega)
      refine G_iload (pc := 107) M dX3_keyOutOf_107 rfl ?_
      refine G_aload_n (pc := 109) M dX3_keyOutOf_109 rfl ?_
      refine G_getf (pc := 110) M dX3_keyOutOf_110 fl_X3_15 rfl (by first | rfl | assumption) ?_
      refine G_icmp_lt (pc := 113) M 119 dX3_keyOutOf_113 (by decide) (fun h113 => ?_) (fun h113 => ?_)
      · have h113b := (nI_ltI (a := kk % 64) (b := nn) (by omega) (by omega)).mp h113
        have h113c : decide (kk % 64 < nn) = true := decide_eq_true (by omega)
        refine G_lload_n (pc := 119) M dX3_keyOutOf_119 rfl ?_
        refine G_iload (pc := 120) M dX3_keyOutOf_120 rfl ?_
        refine G_calln (pc := 122) M [] dX3_keyOutOf_122 mn_X3_57 (c_holds D _ (fun j => ad (pn [] j)) set (nI (kk / 64))) trivial rfl rfl rfl rfl (Nat.le_of_ble_eq_true rfl) (Nat.le_of_ble_eq_true rfl) (Nat.le_of_ble_eq_true rfl) ⟨Nat.zero_le _, Nat.zero_le _⟩ (fun v c1 hq hlen => ?_)
        obtain ⟨rfl, rfl⟩ := hq
        rw [hb_bt set (by omega)]
        refine G_lload (pc := 125) M dX3_keyOutOf_125 rfl ?_
        refine G_lconst (pc := 127) (v := 1) M dX3_keyOutOf_127 (by decide +kernel) ?_
        refine G_lcmp (pc := 128) M dX3_keyOutOf_128 ?_
        refine G_if_ne (pc := 129) M 136 dX3_keyOutOf_129 (by decide) (fun h129 => ?_) (fun h129 => ?_)
        · rw [lg_cmp_eq] at h129
          have hc1 : c = -1 := h0.resolve_left h129
          refine G_iconst (pc := 136) (v := 0) M dX3_keyOutOf_136 (by decide +kernel) ?_
          refine G_icmp_ne (pc := 137) M 167 dX3_keyOutOf_137 (by decide) (fun h137 => ?_) (fun h137 => ?_)
          · refine G_iconst (pc := 167) (v := 0) M dX3_keyOutOf_167 (by decide +kernel) ?_
            first | exact e1 none (by cases hA : bt set (kk / 64) <;> cases hB : bt set (kk % 64) <;> simp_all [ldB, bz]) | exact e0 none (by cases hA : bt set (kk / 64) <;> cases hB : bt set (kk % 64) <;> simp_all [ldB, bz])
          · refine G_lload_n (pc := 140) M dX3_keyOutOf_140 rfl ?_
            refine G_iload (pc := 141) M dX3_keyOutOf_141 rfl ?_
            refine G_calln (pc := 143) M [] dX3_keyOutOf_143 mn_X3_57 (c_holds D _ (fun j => ad (pn [] j)) set (nI (kk % 64))) trivial rfl rfl rfl rfl (Nat.le_of_ble_eq_true rfl) (Nat.le_of_ble_eq_true rfl) (Nat.le_of_ble_eq_true rfl) ⟨Nat.zero_le _, Nat.zero_le _⟩ (fun v c1 hq hlen => ?_)
            obtain ⟨rfl, rfl⟩ := hq
            rw [hb_bt set (by omega)]
            refine G_lload (pc := 146) M dX3_keyOutOf_146 rfl ?_
            refine G_ldc2 (pc := 148) M dX3_keyOutOf_148 cn_X3_48 ?_
            refine G_lcmp (pc := 151) M dX3_keyOutOf_151 ?_
            refine G_if_ne (pc := 152) M 159 dX3_keyOutOf_152 (by decide) (fun h152 => ?_) (fun h152 => ?_)
            · rw [lg_cmp_eq] at h152
              refine G_iconst (pc := 159) (v := 0) M dX3_keyOutOf_159 (by decide +kernel) ?_
              refine G_icmp_ne (pc := 160) M 167 dX3_keyOutOf_160 (by decide) (fun h160 => ?_) (fun h160 => ?_)
              · refine G_iconst (pc := 167) (v := 0) M dX3_keyOutOf_167 (by decide +kernel) ?_
                first | exact e1 none (by cases hA : bt set (kk / 64) <;> cases hB : bt set (kk % 64) <;> simp_all [ldB, bz]) | exact e0 none (by cases hA : bt set (kk / 64) <;> cases hB : bt set (kk % 64) <;> simp_all [ldB, bz])
              · refine G_iconst (pc := 163) (v := 1) M dX3_keyOutOf_163 (by decide +kernel) ?_
                refine G_goto (pc := 164) M 168 dX3_keyOutOf_164 (by decide) ?_
                first | exact e1 none (by cases hA : bt set (kk / 64) <;> cases hB : bt set (kk % 64) <;> simp_all [ldB, bz]) | exact e0 none (by cases hA : bt set (kk / 64) <;> cases hB : bt set (kk % 64) <;> simp_all [ldB, bz])
            · rw [lg_cmp_eq] at h152
              refine G_iconst (pc := 155) (v := 1) M dX3_keyOutOf_155 (by decide +kernel) ?_
              refine G_goto (pc := 156) M 160 dX3_keyOutOf_156 (by decide) ?_
              refine G_icmp_ne (pc := 160) M 167 dX3_keyOutOf_160 (by decide) (fun h160 => ?_) (fun h160 => ?_)
              · refine G_iconst (pc := 167) (v := 0) M dX3_keyOutOf_167 (by decide +kernel) ?_
                first | exact e1 none (by cases hA : bt set (kk / 64) <;> cases hB : bt set (kk % 64) <;> simp_all [ldB, bz]) | exact e0 none (by cases hA : bt set (kk / 64) <;> cases hB : bt set (kk % 64) <;> simp_all [ldB, bz])
              · refine G_iconst (pc := 163) (v := 1) M dX3_keyOutOf_163 (by decide +kernel) ?_
                refine G_goto (pc := 164) M 168 dX3_keyOutOf_164 (by decide) ?_
                first | exact e1 none (by cases hA : bt set (kk / 64) <;> cases hB : bt set (kk % 64) <;> simp_all [ldB, bz]) | exact e0 none (by cases hA : bt set (kk / 64) <;> cases hB : bt set (kk % 64) <;> simp_all [ldB, bz])
        · rw [lg_cmp_eq] at h129
          refine G_iconst (pc := 132) (v := 1) M dX3_keyOutOf_132 (by decide +kernel) ?_
          refine G_goto (pc := 133) M 137 dX3_keyOutOf_133 (by decide) ?_
          refine G_icmp_ne (pc := 137) M 167 dX3_keyOutOf_137 (by decide) (fun h137 => ?_) (fun h137 => ?_)
          · refine G_iconst (pc := 167) (v := 0) M dX3_keyOutOf_167 (by decide +kernel) ?_
            first | exact e1 none (by cases hA : bt set (kk / 64) <;> cases hB : bt set (kk % 64) <;> simp_all [ldB, bz]) | exact e0 none (by cases hA : bt set (kk / 64) <;> cases hB : bt set (kk % 64) <;> simp_all [ldB, bz])
          · refine G_lload_n (pc := 140) M dX3_keyOutOf_140 rfl ?_
            refine G_iload (pc := 141) M dX3_keyOutOf_141 rfl ?_
            refine G_calln (pc := 143) M [] dX3_keyOutOf_143 mn_X3_57 (c_holds D _ (fun j => ad (pn [] j)) set (nI (kk % 64))) trivial rfl rfl rfl rfl (Nat.le_of_ble_eq_true rfl) (Nat.le_of_ble_eq_true rfl) (Nat.le_of_ble_eq_true rfl) ⟨Nat.zero_le _, Nat.zero_le _⟩ (fun v c1 hq hlen => ?_)
            obtain ⟨rfl, rfl⟩ := hq
            rw [hb_bt set (by omega)]
            refine G_lload (pc := 146) M dX3_keyOutOf_146 rfl ?_
            refine G_ldc2 (pc := 148) M dX3_keyOutOf_148 cn_X3_48 ?_
            refine G_lcmp (pc := 151) M dX3_keyOutOf_151 ?_
            refine G_if_ne (pc := 152) M 159 dX3_keyOutOf_152 (by decide) (fun h152 => ?_) (fun h152 => ?_)
            · rw [lg_cmp_eq] at h152
              refine G_iconst (pc := 159) (v := 0) M dX3_keyOutOf_159 (by decide +kernel) ?_
              refine G_icmp_ne (pc := 160) M 167 dX3_keyOutOf_160 (by decide) (fun h160 => ?_) (fun h160 => ?_)
              · refine G_iconst (pc := 167) (v := 0) M dX3_keyOutOf_167 (by decide +kernel) ?_
                first | exact e1 none (by cases hA : bt set (kk / 64) <;> cases hB : bt set (kk % 64) <;> simp_all [ldB, bz]) | exact e0 none (by cases hA : bt set (kk / 64) <;> cases hB : bt set (kk % 64) <;> simp_all [ldB, bz])
              · refine G_iconst (pc := 163) (v := 1) M dX3_keyOutOf_163 (by decide +kernel) ?_
                refine G_goto (pc := 164) M 168 dX3_keyOutOf_164 (by decide) ?_
                first | exact e1 none (by cases hA : bt set (kk / 64) <;> cases hB : bt set (kk % 64) <;> simp_all [ldB, bz]) | exact e0 none (by cases hA : bt set (kk / 64) <;> cases hB : bt set (kk % 64) <;> simp_all [ldB, bz])
            · rw [lg_cmp_eq] at h152
              refine G_iconst (pc := 155) (v := 1) M dX3_keyOutOf_155 (by decide +kernel) ?_
              refine G_goto (pc := 156) M 160 dX3_keyOutOf_156 (by decide) ?_
              refine G_icmp_ne (pc := 160) M 167 dX3_keyOutOf_160 (by decide) (fun h160 => ?_) (fun h160 => ?_)
              · refine G_iconst (pc := 167) (v := 0) M dX3_keyOutOf_167 (by decide +kernel) ?_
                first | exact e1 none (by cases hA : bt set (kk / 64) <;> cases hB : bt set (kk % 64) <;> simp_all [ldB, bz]) | exact e0 none (by cases hA : bt set (kk / 64) <;> cases hB : bt set (kk % 64) <;> simp_all [ldB, bz])
              · refine G_iconst (pc := 163) (v := 1) M dX3_keyOutOf_163 (by decide +kernel) ?_
                refine G_goto (pc := 164) M 168 dX3_keyOutOf_164 (by decide) ?_
                first | exact e1 none (by cases hA : bt set (kk / 64) <;> cases hB : bt set (kk % 64) <;> simp_all [ldB, bz]) | exact e0 none (by cases hA : bt set (kk / 64) <;> cases hB : bt set (kk % 64) <;> simp_all [ldB, bz])
      · have h113b := fun q => h113 (nI_lt (a := kk % 64) (b := nn) q (by omega))
        have h113c : decide (kk % 64 < nn) = false := decide_eq_false h113b
        refine G_bipush (pc := 116) (v := -2) M dX3_keyOutOf_116 (by decide +kernel) ?_
        exact G_iret M hr dX3_keyOutOf_118 rfl ⟨by rw [no (by simp [ldB, *])]; rfl, rfl⟩
  refine G_aload_n (pc := 0) M dX3_keyOutOf_0 rfl ?_
  refine G_lload_n (pc := 1) M dX3_keyOutOf_1 rfl ?_
  refine G_iload_n (pc := 2) M dX3_keyOutOf_2 rfl ?_
  refine G_iconst (pc := 3) (v := 0) M dX3_keyOutOf_3 (by decide +kernel) ?_
  refine G_callv (pc := 4) M [0, 1] dX3_keyOutOf_4 mv_X3_44 (c_sumOf D _ (fun j => ad (pn [0, 1] j)) nn lv 0 sd set S hnn hlv (by omega)) rfl ⟨rfl, rfl, trivial⟩ rfl rfl rfl rfl (Nat.le_of_ble_eq_true rfl) (Nat.le_of_ble_eq_true rfl) (Nat.le_of_ble_eq_true rfl) ⟨Nat.zero_le _, Nat.zero_le _⟩ (fun v c1 hq hlen => ?_)
  obtain ⟨rfl, rfl⟩ := hq
  rw [Nat.add_zero (3 * lv), hc]
  refine G_lstore (pc := 7) M dX3_keyOutOf_7 (Nat.le_of_ble_eq_true rfl) ?_
  refine G_lload (pc := 9) M dX3_keyOutOf_9 rfl ?_
  refine G_lconst (pc := 11) (v := 1) M dX3_keyOutOf_11 (by decide +kernel) ?_
  refine G_lcmp (pc := 12) M dX3_keyOutOf_12 ?_
  refine G_if_eq (pc := 13) M 28 dX3_keyOutOf_13 (by decide) (fun h13 => ?_) (fun h13 => ?_)
  · rw [lg_cmp_eq] at h13
    have h0 : c = 1 ∨ c = -1 := Or.inl h13
    refine G_aload_n (pc := 28) M dX3_keyOutOf_28 rfl ?_
    refine G_lload_n (pc := 29) M dX3_keyOutOf_29 rfl ?_
    refine G_iload_n (pc := 30) M dX3_keyOutOf_30 rfl ?_
    refine G_iconst (pc := 31) (v := 1) M dX3_keyOutOf_31 (by decide +kernel) ?_
    refine G_callv (pc := 32) M [0, 1] dX3_keyOutOf_32 mv_X3_44 (c_sumOf D _ (fun j => ad (pn [0, 1] j)) nn lv 1 sd set S hnn hlv (by omega)) rfl ⟨rfl, rfl, trivial⟩ rfl rfl rfl rfl (Nat.le_of_ble_eq_true rfl) (Nat.le_of_ble_eq_true rfl) (Nat.le_of_ble_eq_true rfl) ⟨Nat.zero_le _, Nat.zero_le _⟩ (fun v c1 hq hlen => ?_)
    obtain ⟨rfl, rfl⟩ := hq
    rw [he]
    refine G_lload (pc := 35) M dX3_keyOutOf_35 rfl ?_
    refine G_lmul (pc := 37) M dX3_keyOutOf_37 ?_
    rw [hmul]
    refine G_lstore (pc := 38) M dX3_keyOutOf_38 (Nat.le_of_ble_eq_true rfl) ?_
    refine G_lload (pc := 40) M dX3_keyOutOf_40 rfl ?_
    refine G_lconst (pc := 42) (v := 0) M dX3_keyOutOf_42 (by decide +kernel) ?_
    refine G_lcmp (pc := 43) M dX3_keyOutOf_43 ?_
    refine G_if_lt (pc := 44) M 81 dX3_keyOutOf_44 (by decide) (fun h44 => ?_) (fun h44 => ?_)
    · rw [lg_cmp_lt] at h44
      have no : oK S set lv nn = none := oK_none2 (fun k2 a b _ _ => by
        rw [hc, he] at b
        rw [b, Int64.lt_iff_toInt_lt, lN_toInt (by omega)] at h44
        exact absurd h44 (by simp))
      refine G_bipush (pc := 81) (v := -2) M dX3_keyOutOf_81 (by decide +kernel) ?_
      exact G_iret M hr dX3_keyOutOf_83 rfl ⟨by rw [no]; rfl, rfl⟩
    · rw [lg_cmp_lt] at h44
      obtain ⟨kk, hk63, hkk⟩ := pk_lOf h44
      refine G_lload (pc := 47) M dX3_keyOutOf_47 rfl ?_
      refine G_aload_n (pc := 49) M dX3_keyOutOf_49 rfl ?_
      refine G_getf (pc := 50) M dX3_keyOutOf_50 fl_X3_15 rfl (by first | rfl | assumption) ?_
      refine G_iconst (pc := 53) (v := 0) M dX3_keyOutOf_53 (by decide +kernel) ?_
      refine G_calln (pc := 54) M [] dX3_keyOutOf_54 mn_X3_29 (c_keyOf D _ (fun j => ad (pn [] j)) (nI nn) 0) trivial rfl rfl rfl rfl (Nat.le_of_ble_eq_true rfl) (Nat.le_of_ble_eq_true rfl) (Nat.le_of_ble_eq_true rfl) ⟨Nat.zero_le _, Nat.zero_le _⟩ (fun v c1 hq hlen => ?_)
      obtain ⟨rfl, rfl⟩ := hq
      rw [show (64 : Int32) * nI nn + 0 = nI (64 * nn) by rw [n64, pk_mul]; simp]
      refine G_i2l (pc := 57) M dX3_keyOutOf_57 ?_
      rw [nI_l (by omega)]
      refine G_lcmp (pc := 58) M dX3_keyOutOf_58 ?_
      refine G_if_ge (pc := 59) M 81 dX3_keyOutOf_59 (by decide) (fun h59 => ?_) (fun h59 => ?_)
      · rw [lg_cmp_ge, hkk, pk_lLE (by omega) hk63] at h59
        have no : oK S set lv nn = none := oK_none2 (fun k2 a b _ d => by
          rw [hc, he, hkk] at b
          have := (pk_lEQ hk63 (by omega)).mp b
          subst this
          rw [ldB_big h59] at d
          cases d)
        refine G_bipush (pc := 81) (v := -2) M dX3_keyOutOf_81 (by decide +kernel) ?_
        exact G_iret M hr dX3_keyOutOf_83 rfl ⟨by rw [no]; rfl, rfl⟩
      · rw [lg_cmp_ge, hkk, pk_lLE (by omega) hk63] at h59
        refine G_aload_n (pc := 62) M dX3_keyOutOf_62 rfl ?_
        refine G_lload_n (pc := 63) M dX3_keyOutOf_63 rfl ?_
        refine G_iload_n (pc := 64) M dX3_keyOutOf_64 rfl ?_
        refine G_iconst (pc := 65) (v := 2) M dX3_keyOutOf_65 (by decide +kernel) ?_
        refine G_callv (pc := 66) M [0, 1] dX3_keyOutOf_66 mv_X3_44 (c_sumOf D _ (fun j => ad (pn [0, 1] j)) nn lv 2 sd set S hnn hlv (by omega)) rfl ⟨rfl, rfl, trivial⟩ rfl rfl rfl rfl (Nat.le_of_ble_eq_true rfl) (Nat.le_of_ble_eq_true rfl) (Nat.le_of_ble_eq_true rfl) ⟨Nat.zero_le _, Nat.zero_le _⟩ (fun v c1 hq hlen => ?_)
        obtain ⟨rfl, rfl⟩ := hq
        rw [hf]
        refine G_lload (pc := 69) M dX3_keyOutOf_69 rfl ?_
        refine G_lmul (pc := 71) M dX3_keyOutOf_71 ?_
        rw [hmul]
        refine G_lload (pc := 72) M dX3_keyOutOf_72 rfl ?_
        refine G_lload (pc := 74) M dX3_keyOutOf_74 rfl ?_
        refine G_lmul (pc := 76) M dX3_keyOutOf_76 ?_
        refine G_lcmp (pc := 77) M dX3_keyOutOf_77 ?_
        refine G_if_eq (pc := 78) M 84 dX3_keyOutOf_78 (by decide) (fun h78 => ?_) (fun h78 => ?_)
        · rw [lg_cmp_eq] at h78
          rw [hkk]
          exact fin kk h0 hkk (by rw [h78, hkk]) (by omega)
        · rw [lg_cmp_eq] at h78
          have no : oK S set lv nn = none := oK_none2 (fun k2 a b d _ => by
            rw [hc, he] at b
            rw [hc, hf, ← b] at d
            exact h78 d)
          refine G_bipush (pc := 81) (v := -2) M dX3_keyOutOf_81 (by decide +kernel) ?_
          exact G_iret M hr dX3_keyOutOf_83 rfl ⟨by rw [no]; rfl, rfl⟩
  · rw [lg_cmp_eq] at h13
    refine G_lload (pc := 16) M dX3_keyOutOf_16 rfl ?_
    refine G_ldc2 (pc := 18) M dX3_keyOutOf_18 cn_X3_48 ?_
    refine G_lcmp (pc := 21) M dX3_keyOutOf_21 ?_
    refine G_if_eq (pc := 22) M 28 dX3_keyOutOf_22 (by decide) (fun h22 => ?_) (fun h22 => ?_)
    · rw [lg_cmp_eq] at h22
      have h0 : c = 1 ∨ c = -1 := Or.inr h22
      refine G_aload_n (pc := 28) M dX3_keyOutOf_28 rfl ?_
      refine G_lload_n (pc := 29) M dX3_keyOutOf_29 rfl ?_
      refine G_iload_n (pc := 30) M dX3_keyOutOf_30 rfl ?_
      refine G_iconst (pc := 31) (v := 1) M dX3_keyOutOf_31 (by decide +kernel) ?_
      refine G_callv (pc := 32) M [0, 1] dX3_keyOutOf_32 mv_X3_44 (c_sumOf D _ (fun j => ad (pn [0, 1] j)) nn lv 1 sd set S hnn hlv (by omega)) rfl ⟨rfl, rfl, trivial⟩ rfl rfl rfl rfl (Nat.le_of_ble_eq_true rfl) (Nat.le_of_ble_eq_true rfl) (Nat.le_of_ble_eq_true rfl) ⟨Nat.zero_le _, Nat.zero_le _⟩ (fun v c1 hq hlen => ?_)
      obtain ⟨rfl, rfl⟩ := hq
      rw [he]
      refine G_lload (pc := 35) M dX3_keyOutOf_35 rfl ?_
      refine G_lmul (pc := 37) M dX3_keyOutOf_37 ?_
      rw [hmul]
      refine G_lstore (pc := 38) M dX3_keyOutOf_38 (Nat.le_of_ble_eq_true rfl) ?_
      refine G_lload (pc := 40) M dX3_keyOutOf_40 rfl ?_
      refine G_lconst (pc := 42) (v := 0) M dX3_keyOutOf_42 (by decide +kernel) ?_
      refine G_lcmp (pc := 43) M dX3_keyOutOf_43 ?_
      refine G_if_lt (pc := 44) M 81 dX3_keyOutOf_44 (by decide) (fun h44 => ?_) (fun h44 => ?_)
      · rw [lg_cmp_lt] at h44
        have no : oK S set lv nn = none := oK_none2 (fun k2 a b _ _ => by
          rw [hc, he] at b
          rw [b, Int64.lt_iff_toInt_lt, lN_toInt (by omega)] at h44
          exact absurd h44 (by simp))
        refine G_bipush (pc := 81) (v := -2) M dX3_keyOutOf_81 (by decide +kernel) ?_
        exact G_iret M hr dX3_keyOutOf_83 rfl ⟨by rw [no]; rfl, rfl⟩
      · rw [lg_cmp_lt] at h44
        obtain ⟨kk, hk63, hkk⟩ := pk_lOf h44
        refine G_lload (pc := 47) M dX3_keyOutOf_47 rfl ?_
        refine G_aload_n (pc := 49) M dX3_keyOutOf_49 rfl ?_
        refine G_getf (pc := 50) M dX3_keyOutOf_50 fl_X3_15 rfl (by first | rfl | assumption) ?_
        refine G_iconst (pc := 53) (v := 0) M dX3_keyOutOf_53 (by decide +kernel) ?_
        refine G_calln (pc := 54) M [] dX3_keyOutOf_54 mn_X3_29 (c_keyOf D _ (fun j => ad (pn [] j)) (nI nn) 0) trivial rfl rfl rfl rfl (Nat.le_of_ble_eq_true rfl) (Nat.le_of_ble_eq_true rfl) (Nat.le_of_ble_eq_true rfl) ⟨Nat.zero_le _, Nat.zero_le _⟩ (fun v c1 hq hlen => ?_)
        obtain ⟨rfl, rfl⟩ := hq
        rw [show (64 : Int32) * nI nn + 0 = nI (64 * nn) by rw [n64, pk_mul]; simp]
        refine G_i2l (pc := 57) M dX3_keyOutOf_57 ?_
        rw [nI_l (by omega)]
        refine G_lcmp (pc := 58) M dX3_keyOutOf_58 ?_
        refine G_if_ge (pc := 59) M 81 dX3_keyOutOf_59 (by decide) (fun h59 => ?_) (fun h59 => ?_)
        · rw [lg_cmp_ge, hkk, pk_lLE (by omega) hk63] at h59
          have no : oK S set lv nn = none := oK_none2 (fun k2 a b _ d => by
            rw [hc, he, hkk] at b
            have := (pk_lEQ hk63 (by omega)).mp b
            subst this
            rw [ldB_big h59] at d
            cases d)
          refine G_bipush (pc := 81) (v := -2) M dX3_keyOutOf_81 (by decide +kernel) ?_
          exact G_iret M hr dX3_keyOutOf_83 rfl ⟨by rw [no]; rfl, rfl⟩
        · rw [lg_cmp_ge, hkk, pk_lLE (by omega) hk63] at h59
          refine G_aload_n (pc := 62) M dX3_keyOutOf_62 rfl ?_
          refine G_lload_n (pc := 63) M dX3_keyOutOf_63 rfl ?_
          refine G_iload_n (pc := 64) M dX3_keyOutOf_64 rfl ?_
          refine G_iconst (pc := 65) (v := 2) M dX3_keyOutOf_65 (by decide +kernel) ?_
          refine G_callv (pc := 66) M [0, 1] dX3_keyOutOf_66 mv_X3_44 (c_sumOf D _ (fun j => ad (pn [0, 1] j)) nn lv 2 sd set S hnn hlv (by omega)) rfl ⟨rfl, rfl, trivial⟩ rfl rfl rfl rfl (Nat.le_of_ble_eq_true rfl) (Nat.le_of_ble_eq_true rfl) (Nat.le_of_ble_eq_true rfl) ⟨Nat.zero_le _, Nat.zero_le _⟩ (fun v c1 hq hlen => ?_)
          obtain ⟨rfl, rfl⟩ := hq
          rw [hf]
          refine G_lload (pc := 69) M dX3_keyOutOf_69 rfl ?_
          refine G_lmul (pc := 71) M dX3_keyOutOf_71 ?_
          rw [hmul]
          refine G_lload (pc := 72) M dX3_keyOutOf_72 rfl ?_
          refine G_lload (pc := 74) M dX3_keyOutOf_74 rfl ?_
          refine G_lmul (pc := 76) M dX3_keyOutOf_76 ?_
          refine G_lcmp (pc := 77) M dX3_keyOutOf_77 ?_
          refine G_if_eq (pc := 78) M 84 dX3_keyOutOf_78 (by decide) (fun h78 => ?_) (fun h78 => ?_)
          · rw [lg_cmp_eq] at h78
            rw [hkk]
            exact fin kk h0 hkk (by rw [h78, hkk]) (by omega)
          · rw [lg_cmp_eq] at h78
            have no : oK S set lv nn = none := oK_none2 (fun k2 a b d _ => by
              rw [hc, he] at b
              rw [hc, hf, ← b] at d
              exact h78 d)
            refine G_bipush (pc := 81) (v := -2) M dX3_keyOutOf_81 (by decide +kernel) ?_
            exact G_iret M hr dX3_keyOutOf_83 rfl ⟨by rw [no]; rfl, rfl⟩
    · rw [lg_cmp_eq] at h22
      refine G_bipush (pc := 25) (v := -2) M dX3_keyOutOf_25 (by decide +kernel) ?_
      exact G_iret M hr dX3_keyOutOf_27 rfl ⟨by rw [oK_none1 (by rw [hc]; exact h13) (by rw [hc]; exact h22)]; rfl, rfl⟩
end
section
--NORM
/-! Stream -/
abbrev stO (ad : Nat → Nat) (nn kk st : Nat) (sd : Int64) (ag : Int32) : va_E := ob 4 [.ref (ad 1), .ref (ad 4), .ref (ad 8), .ref (ad 12), .ref (ad 14), .int (nI nn), .int (nI kk), .int (nI st), .long sd, .int ag]
abbrev stW (D : DD) (ad : Nat → Nat) (nn kk st : Nat) (sd : Int64) (ag tk lo : Int32) (C tg : Nat → Int32) (fn : Nat) (ftm fky ld : Nat → Int32) (z : Nat) (ttm tky : Nat → Int32) (nb : Nat → Int64) (pr : Int32) (mt : Nat → Int32) (S : Nat → Int64) : List va_E :=
  [stO ad nn kk st sd ag, ob 0 [.ref (ad 2), .ref (ad 3), .int (nI nn), .int (nI kk), .int tk, .int lo], ia D 64 C, ia D 64 tg, ob 1 [.ref (ad 5), .ref (ad 6), .ref (ad 7), .int (nI fn)], ia D 64 ftm, ia D 64 fky, ia D 64 ld, ob 5 [.ref (ad 9), .ref (ad 10), .ref (ad 11), .int (nI nn), .int (nI st), .int (nI z)], ia D 512 ttm, ia D 512 tky, la D 64 nb, ob 2 [.ref (ad 13), .int pr], ia D 64 mt, ob 3 [.ref (ad 15), .int (nI nn), .long sd], la D 1920 S]
theorem c_fRestart (D : DD) (l : Launch) (ad : Nat → Nat) (a b c : Value) (n : Int32) : Ct D l mi_X1_restart [.ref (ad 0)] ad [ob 1 [a, b, c, .int n]] (fun v cs => v = none ∧ cs = [ob 1 [a, b, c, .int (nI 0)]]) := by
  refine Ct.of (by decide +kernel) (Nat.le_of_ble_eq_true rfl) (fun X A hX M hr => ?_)
  subst hX
  refine G_aload_n (pc := 0) M dX1_restart_0 rfl ?_
  refine G_iconst (pc := 1) (v := 0) M dX1_restart_1 (by decide +kernel) ?_
  refine G_putfi (pc := 2) M dX1_restart_2 fl_X1_21 rfl (Nat.le_of_ble_eq_true rfl) ?_
  try dsimp only [List.set]
  exact G_vret M hr dX1_restart_5 rfl ⟨rfl, rfl⟩
theorem c_sRestart (D : DD) (l : Launch) (ad : Nat → Nat) (n0 k0 s0 nn kk st : Nat) (d0 sd : Int64) (ag tk lo : Int32) (C tg : Nat → Int32) (fn : Nat) (ftm fky ld : Nat → Int32) (z : Nat) (ttm tky : Nat → Int32) (nb : Nat → Int64) (pr : Int32) (mt : Nat → Int32) (S : Nat → Int64) :
    Ct D l mi_X4_restart [.ref (ad 0), .int (nI nn), .int (nI kk), .int (nI st), .long sd] ad (stW D ad n0 k0 s0 d0 ag tk lo C tg fn ftm fky ld z ttm tky nb pr mt S) (fun v cs => v = none ∧ cs = stW D ad nn kk st sd 0 0 0 (fun _ => 0) tg 0 ftm fky ld 0 ttm tky (fun _ => 0) 0 (fun _ => -2) (fun _ => 0)) := by
  refine Ct.of (by decide +kernel) (Nat.le_of_ble_eq_true rfl) (fun X A hX M hr => ?_)
  subst hX
  refine G_aload_n (pc := 0) M dX4_restart_0 rfl ?_
  refine G_iload_n (pc := 1) M dX4_restart_1 rfl ?_
  refine G_putfi (pc := 2) M dX4_restart_2 fl_X4_50 rfl (Nat.le_of_ble_eq_true rfl) ?_
  try dsimp only [List.set]
  refine G_aload_n (pc := 5) M dX4_restart_5 rfl ?_
  refine G_iload_n (pc := 6) M dX4_restart_6 rfl ?_
  refine G_putfi (pc := 7) M dX4_restart_7 fl_X4_54 rfl (Nat.le_of_ble_eq_true rfl) ?_
  try dsimp only [List.set]
  refine G_aload_n (pc := 10) M dX4_restart_10 rfl ?_
  refine G_iload_n (pc := 11) M dX4_restart_11 rfl ?_
  refine G_putfi (pc := 12) M dX4_restart_12 fl_X4_57 rfl (Nat.le_of_ble_eq_true rfl) ?_
  try dsimp only [List.set]
  refine G_aload_n (pc := 15) M dX4_restart_15 rfl ?_
  refine G_lload (pc := 16) M dX4_restart_16 rfl ?_
  refine G_putfl (pc := 18) M dX4_restart_18 fl_X4_60 rfl (Nat.le_of_ble_eq_true rfl) ?_
  try dsimp only [List.set]
  refine G_aload_n (pc := 21) M dX4_restart_21 rfl ?_
  refine G_iconst (pc := 22) (v := 0) M dX4_restart_22 (by decide +kernel) ?_
  refine G_putfi (pc := 23) M dX4_restart_23 fl_X4_64 rfl (Nat.le_of_ble_eq_true rfl) ?_
  try dsimp only [List.set]
  refine G_aload_n (pc := 26) M dX4_restart_26 rfl ?_
  refine G_getf (pc := 27) M dX4_restart_27 fl_X4_12 rfl (by first | rfl | assumption) ?_
  refine G_iload_n (pc := 30) M dX4_restart_30 rfl ?_
  refine G_iload_n (pc := 31) M dX4_restart_31 rfl ?_
  refine G_callv (pc := 32) M [1, 2, 3] dX4_restart_32 mv_X4_67 (c_cRestart D _ (fun j => ad (pn [1, 2, 3] j)) n0 k0 nn kk tk lo C tg) rfl ⟨rfl, rfl, rfl, trivial⟩ rfl rfl rfl rfl (Nat.le_of_ble_eq_true rfl) (Nat.le_of_ble_eq_true rfl) (Nat.le_of_ble_eq_true rfl) ⟨Nat.zero_le _, Nat.zero_le _⟩ (fun v c1 hq hlen => ?_)
  obtain ⟨rfl, rfl⟩ := hq
  try dsimp only [sall, List.set, Option.toList, List.cons_append, List.nil_append]
  refine G_aload_n (pc := 35) M dX4_restart_35 rfl ?_
  refine G_getf (pc := 36) M dX4_restart_36 fl_X4_21 rfl (by first | rfl | assumption) ?_
  refine G_callv (pc := 39) M [4] dX4_restart_39 mv_X4_70 (c_fRestart D _ (fun j => ad (pn [4] j)) _ _ _ (nI fn)) rfl ⟨rfl, trivial⟩ rfl rfl rfl rfl (Nat.le_of_ble_eq_true rfl) (Nat.le_of_ble_eq_true rfl) (Nat.le_of_ble_eq_true rfl) ⟨Nat.zero_le _, Nat.zero_le _⟩ (fun v c1 hq hlen => ?_)
  obtain ⟨rfl, rfl⟩ := hq
  try dsimp only [sall, List.set, Option.toList, List.cons_append, List.nil_append]
  refine G_aload_n (pc := 42) M dX4_restart_42 rfl ?_
  refine G_getf (pc := 43) M dX4_restart_43 fl_X4_28 rfl (by first | rfl | assumption) ?_
  refine G_iload_n (pc := 46) M dX4_restart_46 rfl ?_
  refine G_iload_n (pc := 47) M dX4_restart_47 rfl ?_
  refine G_callv (pc := 48) M [8, 9, 10, 11] dX4_restart_48 mv_X4_72 (c_tRestart D _ (fun j => ad (pn [8, 9, 10, 11] j)) n0 s0 z nn st ttm tky nb) rfl ⟨rfl, rfl, rfl, rfl, trivial⟩ rfl rfl rfl rfl (Nat.le_of_ble_eq_true rfl) (Nat.le_of_ble_eq_true rfl) (Nat.le_of_ble_eq_true rfl) ⟨Nat.zero_le _, Nat.zero_le _⟩ (fun v c1 hq hlen => ?_)
  obtain ⟨rfl, rfl⟩ := hq
  try dsimp only [sall, List.set, Option.toList, List.cons_append, List.nil_append]
  refine G_aload_n (pc := 51) M dX4_restart_51 rfl ?_
  refine G_getf (pc := 52) M dX4_restart_52 fl_X4_35 rfl (by first | rfl | assumption) ?_
  refine G_callv (pc := 55) M [12, 13] dX4_restart_55 mv_X4_73 (c_mRestart D _ (fun j => ad (pn [12, 13] j)) pr mt) rfl ⟨rfl, rfl, trivial⟩ rfl rfl rfl rfl (Nat.le_of_ble_eq_true rfl) (Nat.le_of_ble_eq_true rfl) (Nat.le_of_ble_eq_true rfl) ⟨Nat.zero_le _, Nat.zero_le _⟩ (fun v c1 hq hlen => ?_)
  obtain ⟨rfl, rfl⟩ := hq
  try dsimp only [sall, List.set, Option.toList, List.cons_append, List.nil_append]
  refine G_aload_n (pc := 58) M dX4_restart_58 rfl ?_
  refine G_getf (pc := 59) M dX4_restart_59 fl_X4_42 rfl (by first | rfl | assumption) ?_
  refine G_iload_n (pc := 62) M dX4_restart_62 rfl ?_
  refine G_lload (pc := 63) M dX4_restart_63 rfl ?_
  refine G_callv (pc := 65) M [14, 15] dX4_restart_65 mv_X4_74 (c_rRestart D _ (fun j => ad (pn [14, 15] j)) n0 nn d0 sd S) rfl ⟨rfl, rfl, trivial⟩ rfl rfl rfl rfl (Nat.le_of_ble_eq_true rfl) (Nat.le_of_ble_eq_true rfl) (Nat.le_of_ble_eq_true rfl) ⟨Nat.zero_le _, Nat.zero_le _⟩ (fun v c1 hq hlen => ?_)
  obtain ⟨rfl, rfl⟩ := hq
  try dsimp only [sall, List.set, Option.toList, List.cons_append, List.nil_append]
  exact G_vret M hr dX4_restart_68 rfl ⟨rfl, rfl⟩
theorem W_weak {p : Program} {l : Launch} {e : Env} {R : Room} {s : State} {m : MethodId} {args : Array Value} {below : List Frame} {meth : Method} {c : Code} {H : Heap} {locs : List Loc} {kc ks : Nat} {Q1 Q2 : State → Prop} {g : JFrame} (h : ∀ t, Q1 t → Q2 t) (k : W p l e R s m args below meth c H locs kc ks Q1 g) : W p l e R s m args below meth c H locs kc ks Q2 g := fun T hT X => by
  obtain ⟨t, a, b⟩ := k T hT X
  exact ⟨t, a, h t b⟩
theorem G_weak {D : DD} {X : MX} {A : Nat → Prop} {ad : Nat → Nat} {n pc : Nat} {lv : List (Option Value)} {st : List Value} {cs : List va_E} {Q1 Q2 : Option Value → List va_E → Prop} (h : ∀ v c, Q1 v c → Q2 v c) (k : G D X A 0 0 (GQ D X A ad n Q1) ad pc lv st cs) : G D X A 0 0 (GQ D X A ad n Q2) ad pc lv st cs := fun ls H locs hL hP hD hS =>
  W_weak (fun t ⟨o, a, b, ⟨⟨v, c, e1, e2, e3⟩, e4⟩, d⟩ => ⟨o, a, b, ⟨⟨v, c, e1, h v c e2, e3⟩, e4⟩, d⟩) (k ls H locs hL hP hD hS)
theorem one64 : (1 : Int32).toInt64 = 1 := rfl
theorem neg1 : (-(1 : Int32)).toInt64 = -(1 : Int32).toInt64 := by decide
theorem c_sAccept (D : DD) (l : Launch) (ad : Nat → Nat) (nn kk st : Nat) (sd : Int64) (ag tk lo : Int32) (C tg : Nat → Int32) (fn : Nat) (ftm fky ld : Nat → Int32) (z : Nat) (ttm tky : Nat → Int32) (nb : Nat → Int64) (pr : Int32) (mt : Nat → Int32) (S : Nat → Int64) (a b : Nat) (fu fv : Nat → Nat) (hnn : nn ≤ 64) (hst : st ≤ 64) (ha : a < 64) (hb : b < 64) (hfn : fn < 64) (hz : z < 512) (hK : fArc fn fky fu fv) :
    Ct D l mi_X4_accept [.ref (ad 0), .int (nI a), .int (nI b)] ad (stW D ad nn kk st sd ag tk lo C tg fn ftm fky ld z ttm tky nb pr mt S) (fun v cs => v = some (.int (ag + 1)) ∧ ∃ ld2, cs =
      if dst nb nn (max a b) (st + 1) 0 (one (min a b)) (one (min a b)) = -2 then
        stW D ad nn kk st sd (ag + 1) (kT (kC C nn kk tk a) nn kk (kT C nn kk tk a) b) (kL (kC C nn kk tk a) kk (kT C nn kk tk a) (kL C kk tk lo a) b) (kC (kC C nn kk tk a) nn kk (kT C nn kk tk a) b) tg (facN fn (obt fu fv fn (min a b) (max a b) fn)) (facF ftm fn (obt fu fv fn (min a b) (max a b) fn) (ag + 1)) (facF fky fn (obt fu fv fn (min a b) (max a b) fn) (nI (64 * min a b + max a b))) ld2 (z + 1) (upd ttm z (ag + 1)) (upd tky z (nI (64 * min a b + max a b))) (nbA nb (min a b) (max a b)) (bif mtB mt (min a b) (max a b) then pr + 1 else pr) (mtF mt (min a b) (max a b)) (chgR S (min a b) (max a b) (arcKey (min a b) (max a b)) 1 (lvK sd (arcKey (min a b) (max a b)) + 1))
      else
        stW D ad nn kk st sd (ag + 1) (kT (kC C nn kk tk a) nn kk (kT C nn kk tk a) b) (kL (kC C nn kk tk a) kk (kT C nn kk tk a) (kL C kk tk lo a) b) (kC (kC C nn kk tk a) nn kk (kT C nn kk tk a) b) tg (facN fn (obt fu fv fn (min a b) (max a b) fn)) (facF ftm fn (obt fu fv fn (min a b) (max a b) fn) (ag + 1)) (facF fky fn (obt fu fv fn (min a b) (max a b) fn) (nI (64 * min a b + max a b))) ld2 z ttm tky nb (bif mtB mt (min a b) (max a b) then pr + 1 else pr) (mtF mt (min a b) (max a b)) (chgR S (min a b) (max a b) (arcKey (min a b) (max a b)) 1 (lvK sd (arcKey (min a b) (max a b)) + 1))) := by
  refine Ct.of (by decide +kernel) (Nat.le_of_ble_eq_true rfl) (fun X A hX M hr => ?_)
  subst hX
  have tail : ∀ (tk2 lo2 : Int32) (C2 : Nat → Int32) (f2 : Nat) (tm2 ky2 ld2 : Nat → Int32) (z2 : Nat) (tt2 tq2 : Nat → Int32) (nb2 : Nat → Int64) (Q : State → Prop), (Q = GQ D X A ad 16 (fun v cs => v = some (.int (ag + 1)) ∧ cs = stW D ad nn kk st sd (ag + 1) tk2 lo2 C2 tg f2 tm2 ky2 ld2 z2 tt2 tq2 nb2 (bif mtB mt (min a b) (max a b) then pr + 1 else pr) (mtF mt (min a b) (max a b)) (chgR S (min a b) (max a b) (arcKey (min a b) (max a b)) 1 (lvK sd (arcKey (min a b) (max a b)) + 1)))) → G D X A 0 0 Q ad 67 [some (.ref (ad 0)), some (.int (nI a)), some (.int (nI b)), some (.int (nI (min a b))), some (.int (nI (max a b)))] [] (stW D ad nn kk st sd (ag + 1) tk2 lo2 C2 tg f2 tm2 ky2 ld2 z2 tt2 tq2 nb2 pr mt S) := by
    intro tk2 lo2 C2 f2 tm2 ky2 ld2 z2 tt2 tq2 nb2 Q hQ
    subst hQ
    refine G_aload_n (pc := 67) M dX4_accept_67 rfl ?_
    refine G_getf (pc := 68) M dX4_accept_68 fl_X4_35 rfl (by first | rfl | assumption) ?_
    refine G_iload_n (pc := 71) M dX4_accept_71 rfl ?_
    refine G_iload (pc := 72) M dX4_accept_72 rfl ?_
    refine G_callv (pc := 74) M [12, 13] dX4_accept_74 mv_X4_95 (c_mAccept D _ (fun j => ad (pn [12, 13] j)) pr mt (min a b) (max a b) (by omega) (by omega)) rfl ⟨rfl, rfl, trivial⟩ rfl rfl rfl rfl (Nat.le_of_ble_eq_true rfl) (Nat.le_of_ble_eq_true rfl) (Nat.le_of_ble_eq_true rfl) ⟨Nat.zero_le _, Nat.zero_le _⟩ (fun v c1 hq hlen => ?_)
    obtain ⟨rfl, rfl⟩ := hq
    try dsimp only [sall, List.set, Option.toList, List.cons_append, List.nil_append]
    refine G_aload_n (pc := 77) M dX4_accept_77 rfl ?_
    refine G_getf (pc := 78) M dX4_accept_78 fl_X4_42 rfl (by first | rfl | assumption) ?_
    refine G_iload_n (pc := 81) M dX4_accept_81 rfl ?_
    refine G_iload (pc := 82) M dX4_accept_82 rfl ?_
    refine G_iconst (pc := 84) (v := 1) M dX4_accept_84 (by decide +kernel) ?_
    refine G_callv (pc := 85) M [14, 15] dX4_accept_85 mv_X4_97 (c_changeC D _ (fun j => ad (pn [14, 15] j)) nn sd S (min a b) (max a b) 1 neg1 (by omega) (by omega)) rfl ⟨rfl, rfl, trivial⟩ rfl rfl rfl rfl (Nat.le_of_ble_eq_true rfl) (Nat.le_of_ble_eq_true rfl) (Nat.le_of_ble_eq_true rfl) ⟨Nat.zero_le _, Nat.zero_le _⟩ (fun v c1 hq hlen => ?_)
    obtain ⟨rfl, rfl⟩ := hq
    try dsimp only [sall, List.set, Option.toList, List.cons_append, List.nil_append]
    refine G_pop (pc := 88) M dX4_accept_88 rfl ?_
    refine G_aload_n (pc := 89) M dX4_accept_89 rfl ?_
    refine G_getf (pc := 90) M dX4_accept_90 fl_X4_64 rfl (by first | rfl | assumption) ?_
    exact G_iret M hr dX4_accept_93 rfl ⟨rfl, rfl⟩
  have wk : ∀ {Q1 Q2 : Option Value → List va_E → Prop} {pc : Nat} {lv : List (Option Value)} {st : List Value} {cs : List va_E}, (∀ v c, Q1 v c → Q2 v c) → G D X A 0 0 (GQ D X A ad 16 Q1) ad pc lv st cs → G D X A 0 0 (GQ D X A ad 16 Q2) ad pc lv st cs := G_weak
  refine G_iload_n (pc := 0) M dX4_accept_0 rfl ?_
  refine G_iload_n (pc := 1) M dX4_accept_1 rfl ?_
  refine G_mmin (pc := 2) M dX4_accept_2 mm_X4_77 rfl (Nat.le_of_ble_eq_true rfl) (Nat.le_of_ble_eq_true rfl) (Nat.zero_le _) (Nat.zero_le _) ?_
  rw [mn_nI (by omega) (by omega)]
  refine G_istore_n (pc := 5) M dX4_accept_5 (Nat.le_of_ble_eq_true rfl) ?_
  refine G_iload_n (pc := 6) M dX4_accept_6 rfl ?_
  refine G_iload_n (pc := 7) M dX4_accept_7 rfl ?_
  refine G_mmax (pc := 8) M dX4_accept_8 mm_X4_83 rfl (Nat.le_of_ble_eq_true rfl) (Nat.le_of_ble_eq_true rfl) (Nat.zero_le _) (Nat.zero_le _) ?_
  rw [mx_nI (by omega) (by omega)]
  refine G_istore (pc := 11) M dX4_accept_11 (Nat.le_of_ble_eq_true rfl) ?_
  refine G_aload_n (pc := 13) M dX4_accept_13 rfl ?_
  refine G_dup (pc := 14) M dX4_accept_14 rfl ?_
  refine G_getf (pc := 15) M dX4_accept_15 fl_X4_64 rfl (by first | rfl | assumption) ?_
  refine G_iconst (pc := 18) (v := 1) M dX4_accept_18 (by decide +kernel) ?_
  refine G_iadd (pc := 19) M dX4_accept_19 ?_
  refine G_putfi (pc := 20) M dX4_accept_20 fl_X4_64 rfl (Nat.le_of_ble_eq_true rfl) ?_
  try dsimp only [List.set]
  refine G_aload_n (pc := 23) M dX4_accept_23 rfl ?_
  refine G_getf (pc := 24) M dX4_accept_24 fl_X4_12 rfl (by first | rfl | assumption) ?_
  refine G_iload_n (pc := 27) M dX4_accept_27 rfl ?_
  refine G_callv (pc := 28) M [1, 2, 3] dX4_accept_28 mv_X4_86 (c_cCount D _ (fun j => ad (pn [1, 2, 3] j)) nn kk a tk lo C tg hnn ha) rfl ⟨rfl, rfl, rfl, trivial⟩ rfl rfl rfl rfl (Nat.le_of_ble_eq_true rfl) (Nat.le_of_ble_eq_true rfl) (Nat.le_of_ble_eq_true rfl) ⟨Nat.zero_le _, Nat.zero_le _⟩ (fun v c1 hq hlen => ?_)
  obtain ⟨rfl, rfl⟩ := hq
  try dsimp only [sall, List.set, Option.toList, List.cons_append, List.nil_append]
  refine G_aload_n (pc := 31) M dX4_accept_31 rfl ?_
  refine G_getf (pc := 32) M dX4_accept_32 fl_X4_12 rfl (by first | rfl | assumption) ?_
  refine G_iload_n (pc := 35) M dX4_accept_35 rfl ?_
  refine G_callv (pc := 36) M [1, 2, 3] dX4_accept_36 mv_X4_86 (c_cCount D _ (fun j => ad (pn [1, 2, 3] j)) nn kk b (kT C nn kk tk a) (kL C kk tk lo a) (kC C nn kk tk a) tg hnn hb) rfl ⟨rfl, rfl, rfl, trivial⟩ rfl rfl rfl rfl (Nat.le_of_ble_eq_true rfl) (Nat.le_of_ble_eq_true rfl) (Nat.le_of_ble_eq_true rfl) ⟨Nat.zero_le _, Nat.zero_le _⟩ (fun v c1 hq hlen => ?_)
  obtain ⟨rfl, rfl⟩ := hq
  try dsimp only [sall, List.set, Option.toList, List.cons_append, List.nil_append]
  refine G_aload_n (pc := 39) M dX4_accept_39 rfl ?_
  refine G_getf (pc := 40) M dX4_accept_40 fl_X4_21 rfl (by first | rfl | assumption) ?_
  refine G_iload_n (pc := 43) M dX4_accept_43 rfl ?_
  refine G_iload (pc := 44) M dX4_accept_44 rfl ?_
  refine G_aload_n (pc := 46) M dX4_accept_46 rfl ?_
  refine G_getf (pc := 47) M dX4_accept_47 fl_X4_64 rfl (by first | rfl | assumption) ?_
  refine G_callv (pc := 50) M [4, 5, 6, 7] dX4_accept_50 mv_X4_90 (c_fAccept D _ (fun j => ad (pn [4, 5, 6, 7] j)) fn (min a b) (max a b) ftm fky ld (ag + 1) fu fv hfn (by omega) (by omega) hK) rfl ⟨rfl, rfl, rfl, rfl, trivial⟩ rfl rfl rfl rfl (Nat.le_of_ble_eq_true rfl) (Nat.le_of_ble_eq_true rfl) (Nat.le_of_ble_eq_true rfl) ⟨Nat.zero_le _, Nat.zero_le _⟩ (fun v c1 hq hlen => ?_)
  obtain ⟨rfl, ld2, rfl⟩ := hq
  try dsimp only [sall, List.set, Option.toList, List.cons_append, List.nil_append]
  refine G_aload_n (pc := 53) M dX4_accept_53 rfl ?_
  refine G_getf (pc := 54) M dX4_accept_54 fl_X4_28 rfl (by first | rfl | assumption) ?_
  refine G_iload_n (pc := 57) M dX4_accept_57 rfl ?_
  refine G_iload (pc := 58) M dX4_accept_58 rfl ?_
  refine G_aload_n (pc := 60) M dX4_accept_60 rfl ?_
  refine G_getf (pc := 61) M dX4_accept_61 fl_X4_64 rfl (by first | rfl | assumption) ?_
  refine G_callv (pc := 64) M [8, 9, 10, 11] dX4_accept_64 mv_X4_94 (c_tAccept D _ (fun j => ad (pn [8, 9, 10, 11] j)) nn st z (min a b) (max a b) ttm tky nb (ag + 1) hnn hst hz (by omega) (by omega)) rfl ⟨rfl, rfl, rfl, rfl, trivial⟩ rfl rfl rfl rfl (Nat.le_of_ble_eq_true rfl) (Nat.le_of_ble_eq_true rfl) (Nat.le_of_ble_eq_true rfl) ⟨Nat.zero_le _, Nat.zero_le _⟩ (fun v c1 hq hlen => ?_)
  obtain ⟨rfl, rfl⟩ := hq
  try dsimp only [sall, List.set, Option.toList, List.cons_append, List.nil_append]
  by_cases hd : dst nb nn (max a b) (st + 1) 0 (one (min a b)) (one (min a b)) = -2
  · rw [if_pos hd]
    exact wk (fun v c q => ⟨q.1, ld2, by rw [if_pos hd]; exact q.2⟩) (tail _ _ _ _ _ _ ld2 _ _ _ _ _ rfl)
  · rw [if_neg hd]
    exact wk (fun v c q => ⟨q.1, ld2, by rw [if_neg hd]; exact q.2⟩) (tail _ _ _ _ _ _ ld2 _ _ _ _ _ rfl)
theorem c_isApartFrom (D : DD) (l : Launch) (ad : Nat → Nat) (fs gs : List Value) (nn kk st n2 k2 s2 : Nat) (sd d2 : Int64) (h : nn < 100 ∧ kk < 100 ∧ st < 100 ∧ n2 < 100 ∧ k2 < 100 ∧ s2 < 100) (hf5 : gt fs 5 = some (.int (nI nn))) (hf6 : gt fs 6 = some (.int (nI kk))) (hf7 : gt fs 7 = some (.int (nI st))) (hf8 : gt fs 8 = some (.long sd)) (hg5 : gt gs 5 = some (.int (nI n2))) (hg6 : gt gs 6 = some (.int (nI k2))) (hg7 : gt gs 7 = some (.int (nI s2))) (hg8 : gt gs 8 = some (.long d2)) : Ct D l mi_X4_isApartFrom [.ref (ad 0), .ref (ad 1)] ad [ob 4 fs, ob 4 gs] (fun v c => v = some (.int (bz (!(decide (nn = n2) && decide (kk = k2) && decide (st = s2) && decide (sd = d2))))) ∧ c = [ob 4 fs, ob 4 gs]) := by
  have q1 : nI nn = nI n2 ↔ nn = n2 := nI_eq (by omega) (by omega)
  have q2 : nI kk = nI k2 ↔ kk = k2 := nI_eq (by omega) (by omega)
  have q3 : nI st = nI s2 ↔ st = s2 := nI_eq (by omega) (by omega)
  refine Ct.of (by decide +kernel) (Nat.le_of_ble_eq_true rfl) (fun X A hX M hr => ?_)
  subst hX
  refine G_aload_n (pc := 0) M dX4_isApartFrom_0 rfl ?_
  refine G_getf (pc := 1) M dX4_isApartFrom_1 fl_X4_50 rfl (by first | rfl | assumption) ?_
  refine G_aload_n (pc := 4) M dX4_isApartFrom_4 rfl ?_
  refine G_getf (pc := 5) M dX4_isApartFrom_5 fl_X4_50 rfl (by first | rfl | assumption) ?_
  refine G_icmp_ne (pc := 8) M 45 dX4_isApartFrom_8 (by decide) (fun h8 => ?_) (fun h8 => ?_)
  · rw [q1] at h8
    refine G_iconst (pc := 45) (v := 1) M dX4_isApartFrom_45 (by decide +kernel) ?_
    refine G_goto (pc := 46) M 50 dX4_isApartFrom_46 (by decide) ?_
    exact G_zret M hr dX4_isApartFrom_50 rfl rfl ⟨by simp_all [bz], rfl⟩
  · rw [q1] at h8
    refine G_aload_n (pc := 11) M dX4_isApartFrom_11 rfl ?_
    refine G_getf (pc := 12) M dX4_isApartFrom_12 fl_X4_54 rfl (by first | rfl | assumption) ?_
    refine G_aload_n (pc := 15) M dX4_isApartFrom_15 rfl ?_
    refine G_getf (pc := 16) M dX4_isApartFrom_16 fl_X4_54 rfl (by first | rfl | assumption) ?_
    refine G_icmp_ne (pc := 19) M 45 dX4_isApartFrom_19 (by decide) (fun h19 => ?_) (fun h19 => ?_)
    · rw [q2] at h19
      refine G_iconst (pc := 45) (v := 1) M dX4_isApartFrom_45 (by decide +kernel) ?_
      refine G_goto (pc := 46) M 50 dX4_isApartFrom_46 (by decide) ?_
      exact G_zret M hr dX4_isApartFrom_50 rfl rfl ⟨by simp_all [bz], rfl⟩
    · rw [q2] at h19
      refine G_aload_n (pc := 22) M dX4_isApartFrom_22 rfl ?_
      refine G_getf (pc := 23) M dX4_isApartFrom_23 fl_X4_57 rfl (by first | rfl | assumption) ?_
      refine G_aload_n (pc := 26) M dX4_isApartFrom_26 rfl ?_
      refine G_getf (pc := 27) M dX4_isApartFrom_27 fl_X4_57 rfl (by first | rfl | assumption) ?_
      refine G_icmp_ne (pc := 30) M 45 dX4_isApartFrom_30 (by decide) (fun h30 => ?_) (fun h30 => ?_)
      · rw [q3] at h30
        refine G_iconst (pc := 45) (v := 1) M dX4_isApartFrom_45 (by decide +kernel) ?_
        refine G_goto (pc := 46) M 50 dX4_isApartFrom_46 (by decide) ?_
        exact G_zret M hr dX4_isApartFrom_50 rfl rfl ⟨by simp_all [bz], rfl⟩
      · rw [q3] at h30
        refine G_aload_n (pc := 33) M dX4_isApartFrom_33 rfl ?_
        refine G_getf (pc := 34) M dX4_isApartFrom_34 fl_X4_60 rfl (by first | rfl | assumption) ?_
        refine G_aload_n (pc := 37) M dX4_isApartFrom_37 rfl ?_
        refine G_getf (pc := 38) M dX4_isApartFrom_38 fl_X4_60 rfl (by first | rfl | assumption) ?_
        refine G_lcmp (pc := 41) M dX4_isApartFrom_41 ?_
        refine G_if_eq (pc := 42) M 49 dX4_isApartFrom_42 (by decide) (fun h42 => ?_) (fun h42 => ?_)
        · rw [lg_cmp_eq] at h42
          refine G_iconst (pc := 49) (v := 0) M dX4_isApartFrom_49 (by decide +kernel) ?_
          exact G_zret M hr dX4_isApartFrom_50 rfl rfl ⟨by simp_all [bz], rfl⟩
        · rw [lg_cmp_eq] at h42
          refine G_iconst (pc := 45) (v := 1) M dX4_isApartFrom_45 (by decide +kernel) ?_
          refine G_goto (pc := 46) M 50 dX4_isApartFrom_46 (by decide) ?_
          exact G_zret M hr dX4_isApartFrom_50 rfl rfl ⟨by simp_all [bz], rfl⟩
end
section
--NORM
/-! frames of contracts; StreamCounts: checks -/
theorem Ct.frame {D : DD} {l : Launch} {mi : MI} {As : List Value} {ad : Nat → Nat} {cs wc : List va_E} {Qm : Option Value → List va_E → Prop} (is : List Nat) (hpk : Pk cs is wc) (hnd : va_nd is = true) (h : Ct D l mi As (fun j => ad (pn is j)) wc Qm) : Ct D l mi As ad cs (fun v c => ∃ c1, Qm v c1 ∧ c1.length = wc.length ∧ c = sall cs is c1) := by
  intro sz p e ha hf hc s m args below hfr hap hPc _
  obtain ⟨rfl, hsz, hP, hD, hK, hN⟩ := hPc
  have sub : ∀ q, va_A (wsO (fun j => ad (pn is j)) wc) sz q → va_A (wsO ad cs) sz q := by
    rintro q (⟨k, e, h⟩ | h)
    · rw [wsO_get] at h
      obtain ⟨c, hc, he⟩ := Option.map_eq_some_iff.mp h
      obtain ⟨i, h1, h2, h3⟩ := Pk_get hpk k c hc
      have hq : ad i = q := by rw [← h3]; exact congrArg Prod.fst he
      exact Or.inl ⟨i, c, by rw [wsO_get, h2, ← hq]; rfl⟩
    · exact Or.inr h
  obtain ⟨n, o, h1, h2, h3, ⟨⟨v, c1, e1, e2, e3, e4⟩, hz, hk⟩, L, hFE, hL⟩ := h sz p e ha hf hc s m _ below hfr hap ⟨rfl, hsz, call_P hpk hP, call_D hpk hnd hD (fun _ _ => trivial), hK, hN⟩ trivial
  have hb := call_back (A := fun _ => True) (H1 := (stepsAlone p.tables e n s).heap) hpk hnd hP hD e3 (fun q hq hna => hk q hq (by rw [← hsz]; exact hna)) e4
  exact ⟨n, o, h1, h2, h3, ⟨⟨v, sall cs is c1, e1, ⟨c1, e2, e3, rfl⟩, sall_len cs is c1, hb.1⟩, hz, fun q hq hna => hk q hq (fun z => hna (sub q z))⟩, L, hFE, fun q hq => sub _ (hL q hq)⟩
theorem Ct.weak {D : DD} {l : Launch} {mi : MI} {As : List Value} {ad : Nat → Nat} {cs : List va_E} {Q1 Q2 : Option Value → List va_E → Prop} (hq : ∀ v c, Q1 v c → Q2 v c) (h : Ct D l mi As ad cs Q1) : Ct D l mi As ad cs Q2 := by
  intro sz p e ha hf hc s m args below hfr hap hPc _
  obtain ⟨n, o, h1, h2, h3, ⟨⟨v, c1, e1, e2, e3⟩, hz⟩, r⟩ := h sz p e ha hf hc s m args below hfr hap hPc trivial
  exact ⟨n, o, h1, h2, h3, ⟨⟨v, c1, e1, hq v c1 e2, e3⟩, hz⟩, r⟩
theorem c_noNode (D : DD) (l : Launch) (ad : Nat → Nat) (gs fs : List Value) (f : Nat → Option Nat) (nd : Nat → Int32) (s a : Int32) (hg0 : gt gs 0 = some (.ref (ad 1))) (hf : okS s = true → f s.toNatClampNeg = some (ad 2)) (hf5 : gt fs 5 = some (.int (nd s.toNatClampNeg))) : Ct D l mi_X6_noNode [.ref (ad 0), .int s, .int a] ad [ob 6 gs, qa D 3 f, ob 4 fs] (fun v c => v = some (.int (bz (!okN nd s a))) ∧ c = [ob 6 gs, qa D 3 f, ob 4 fs]) := by
  refine Ct.of (by decide +kernel) (Nat.le_of_ble_eq_true rfl) (fun X A hX M hr => ?_)
  subst hX
  refine G_iload_n (pc := 0) M dX6_noNode_0 rfl ?_
  refine G_calls (pc := 1) M [] dX6_noNode_1 ms_X6_20 (c_noStream D _ (fun j => ad (pn [] j)) s) trivial rfl rfl rfl rfl (Nat.le_of_ble_eq_true rfl) (Nat.le_of_ble_eq_true rfl) (Nat.le_of_ble_eq_true rfl) ⟨Nat.zero_le _, Nat.zero_le _⟩ (fun v c1 hq hlen => ?_)
  obtain ⟨rfl, rfl⟩ := hq
  try dsimp only [sall, List.set, Option.toList, List.cons_append, List.nil_append]
  refine G_if_ne (pc := 4) M 24 dX6_noNode_4 (by decide) (fun h4 => ?_) (fun h4 => ?_)
  · have h4b : okS s = false := by simpa using bz1 h4
    refine G_iconst (pc := 24) (v := 1) M dX6_noNode_24 (by decide +kernel) ?_
    refine G_goto (pc := 25) M 29 dX6_noNode_25 (by decide) ?_
    exact G_zret M hr dX6_noNode_29 rfl rfl ⟨by simp [okN, bz, *], rfl⟩
  · have h4b : okS s = true := by simpa using bz0 (b := !okS s) (by simpa using h4)
    refine G_iload_n (pc := 7) M dX6_noNode_7 rfl ?_
    refine G_if_lt (pc := 8) M 24 dX6_noNode_8 (by decide) (fun h8 => ?_) (fun h8 => ?_)
    · refine G_iconst (pc := 24) (v := 1) M dX6_noNode_24 (by decide +kernel) ?_
      refine G_goto (pc := 25) M 29 dX6_noNode_25 (by decide) ?_
      exact G_zret M hr dX6_noNode_29 rfl rfl ⟨by simp [okN, bz, *], rfl⟩
    · refine G_iload_n (pc := 11) M dX6_noNode_11 rfl ?_
      refine G_aload_n (pc := 12) M dX6_noNode_12 rfl ?_
      refine G_getf (pc := 13) M dX6_noNode_13 fl_X6_11 rfl (by first | rfl | assumption) ?_
      refine G_iload_n (pc := 16) M dX6_noNode_16 rfl ?_
      refine G_aaload (pc := 17) M dX6_noNode_17 rfl (vp3 h4b) (hf h4b) ?_
      refine G_getf (pc := 18) M dX6_noNode_18 fl_X6_108 rfl (by first | rfl | assumption) ?_
      refine G_icmp_lt (pc := 21) M 28 dX6_noNode_21 (by decide) (fun h21 => ?_) (fun h21 => ?_)
      · have h21b := Int32.not_le.mpr h21
        refine G_iconst (pc := 28) (v := 0) M dX6_noNode_28 (by decide +kernel) ?_
        exact G_zret M hr dX6_noNode_29 rfl rfl ⟨by simp [okN, bz, *], rfl⟩
      · have h21b := Int32.not_lt.mp h21
        refine G_iconst (pc := 24) (v := 1) M dX6_noNode_24 (by decide +kernel) ?_
        refine G_goto (pc := 25) M 29 dX6_noNode_25 (by decide) ?_
        exact G_zret M hr dX6_noNode_29 rfl rfl ⟨by simp [okN, bz, *], rfl⟩
theorem c_noArc (D : DD) (l : Launch) (ad : Nat → Nat) (gs fs : List Value) (f : Nat → Option Nat) (nd : Nat → Int32) (s a b : Int32) (hg0 : gt gs 0 = some (.ref (ad 1))) (hf : okS s = true → f s.toNatClampNeg = some (ad 2)) (hf5 : gt fs 5 = some (.int (nd s.toNatClampNeg))) : Ct D l mi_X6_noArc [.ref (ad 0), .int s, .int a, .int b] ad [ob 6 gs, qa D 3 f, ob 4 fs] (fun v c => v = some (.int (bz (!(okN nd s a && okN nd s b && !decide (a = b))))) ∧ c = [ob 6 gs, qa D 3 f, ob 4 fs]) := by
  refine Ct.of (by decide +kernel) (Nat.le_of_ble_eq_true rfl) (fun X A hX M hr => ?_)
  subst hX
  refine G_aload_n (pc := 0) M dX6_noArc_0 rfl ?_
  refine G_iload_n (pc := 1) M dX6_noArc_1 rfl ?_
  refine G_iload_n (pc := 2) M dX6_noArc_2 rfl ?_
  refine G_callv (pc := 3) M [0, 1, 2] dX6_noArc_3 mv_X6_117 (c_noNode D _ (fun j => ad (pn [0, 1, 2] j)) gs fs f nd s a hg0 hf hf5) rfl ⟨rfl, rfl, rfl, trivial⟩ rfl rfl rfl rfl (Nat.le_of_ble_eq_true rfl) (Nat.le_of_ble_eq_true rfl) (Nat.le_of_ble_eq_true rfl) ⟨Nat.zero_le _, Nat.zero_le _⟩ (fun v c1 hq hlen => ?_)
  obtain ⟨rfl, rfl⟩ := hq
  try dsimp only [sall, List.set, Option.toList, List.cons_append, List.nil_append]
  refine G_if_ne (pc := 6) M 23 dX6_noArc_6 (by decide) (fun h6 => ?_) (fun h6 => ?_)
  · have h6b : okN nd s a = false := by simpa using bz1 h6
    refine G_iconst (pc := 23) (v := 1) M dX6_noArc_23 (by decide +kernel) ?_
    refine G_goto (pc := 24) M 28 dX6_noArc_24 (by decide) ?_
    exact G_zret M hr dX6_noArc_28 rfl rfl ⟨by simp_all [bz], rfl⟩
  · have h6b : okN nd s a = true := by simpa using bz0 (b := !okN nd s a) (by simpa using h6)
    refine G_aload_n (pc := 9) M dX6_noArc_9 rfl ?_
    refine G_iload_n (pc := 10) M dX6_noArc_10 rfl ?_
    refine G_iload_n (pc := 11) M dX6_noArc_11 rfl ?_
    refine G_callv (pc := 12) M [0, 1, 2] dX6_noArc_12 mv_X6_117 (c_noNode D _ (fun j => ad (pn [0, 1, 2] j)) gs fs f nd s b hg0 hf hf5) rfl ⟨rfl, rfl, rfl, trivial⟩ rfl rfl rfl rfl (Nat.le_of_ble_eq_true rfl) (Nat.le_of_ble_eq_true rfl) (Nat.le_of_ble_eq_true rfl) ⟨Nat.zero_le _, Nat.zero_le _⟩ (fun v c1 hq hlen => ?_)
    obtain ⟨rfl, rfl⟩ := hq
    try dsimp only [sall, List.set, Option.toList, List.cons_append, List.nil_append]
    refine G_if_ne (pc := 15) M 23 dX6_noArc_15 (by decide) (fun h15 => ?_) (fun h15 => ?_)
    · have h15b : okN nd s b = false := by simpa using bz1 h15
      refine G_iconst (pc := 23) (v := 1) M dX6_noArc_23 (by decide +kernel) ?_
      refine G_goto (pc := 24) M 28 dX6_noArc_24 (by decide) ?_
      exact G_zret M hr dX6_noArc_28 rfl rfl ⟨by simp_all [bz], rfl⟩
    · have h15b : okN nd s b = true := by simpa using bz0 (b := !okN nd s b) (by simpa using h15)
      refine G_iload_n (pc := 18) M dX6_noArc_18 rfl ?_
      refine G_iload_n (pc := 19) M dX6_noArc_19 rfl ?_
      refine G_icmp_ne (pc := 20) M 27 dX6_noArc_20 (by decide) (fun h20 => ?_) (fun h20 => ?_)
      · refine G_iconst (pc := 27) (v := 0) M dX6_noArc_27 (by decide +kernel) ?_
        exact G_zret M hr dX6_noArc_28 rfl rfl ⟨by simp_all [bz], rfl⟩
      · refine G_iconst (pc := 23) (v := 1) M dX6_noArc_23 (by decide +kernel) ?_
        refine G_goto (pc := 24) M 28 dX6_noArc_24 (by decide) ?_
        exact G_zret M hr dX6_noArc_28 rfl rfl ⟨by simp_all [bz], rfl⟩
def okT (t : Int32) : Bool := decide (t = 1) || decide (t = 3) || decide (t = 5) || decide (t = 7)
theorem okT_nI : ∀ k, k < 8 → (decide ((nI k &&& 1) = 1) = okT (nI k)) := by decide +kernel
theorem c_isStretch (D : DD) (l : Launch) (ad : Nat → Nat) (t : Int32) : Ct D l mi_X6_isStretch [.int t] ad [] (fun v c => v = some (.int (bz (okT t))) ∧ c = []) := by
  refine Ct.of (by decide +kernel) (Nat.le_of_ble_eq_true rfl) (fun X A hX M hr => ?_)
  subst hX
  refine G_iload_n (pc := 0) M dX6_isStretch_0 rfl ?_
  refine G_iconst (pc := 1) (v := 1) M dX6_isStretch_1 (by decide +kernel) ?_
  refine G_icmp_lt (pc := 2) M 22 dX6_isStretch_2 (by decide) (fun h2 => ?_) (fun h2 => ?_)
  · have e : okT t = false := by
      have := Int32.lt_iff_toInt_lt.mp h2
      have e1 : (1 : Int32).toInt = 1 := rfl
      simp only [okT, Bool.or_eq_false_iff, decide_eq_false_iff_not]
      refine ⟨⟨⟨?_, ?_⟩, ?_⟩, ?_⟩ <;> (intro q; subst q; revert this; decide)
    refine G_iconst (pc := 22) (v := 0) M dX6_isStretch_22 (by decide +kernel) ?_
    exact G_zret M hr dX6_isStretch_23 rfl rfl ⟨by rw [e]; rfl, rfl⟩
  · refine G_iload_n (pc := 5) M dX6_isStretch_5 rfl ?_
    refine G_bipush (pc := 6) (v := 7) M dX6_isStretch_6 (by decide +kernel) ?_
    refine G_icmp_gt (pc := 8) M 22 dX6_isStretch_8 (by decide) (fun h8 => ?_) (fun h8 => ?_)
    · have e : okT t = false := by
        have := Int32.lt_iff_toInt_lt.mp h8
        simp only [okT, Bool.or_eq_false_iff, decide_eq_false_iff_not]
        refine ⟨⟨⟨?_, ?_⟩, ?_⟩, ?_⟩ <;> (intro q; subst q; revert this; decide)
      refine G_iconst (pc := 22) (v := 0) M dX6_isStretch_22 (by decide +kernel) ?_
      exact G_zret M hr dX6_isStretch_23 rfl rfl ⟨by rw [e]; rfl, rfl⟩
    · have hb : ∃ k, k < 8 ∧ t = nI k := by
        have e1 : (1 : Int32).toInt = 1 := rfl
        obtain ⟨j, hj, e⟩ := nI_of2 (x := t) (M := 7) (n := 7) rfl (fun q => h2 (by
          have := Int32.lt_iff_toInt_lt.mp q
          rw [Int32.lt_iff_toInt_lt]
          have e0 : (0 : Int32).toInt = 0 := rfl
          omega)) (Int32.not_lt.mp h8)
        exact ⟨j, by omega, e⟩
      obtain ⟨k, hk, rfl⟩ := hb
      have ek := okT_nI k hk
      refine G_iload_n (pc := 11) M dX6_isStretch_11 rfl ?_
      refine G_iconst (pc := 12) (v := 1) M dX6_isStretch_12 (by decide +kernel) ?_
      refine G_iand (pc := 13) M dX6_isStretch_13 ?_
      refine G_iconst (pc := 14) (v := 1) M dX6_isStretch_14 (by decide +kernel) ?_
      refine G_icmp_ne (pc := 15) M 22 dX6_isStretch_15 (by decide) (fun h15 => ?_) (fun h15 => ?_)
      · have e : okT (nI k) = false := by rw [← ek]; simpa using h15
        refine G_iconst (pc := 22) (v := 0) M dX6_isStretch_22 (by decide +kernel) ?_
        exact G_zret M hr dX6_isStretch_23 rfl rfl ⟨by rw [e]; rfl, rfl⟩
      · have e : okT (nI k) = true := by rw [← ek]; simpa using h15
        refine G_iconst (pc := 18) (v := 1) M dX6_isStretch_18 (by decide +kernel) ?_
        refine G_goto (pc := 19) M 23 dX6_isStretch_19 (by decide) ?_
        exact G_zret M hr dX6_isStretch_23 rfl rfl ⟨by rw [e]; rfl, rfl⟩
end
section
--NORM
/-! StreamCounts: a stream's numbers, the calls that only read -/
abbrev SP : Type := Nat × Nat × Nat × Int64 × Int32 × Int32 × Int32 × (Nat → Int32) × (Nat → Int32) × Nat × (Nat → Int32) × (Nat → Int32) × (Nat → Int32) × Nat × (Nat → Int32) × (Nat → Int32) × (Nat → Int64) × Int32 × (Nat → Int32) × (Nat → Int64)
abbrev sNn (P : SP) : Nat := P.1
abbrev sKk (P : SP) : Nat := P.2.1
abbrev sSt (P : SP) : Nat := P.2.2.1
abbrev sSd (P : SP) : Int64 := P.2.2.2.1
abbrev sAg (P : SP) : Int32 := P.2.2.2.2.1
abbrev sTk (P : SP) : Int32 := P.2.2.2.2.2.1
abbrev sLo (P : SP) : Int32 := P.2.2.2.2.2.2.1
abbrev sC (P : SP) : Nat → Int32 := P.2.2.2.2.2.2.2.1
abbrev sTg (P : SP) : Nat → Int32 := P.2.2.2.2.2.2.2.2.1
abbrev sFn (P : SP) : Nat := P.2.2.2.2.2.2.2.2.2.1
abbrev sFt (P : SP) : Nat → Int32 := P.2.2.2.2.2.2.2.2.2.2.1
abbrev sFk (P : SP) : Nat → Int32 := P.2.2.2.2.2.2.2.2.2.2.2.1
abbrev sLd (P : SP) : Nat → Int32 := P.2.2.2.2.2.2.2.2.2.2.2.2.1
abbrev sZ (P : SP) : Nat := P.2.2.2.2.2.2.2.2.2.2.2.2.2.1
abbrev sTt (P : SP) : Nat → Int32 := P.2.2.2.2.2.2.2.2.2.2.2.2.2.2.1
abbrev sTq (P : SP) : Nat → Int32 := P.2.2.2.2.2.2.2.2.2.2.2.2.2.2.2.1
abbrev sNb (P : SP) : Nat → Int64 := P.2.2.2.2.2.2.2.2.2.2.2.2.2.2.2.2.1
abbrev sPr (P : SP) : Int32 := P.2.2.2.2.2.2.2.2.2.2.2.2.2.2.2.2.2.1
abbrev sMt (P : SP) : Nat → Int32 := P.2.2.2.2.2.2.2.2.2.2.2.2.2.2.2.2.2.2.1
abbrev sS (P : SP) : Nat → Int64 := P.2.2.2.2.2.2.2.2.2.2.2.2.2.2.2.2.2.2.2
abbrev scX (D : DD) (ad : Nat → Nat) (lev : Int32) (f : Nat → Option Nat) (xNn : Nat) (xKk : Nat) (xSt : Nat) (xSd : Int64) (xAg : Int32) (xTk : Int32) (xLo : Int32) (xC : Nat → Int32) (xTg : Nat → Int32) (xFn : Nat) (xFt : Nat → Int32) (xFk : Nat → Int32) (xLd : Nat → Int32) (xZ : Nat) (xTt : Nat → Int32) (xTq : Nat → Int32) (xNb : Nat → Int64) (xPr : Int32) (xMt : Nat → Int32) (xS : Nat → Int64) : List va_E :=
  [ob 6 [.ref (ad 1), .int lev], qa D 3 f, ob 4 [.ref (ad 3), .ref (ad 6), .ref (ad 10), .ref (ad 14), .ref (ad 16), .int (nI xNn), .int (nI xKk), .int (nI xSt), .long xSd, .int xAg], ob 0 [.ref (ad 4), .ref (ad 5), .int (nI xNn), .int (nI xKk), .int xTk, .int xLo], ia D 64 xC, ia D 64 xTg, ob 1 [.ref (ad 7), .ref (ad 8), .ref (ad 9), .int (nI xFn)], ia D 64 xFt, ia D 64 xFk, ia D 64 xLd, ob 5 [.ref (ad 11), .ref (ad 12), .ref (ad 13), .int (nI xNn), .int (nI xSt), .int (nI xZ)], ia D 512 xTt, ia D 512 xTq, la D 64 xNb, ob 2 [.ref (ad 15), .int xPr], ia D 64 xMt, ob 3 [.ref (ad 17), .int (nI xNn), .long xSd], la D 1920 xS]
abbrev scW (D : DD) (ad : Nat → Nat) (lev : Int32) (f : Nat → Option Nat) (P : SP) : List va_E := scX D ad lev f (sNn P) (sKk P) (sSt P) (sSd P) (sAg P) (sTk P) (sLo P) (sC P) (sTg P) (sFn P) (sFt P) (sFk P) (sLd P) (sZ P) (sTt P) (sTq P) (sNb P) (sPr P) (sMt P) (sS P)
theorem scW_mk (D : DD) (ad : Nat → Nat) (lev : Int32) (f : Nat → Option Nat) (xNn : Nat) (xKk : Nat) (xSt : Nat) (xSd : Int64) (xAg : Int32) (xTk : Int32) (xLo : Int32) (xC : Nat → Int32) (xTg : Nat → Int32) (xFn : Nat) (xFt : Nat → Int32) (xFk : Nat → Int32) (xLd : Nat → Int32) (xZ : Nat) (xTt : Nat → Int32) (xTq : Nat → Int32) (xNb : Nat → Int64) (xPr : Int32) (xMt : Nat → Int32) (xS : Nat → Int64) : scX D ad lev f xNn xKk xSt xSd xAg xTk xLo xC xTg xFn xFt xFk xLd xZ xTt xTq xNb xPr xMt xS = scW D ad lev f (xNn, xKk, xSt, xSd, xAg, xTk, xLo, xC, xTg, xFn, xFt, xFk, xLd, xZ, xTt, xTq, xNb, xPr, xMt, xS) := rfl
/-- the answer, the world unchanged -/
abbrev scQ (D : DD) (ad : Nat → Nat) (lev : Int32) (f : Nat → Option Nat) (P : SP) (r : Int32) : Option Value → List va_E → Prop := fun v c => v = some (.int r) ∧ c = scW D ad lev f P
theorem okN_of {nd : Nat → Int32} {s a : Int32} {nn : Nat} (h : okN nd s a = true) (hnd : nd s.toNatClampNeg = nI nn) (hn : nn ≤ 64) : ∃ i k : Nat, i < 3 ∧ s = nI i ∧ k < nn ∧ a = nI k := by
  simp only [okN, Bool.and_eq_true, Bool.not_eq_true', decide_eq_false_iff_not] at h
  obtain ⟨⟨h1, h2⟩, h3⟩ := h
  obtain ⟨i, hi, e⟩ := okS_of h1
  obtain ⟨k, hk, e2⟩ := nI_of h2
  rw [hnd, e2] at h3
  exact ⟨i, k, hi, e, Nat.lt_of_not_le (fun q => h3 (nI_le q (by omega))), e2⟩
def toldC (P : SP) (w : Int32) : Int32 := if w = 0 then sAg P else if w = 1 then sTk P else if w = 2 then sLo P else if w = 3 then nI (sFn P) else if w = 4 then nI (sZ P) else if w = 5 then sPr P else if w = 6 then nI (sNn P) else if w = 7 then nI (sKk P) else if w = 8 then nI (sSt P) else -1
theorem w_cases (w : Int32) : (w = 0 ∨ w = 1 ∨ w = 2 ∨ w = 3 ∨ w = 4 ∨ w = 5 ∨ w = 6 ∨ w = 7 ∨ w = 8) ∨ (w.toInt < 0 ∨ 8 < w.toInt) := by
  by_cases h : w.toInt < 0 ∨ 8 < w.toInt
  · exact Or.inr h
  · left
    have e : w = nI w.toInt.toNat := by
      apply Int32.toInt_inj.mp
      rw [nI_toInt (by omega)]
      omega
    have : w.toInt.toNat < 9 := by omega
    rw [e]
    generalize w.toInt.toNat = k at this
    have key : ∀ k, k < 9 → (nI k = 0 ∨ nI k = 1 ∨ nI k = 2 ∨ nI k = 3 ∨ nI k = 4 ∨ nI k = 5 ∨ nI k = 6 ∨ nI k = 7 ∨ nI k = 8) := by decide +kernel
    exact key k this
theorem c_told (D : DD) (l : Launch) (ad : Nat → Nat) (lev : Int32) (f : Nat → Option Nat) (P : SP) (s w : Int32) (hf : okS s = true → f s.toNatClampNeg = some (ad 2)) : Ct D l mi_X6_told [.ref (ad 0), .int s, .int w] ad (scW D ad lev f P) (scQ D ad lev f P (bif okS s then toldC P w else -1)) := by
  refine Ct.of (by decide +kernel) (Nat.le_of_ble_eq_true rfl) (fun X A hX M hr => ?_)
  subst hX
  have sw : ∀ (k t : Nat) (off : Int) (r : Int32), okS s = true → #[51, 56, 64, 72, 80, 88, 96, 101, 106][k]? = some off → (17 : Int) + off = (t : Int) → w.toInt = k → k ≤ 8 → G D X A 0 0 (GQ D X A ad 18 (scQ D ad lev f P r)) ad t [some (.ref (ad 0)), some (.int s), some (.int w), some (.ref (ad 2))] [] (scW D ad lev f P) → G D X A 0 0 (GQ D X A ad 18 (scQ D ad lev f P r)) ad 17 [some (.ref (ad 0)), some (.int s), some (.int w), some (.ref (ad 2))] [.int w] (scW D ad lev f P) := by
    intro k t off r _ h1 h2 h3 h4 h5
    refine G_tableIn (pc := 17) M t dX6_told_17 (by omega) (by omega) ?_ h2 h5
    rw [h3, show ((k : Int) - 0).toNat = k by omega]
    exact h1
  refine G_iload_n (pc := 0) M dX6_told_0 rfl ?_
  refine G_calls (pc := 1) M [] dX6_told_1 ms_X6_20 (c_noStream D _ (fun j => ad (pn [] j)) s) trivial rfl rfl rfl rfl (Nat.le_of_ble_eq_true rfl) (Nat.le_of_ble_eq_true rfl) (Nat.le_of_ble_eq_true rfl) ⟨Nat.zero_le _, Nat.zero_le _⟩ (fun v c1 hq hlen => ?_)
  obtain ⟨rfl, rfl⟩ := hq
  try dsimp only [sall, List.set, Option.toList, List.cons_append, List.nil_append]
  refine G_if_eq (pc := 4) M 9 dX6_told_4 (by decide) (fun h4 => ?_) (fun h4 => ?_)
  · have hs : okS s = true := by simpa using bz0 h4
    rw [hs]
    refine G_aload_n (pc := 9) M dX6_told_9 rfl ?_
    refine G_getf (pc := 10) M dX6_told_10 fl_X6_11 rfl (by first | rfl | assumption) ?_
    refine G_iload_n (pc := 13) M dX6_told_13 rfl ?_
    refine G_aaload (pc := 14) M dX6_told_14 rfl (vp3 hs) (hf hs) ?_
    refine G_astore_n (pc := 15) M dX6_told_15 (Nat.le_of_ble_eq_true rfl) ?_
    refine G_iload_n (pc := 16) M dX6_told_16 rfl ?_
    rcases w_cases w with (rfl | rfl | rfl | rfl | rfl | rfl | rfl | rfl | rfl) | hw
    · refine sw 0 68 51 _ hs rfl rfl rfl (by omega) ?_
      refine G_aload_n (pc := 68) M dX6_told_68 rfl ?_
      refine G_getf (pc := 69) M dX6_told_69 fl_X6_27 rfl (by first | rfl | assumption) ?_
      exact G_iret M hr dX6_told_72 rfl ⟨rfl, rfl⟩
    · refine sw 1 73 56 _ hs rfl rfl rfl (by omega) ?_
      refine G_aload_n (pc := 73) M dX6_told_73 rfl ?_
      refine G_getr (pc := 74) M dX6_told_74 fl_X6_64 rfl (by first | rfl | assumption) ?_
      refine G_getf (pc := 77) M dX6_told_77 fl_X6_77 rfl (by first | rfl | assumption) ?_
      exact G_iret M hr dX6_told_80 rfl ⟨rfl, rfl⟩
    · refine sw 2 81 64 _ hs rfl rfl rfl (by omega) ?_
      refine G_aload_n (pc := 81) M dX6_told_81 rfl ?_
      refine G_getr (pc := 82) M dX6_told_82 fl_X6_64 rfl (by first | rfl | assumption) ?_
      refine G_getf (pc := 85) M dX6_told_85 fl_X6_80 rfl (by first | rfl | assumption) ?_
      exact G_iret M hr dX6_told_88 rfl ⟨rfl, rfl⟩
    · refine sw 3 89 72 _ hs rfl rfl rfl (by omega) ?_
      refine G_aload_n (pc := 89) M dX6_told_89 rfl ?_
      refine G_getr (pc := 90) M dX6_told_90 fl_X6_83 rfl (by first | rfl | assumption) ?_
      refine G_getf (pc := 93) M dX6_told_93 fl_X6_87 rfl (by first | rfl | assumption) ?_
      exact G_iret M hr dX6_told_96 rfl ⟨rfl, rfl⟩
    · refine sw 4 97 80 _ hs rfl rfl rfl (by omega) ?_
      refine G_aload_n (pc := 97) M dX6_told_97 rfl ?_
      refine G_getr (pc := 98) M dX6_told_98 fl_X6_92 rfl (by first | rfl | assumption) ?_
      refine G_getf (pc := 101) M dX6_told_101 fl_X6_96 rfl (by first | rfl | assumption) ?_
      exact G_iret M hr dX6_told_104 rfl ⟨rfl, rfl⟩
    · refine sw 5 105 88 _ hs rfl rfl rfl (by omega) ?_
      refine G_aload_n (pc := 105) M dX6_told_105 rfl ?_
      refine G_getr (pc := 106) M dX6_told_106 fl_X6_99 rfl (by first | rfl | assumption) ?_
      refine G_getf (pc := 109) M dX6_told_109 fl_X6_103 rfl (by first | rfl | assumption) ?_
      exact G_iret M hr dX6_told_112 rfl ⟨rfl, rfl⟩
    · refine sw 6 113 96 _ hs rfl rfl rfl (by omega) ?_
      refine G_aload_n (pc := 113) M dX6_told_113 rfl ?_
      refine G_getf (pc := 114) M dX6_told_114 fl_X6_108 rfl (by first | rfl | assumption) ?_
      exact G_iret M hr dX6_told_117 rfl ⟨rfl, rfl⟩
    · refine sw 7 118 101 _ hs rfl rfl rfl (by omega) ?_
      refine G_aload_n (pc := 118) M dX6_told_118 rfl ?_
      refine G_getf (pc := 119) M dX6_told_119 fl_X6_111 rfl (by first | rfl | assumption) ?_
      exact G_iret M hr dX6_told_122 rfl ⟨rfl, rfl⟩
    · refine sw 8 123 106 _ hs rfl rfl rfl (by omega) ?_
      refine G_aload_n (pc := 123) M dX6_told_123 rfl ?_
      refine G_getf (pc := 124) M dX6_told_124 fl_X6_114 rfl (by first | rfl | assumption) ?_
      exact G_iret M hr dX6_told_127 rfl ⟨rfl, rfl⟩
    · refine G_tableOut (pc := 17) M 128 dX6_told_17 hw rfl ?_
      have e : toldC P w = -1 := by
        have q : ∀ k : Int32, (0 ≤ k.toInt ∧ k.toInt ≤ 8) → ¬ w = k := fun k hk z => by subst z; omega
        simp only [toldC, q 0 (by decide), q 1 (by decide), q 2 (by decide), q 3 (by decide), q 4 (by decide), q 5 (by decide), q 6 (by decide), q 7 (by decide), q 8 (by decide), if_false]
      rw [e]
      refine G_iconst (pc := 128) (v := -1) M dX6_told_128 (by decide +kernel) ?_
      exact G_iret M hr dX6_told_129 rfl ⟨rfl, rfl⟩
  · have hs : okS s = false := by simpa using bz1 h4
    rw [hs]
    refine G_iconst (pc := 7) (v := -1) M dX6_told_7 (by decide +kernel) ?_
    exact G_iret M hr dX6_told_8 rfl ⟨rfl, rfl⟩
end
section
--NORM
/-! StreamCounts: more calls that only read (the leaders' row is scratch) -/
abbrev sSetLd (P : SP) (x : Nat → Int32) : SP := (sNn P, sKk P, sSt P, sSd P, sAg P, sTk P, sLo P, sC P, sTg P, sFn P, sFt P, sFk P, x, sZ P, sTt P, sTq P, sNb P, sPr P, sMt P, sS P)
theorem okN_in {nd : Nat → Int32} {s a : Int32} {nn : Nat} (h : okN nd s a = true) (hnd : nd s.toNatClampNeg = nI nn) (hn : nn ≤ 64) : vp_in a 64 := by
  obtain ⟨i, k, -, -, hk, rfl⟩ := okN_of h hnd hn
  exact vp_in_nI (by omega) (by omega)
theorem okN_s {nd : Nat → Int32} {s a : Int32} (h : okN nd s a = true) : okS s = true := by
  simp only [okN, Bool.and_eq_true] at h
  exact h.1.1
def rng (lo hi x : Int32) : Bool := !decide (x < lo) && !decide (hi < x)
theorem rng_f1 {lo hi x : Int32} (h : x < lo) : rng lo hi x = false := by simp [rng, h]
theorem rng_f2 {lo hi x : Int32} (h : ¬ x ≤ hi) : rng lo hi x = false := by simp [rng, Int32.not_le.mp h]
theorem rng_t {lo hi x : Int32} (h1 : ¬ x < lo) (h2 : x ≤ hi) : rng lo hi x = true := by simp [rng, h1, Int32.not_lt.mpr h2]
def spanC (P : SP) (a e : Int32) : Int32 := if e = 0 then sC P a.toNatClampNeg else sC P a.toNatClampNeg + sLo P
theorem c_span (D : DD) (l : Launch) (ad : Nat → Nat) (lev : Int32) (f : Nat → Option Nat) (P : SP) (nd : Nat → Int32) (s a e : Int32) (hf : okS s = true → f s.toNatClampNeg = some (ad 2)) (hnd : nd s.toNatClampNeg = nI (sNn P)) (hn : sNn P ≤ 64) : Ct D l mi_X6_span [.ref (ad 0), .int s, .int a, .int e] ad (scW D ad lev f P) (scQ D ad lev f P (bif okN nd s a && rng 0 1 e then spanC P a e else -1)) := by
  refine Ct.of (by decide +kernel) (Nat.le_of_ble_eq_true rfl) (fun X A hX M hr => ?_)
  subst hX
  refine G_aload_n (pc := 0) M dX6_span_0 rfl ?_
  refine G_iload_n (pc := 1) M dX6_span_1 rfl ?_
  refine G_iload_n (pc := 2) M dX6_span_2 rfl ?_
  refine G_callv (pc := 3) M [0, 1, 2] dX6_span_3 mv_X6_117 (c_noNode D _ (fun j => ad (pn [0, 1, 2] j)) _ _ f nd s a rfl hf (by rw [hnd]; rfl)) rfl ⟨rfl, rfl, rfl, trivial⟩ rfl rfl rfl rfl (Nat.le_of_ble_eq_true rfl) (Nat.le_of_ble_eq_true rfl) (Nat.le_of_ble_eq_true rfl) ⟨Nat.zero_le _, Nat.zero_le _⟩ (fun v c1 hq hlen => ?_)
  obtain ⟨rfl, rfl⟩ := hq
  try dsimp only [sall, List.set, Option.toList, List.cons_append, List.nil_append]
  refine G_if_ne (pc := 6) M 18 dX6_span_6 (by decide) (fun h6 => ?_) (fun h6 => ?_)
  · have h6b : okN nd s a = false := by simpa using bz1 h6
    rw [h6b]
    refine G_iconst (pc := 18) (v := -1) M dX6_span_18 (by decide +kernel) ?_
    exact G_iret M hr dX6_span_19 rfl ⟨rfl, rfl⟩
  · have h6b : okN nd s a = true := by simpa using bz0 (b := !okN nd s a) (by simpa using h6)
    have hs := okN_s h6b
    have ha := okN_in h6b hnd hn
    rw [h6b]
    refine G_iload_n (pc := 9) M dX6_span_9 rfl ?_
    refine G_if_lt (pc := 10) M 18 dX6_span_10 (by decide) (fun h10 => ?_) (fun h10 => ?_)
    · rw [rng_f1 h10]
      refine G_iconst (pc := 18) (v := -1) M dX6_span_18 (by decide +kernel) ?_
      exact G_iret M hr dX6_span_19 rfl ⟨rfl, rfl⟩
    · refine G_iload_n (pc := 13) M dX6_span_13 rfl ?_
      refine G_iconst (pc := 14) (v := 1) M dX6_span_14 (by decide +kernel) ?_
      refine G_icmp_le (pc := 15) M 20 dX6_span_15 (by decide) (fun h15 => ?_) (fun h15 => ?_)
      · rw [rng_t h10 h15]
        refine G_aload_n (pc := 20) M dX6_span_20 rfl ?_
        refine G_getf (pc := 21) M dX6_span_21 fl_X6_11 rfl (by first | rfl | assumption) ?_
        refine G_iload_n (pc := 24) M dX6_span_24 rfl ?_
        refine G_aaload (pc := 25) M dX6_span_25 rfl (vp3 hs) (hf hs) ?_
        refine G_getr (pc := 26) M dX6_span_26 fl_X6_64 rfl (by first | rfl | assumption) ?_
        refine G_astore (pc := 29) M dX6_span_29 (Nat.le_of_ble_eq_true rfl) ?_
        refine G_iload_n (pc := 31) M dX6_span_31 rfl ?_
        refine G_if_ne (pc := 32) M 45 dX6_span_32 (by decide) (fun h32 => ?_) (fun h32 => ?_)
        · have e5 : spanC P a e = sC P a.toNatClampNeg + sLo P := if_neg h32
          refine G_aload (pc := 45) M dX6_span_45 rfl ?_
          refine G_getr (pc := 47) M dX6_span_47 fl_X6_121 rfl (by first | rfl | assumption) ?_
          refine G_iload_n (pc := 50) M dX6_span_50 rfl ?_
          refine G_iaload (pc := 51) M dX6_span_51 rfl (ha) ?_
          refine G_aload (pc := 52) M dX6_span_52 rfl ?_
          refine G_getf (pc := 54) M dX6_span_54 fl_X6_80 rfl (by first | rfl | assumption) ?_
          refine G_iadd (pc := 57) M dX6_span_57 ?_
          exact G_iret M hr dX6_span_58 rfl ⟨by rw [show (bif true && true then spanC P a e else -1) = spanC P a e from rfl, e5], rfl⟩
        · have e5 : spanC P a e = sC P a.toNatClampNeg := if_pos (by simpa using h32)
          refine G_aload (pc := 35) M dX6_span_35 rfl ?_
          refine G_getr (pc := 37) M dX6_span_37 fl_X6_121 rfl (by first | rfl | assumption) ?_
          refine G_iload_n (pc := 40) M dX6_span_40 rfl ?_
          refine G_iaload (pc := 41) M dX6_span_41 rfl (ha) ?_
          refine G_goto (pc := 42) M 58 dX6_span_42 (by decide) ?_
          exact G_iret M hr dX6_span_58 rfl ⟨by rw [show (bif true && true then spanC P a e else -1) = spanC P a e from rfl, e5], rfl⟩
      · rw [rng_f2 h15]
        refine G_iconst (pc := 18) (v := -1) M dX6_span_18 (by decide +kernel) ?_
        exact G_iret M hr dX6_span_19 rfl ⟨rfl, rfl⟩
def slotC (P : SP) (i w : Int32) : Int32 := if rng 0 1 w = true ∧ ¬ i < 0 ∧ i < sTk P then (if nap (sC P) (sNn P) i.toNatClampNeg 0 = -2 then -1 else if w = 0 then nap (sC P) (sNn P) i.toNatClampNeg 0 else sC P (nap (sC P) (sNn P) i.toNatClampNeg 0).toNatClampNeg) else -1
theorem c_slot (D : DD) (l : Launch) (ad : Nat → Nat) (lev : Int32) (f : Nat → Option Nat) (P : SP) (s i w : Int32) (hf : okS s = true → f s.toNatClampNeg = some (ad 2)) (hn : sNn P ≤ 64) (tk : Nat) (htk : sTk P = nI tk) (htk6 : tk ≤ 64) : Ct D l mi_X6_slot [.ref (ad 0), .int s, .int i, .int w] ad (scW D ad lev f P) (scQ D ad lev f P (bif okS s then slotC P i w else -1)) := by
  refine Ct.of (by decide +kernel) (Nat.le_of_ble_eq_true rfl) (fun X A hX M hr => ?_)
  subst hX
  refine G_iload_n (pc := 0) M dX6_slot_0 rfl ?_
  refine G_calls (pc := 1) M [] dX6_slot_1 ms_X6_20 (c_noStream D _ (fun j => ad (pn [] j)) s) trivial rfl rfl rfl rfl (Nat.le_of_ble_eq_true rfl) (Nat.le_of_ble_eq_true rfl) (Nat.le_of_ble_eq_true rfl) ⟨Nat.zero_le _, Nat.zero_le _⟩ (fun v c1 hq hlen => ?_)
  obtain ⟨rfl, rfl⟩ := hq
  try dsimp only [sall, List.set, Option.toList, List.cons_append, List.nil_append]
  refine G_if_ne (pc := 4) M 16 dX6_slot_4 (by decide) (fun h4 => ?_) (fun h4 => ?_)
  · have hs : okS s = false := by simpa using bz1 h4
    rw [hs]
    refine G_iconst (pc := 16) (v := -1) M dX6_slot_16 (by decide +kernel) ?_
    exact G_iret M hr dX6_slot_17 rfl ⟨by first | rfl | rw [e5]; rfl, rfl⟩
  · have hs : okS s = true := by simpa using bz0 (b := !okS s) (by simpa using h4)
    rw [hs]
    refine G_iload_n (pc := 7) M dX6_slot_7 rfl ?_
    refine G_if_lt (pc := 8) M 16 dX6_slot_8 (by decide) (fun h8 => ?_) (fun h8 => ?_)
    · have e5 : slotC P i w = -1 := if_neg (fun q => by rw [rng_f1 h8] at q; cases q.1)
      refine G_iconst (pc := 16) (v := -1) M dX6_slot_16 (by decide +kernel) ?_
      exact G_iret M hr dX6_slot_17 rfl ⟨by first | rfl | rw [e5]; rfl, rfl⟩
    · refine G_iload_n (pc := 11) M dX6_slot_11 rfl ?_
      refine G_iconst (pc := 12) (v := 1) M dX6_slot_12 (by decide +kernel) ?_
      refine G_icmp_le (pc := 13) M 18 dX6_slot_13 (by decide) (fun h13 => ?_) (fun h13 => ?_)
      · have hw := rng_t h8 h13
        refine G_aload_n (pc := 18) M dX6_slot_18 rfl ?_
        refine G_getf (pc := 19) M dX6_slot_19 fl_X6_11 rfl (by first | rfl | assumption) ?_
        refine G_iload_n (pc := 22) M dX6_slot_22 rfl ?_
        refine G_aaload (pc := 23) M dX6_slot_23 rfl (vp3 hs) (hf hs) ?_
        refine G_getr (pc := 24) M dX6_slot_24 fl_X6_64 rfl (by first | rfl | assumption) ?_
        refine G_astore (pc := 27) M dX6_slot_27 (Nat.le_of_ble_eq_true rfl) ?_
        refine G_iload_n (pc := 29) M dX6_slot_29 rfl ?_
        refine G_if_lt (pc := 30) M 42 dX6_slot_30 (by decide) (fun h30 => ?_) (fun h30 => ?_)
        · have e5 : slotC P i w = -1 := if_neg (fun q => q.2.1 h30)
          refine G_iconst (pc := 42) (v := -1) M dX6_slot_42 (by decide +kernel) ?_
          exact G_iret M hr dX6_slot_43 rfl ⟨by rw [e5]; rfl, rfl⟩
        · refine G_iload_n (pc := 33) M dX6_slot_33 rfl ?_
          refine G_aload (pc := 34) M dX6_slot_34 rfl ?_
          refine G_getf (pc := 36) M dX6_slot_36 fl_X6_77 rfl (by first | rfl | assumption) ?_
          refine G_icmp_lt (pc := 39) M 44 dX6_slot_39 (by decide) (fun h39 => ?_) (fun h39 => ?_)
          · obtain ⟨p, hp, rfl⟩ : ∃ p : Nat, p < 64 ∧ i = nI p := by
              obtain ⟨p, hp, rfl⟩ := nI_of h30
              rw [htk] at h39
              exact ⟨p, by have := (nI_ltI hp (by omega)).mp h39; omega, rfl⟩
            have e6 : slotC P (nI p) w = (if nap (sC P) (sNn P) p 0 = -2 then -1 else if w = 0 then nap (sC P) (sNn P) p 0 else sC P (nap (sC P) (sNn P) p 0).toNatClampNeg) := by rw [slotC, if_pos ⟨hw, h30, h39⟩, cl_nI (by omega)]
            refine G_aload (pc := 44) M dX6_slot_44 rfl ?_
            refine G_aload (pc := 46) M dX6_slot_46 rfl ?_
            refine G_getr (pc := 48) M dX6_slot_48 fl_X6_121 rfl (by first | rfl | assumption) ?_
            refine G_iload_n (pc := 51) M dX6_slot_51 rfl ?_
            refine G_callv (pc := 52) M [3, 4] dX6_slot_52 mv_X6_125 (c_nodeAtPlace D _ (fun j => ad (pn [3, 4] j)) _ (sNn P) p (sC P) hn (by omega) rfl) rfl ⟨rfl, rfl, trivial⟩ rfl rfl rfl rfl (Nat.le_of_ble_eq_true rfl) (Nat.le_of_ble_eq_true rfl) (Nat.le_of_ble_eq_true rfl) ⟨Nat.zero_le _, Nat.zero_le _⟩ (fun v c1 hq hlen => ?_)
            obtain ⟨rfl, rfl⟩ := hq
            try dsimp only [sall, List.set, Option.toList, List.cons_append, List.nil_append]
            refine G_istore (pc := 55) M dX6_slot_55 (Nat.le_of_ble_eq_true rfl) ?_
            refine G_iload (pc := 57) M dX6_slot_57 rfl ?_
            refine G_bipush (pc := 59) (v := -2) M dX6_slot_59 (by decide +kernel) ?_
            refine G_icmp_ne (pc := 61) M 66 dX6_slot_61 (by decide) (fun h61 => ?_) (fun h61 => ?_)
            · obtain ⟨a, ha, ea⟩ := (nap_rng (sC P) (sNn P) p 0).resolve_left h61
              rw [if_neg h61] at e6
              refine G_iload_n (pc := 66) M dX6_slot_66 rfl ?_
              refine G_if_ne (pc := 67) M 75 dX6_slot_67 (by decide) (fun h67 => ?_) (fun h67 => ?_)
              · rw [if_neg h67] at e6
                refine G_aload (pc := 75) M dX6_slot_75 rfl ?_
                refine G_getr (pc := 77) M dX6_slot_77 fl_X6_121 rfl (by first | rfl | assumption) ?_
                refine G_iload (pc := 80) M dX6_slot_80 rfl ?_
                refine G_iaload (pc := 82) M dX6_slot_82 rfl (by rw [ea]; exact vp_in_nI (by omega) (by omega)) ?_
                exact G_iret M hr dX6_slot_83 rfl ⟨by rw [e6]; rfl, rfl⟩
              · rw [if_pos (by simpa using h67)] at e6
                refine G_iload (pc := 70) M dX6_slot_70 rfl ?_
                refine G_goto (pc := 72) M 83 dX6_slot_72 (by decide) ?_
                exact G_iret M hr dX6_slot_83 rfl ⟨by rw [e6]; rfl, rfl⟩
            · rw [if_pos (by simpa using h61)] at e6
              refine G_iconst (pc := 64) (v := -1) M dX6_slot_64 (by decide +kernel) ?_
              exact G_iret M hr dX6_slot_65 rfl ⟨by rw [e6]; rfl, rfl⟩
          · have e5 : slotC P i w = -1 := if_neg (fun q => h39 q.2.2)
            refine G_iconst (pc := 42) (v := -1) M dX6_slot_42 (by decide +kernel) ?_
            exact G_iret M hr dX6_slot_43 rfl ⟨by rw [e5]; rfl, rfl⟩
      · have e5 : slotC P i w = -1 := if_neg (fun q => by rw [rng_f2 h13] at q; cases q.1)
        refine G_iconst (pc := 16) (v := -1) M dX6_slot_16 (by decide +kernel) ?_
        exact G_iret M hr dX6_slot_17 rfl ⟨by first | rfl | rw [e5]; rfl, rfl⟩
theorem c_parts (D : DD) (l : Launch) (ad : Nat → Nat) (lev : Int32) (f : Nat → Option Nat) (P : SP) (s n : Int32) (hf : okS s = true → f s.toNatClampNeg = some (ad 2)) (hfn : sFn P ≤ 64) : Ct D l mi_X6_parts [.ref (ad 0), .int s, .int n] ad (scW D ad lev f P) (scQ D ad lev f P (bif okS s && !decide (n < 0) then nI (sNn P) - nI (afr (sFt P) (sAg P - n) (sFn P)) else -1)) := by
  refine Ct.of (by decide +kernel) (Nat.le_of_ble_eq_true rfl) (fun X A hX M hr => ?_)
  subst hX
  refine G_iload_n (pc := 0) M dX6_parts_0 rfl ?_
  refine G_calls (pc := 1) M [] dX6_parts_1 ms_X6_20 (c_noStream D _ (fun j => ad (pn [] j)) s) trivial rfl rfl rfl rfl (Nat.le_of_ble_eq_true rfl) (Nat.le_of_ble_eq_true rfl) (Nat.le_of_ble_eq_true rfl) ⟨Nat.zero_le _, Nat.zero_le _⟩ (fun v c1 hq hlen => ?_)
  obtain ⟨rfl, rfl⟩ := hq
  try dsimp only [sall, List.set, Option.toList, List.cons_append, List.nil_append]
  refine G_if_ne (pc := 4) M 11 dX6_parts_4 (by decide) (fun h4 => ?_) (fun h4 => ?_)
  · have hs : okS s = false := by simpa using bz1 h4
    rw [hs]
    refine G_iconst (pc := 11) (v := -1) M dX6_parts_11 (by decide +kernel) ?_
    exact G_iret M hr dX6_parts_12 rfl ⟨rfl, rfl⟩
  · have hs : okS s = true := by simpa using bz0 (b := !okS s) (by simpa using h4)
    rw [hs]
    refine G_iload_n (pc := 7) M dX6_parts_7 rfl ?_
    refine G_if_ge (pc := 8) M 13 dX6_parts_8 (by decide) (fun h8 => ?_) (fun h8 => ?_)
    · rw [decide_eq_false (Int32.not_lt.mpr h8)]
      refine G_aload_n (pc := 13) M dX6_parts_13 rfl ?_
      refine G_getf (pc := 14) M dX6_parts_14 fl_X6_11 rfl (by first | rfl | assumption) ?_
      refine G_iload_n (pc := 17) M dX6_parts_17 rfl ?_
      refine G_aaload (pc := 18) M dX6_parts_18 rfl (vp3 hs) (hf hs) ?_
      refine G_astore_n (pc := 19) M dX6_parts_19 (Nat.le_of_ble_eq_true rfl) ?_
      refine G_aload_n (pc := 20) M dX6_parts_20 rfl ?_
      refine G_getf (pc := 21) M dX6_parts_21 fl_X6_108 rfl (by first | rfl | assumption) ?_
      refine G_aload_n (pc := 24) M dX6_parts_24 rfl ?_
      refine G_getr (pc := 25) M dX6_parts_25 fl_X6_83 rfl (by first | rfl | assumption) ?_
      refine G_aload_n (pc := 28) M dX6_parts_28 rfl ?_
      refine G_getf (pc := 29) M dX6_parts_29 fl_X6_27 rfl (by first | rfl | assumption) ?_
      refine G_iload_n (pc := 32) M dX6_parts_32 rfl ?_
      refine G_isub (pc := 33) M dX6_parts_33 ?_
      refine G_callv (pc := 34) M [6, 7] dX6_parts_34 mv_X6_129 (c_arcsAfter D _ (fun j => ad (pn [6, 7] j)) (sFn P) (sFt P) (sAg P - n) _ hfn rfl rfl) rfl ⟨rfl, rfl, trivial⟩ rfl rfl rfl rfl (Nat.le_of_ble_eq_true rfl) (Nat.le_of_ble_eq_true rfl) (Nat.le_of_ble_eq_true rfl) ⟨Nat.zero_le _, Nat.zero_le _⟩ (fun v c1 hq hlen => ?_)
      obtain ⟨rfl, rfl⟩ := hq
      try dsimp only [sall, List.set, Option.toList, List.cons_append, List.nil_append]
      refine G_isub (pc := 37) M dX6_parts_37 ?_
      exact G_iret M hr dX6_parts_38 rfl ⟨rfl, rfl⟩
    · rw [decide_eq_true (Int32.not_le.mp h8)]
      refine G_iconst (pc := 11) (v := -1) M dX6_parts_11 (by decide +kernel) ?_
      exact G_iret M hr dX6_parts_12 rfl ⟨rfl, rfl⟩
theorem c_part (D : DD) (l : Launch) (ad : Nat → Nat) (lev : Int32) (f : Nat → Option Nat) (P : SP) (nd : Nat → Int32) (s n a : Int32) (fu fv : Nat → Nat) (hf : okS s = true → f s.toNatClampNeg = some (ad 2)) (hnd : nd s.toNatClampNeg = nI (sNn P)) (hn : sNn P ≤ 64) (hfn : sFn P ≤ 64) (hK : fArc (sFn P) (sFk P) fu fv) : Ct D l mi_X6_part [.ref (ad 0), .int s, .int n, .int a] ad (scW D ad lev f P) (fun v c => v = some (.int (bif okN nd s a && !decide (n < 0) then nI (lab fu fv (sFn P) (afr (sFt P) (sAg P - n) (sFn P)) a.toNatClampNeg) else -1)) ∧ ∃ ld, c = scW D ad lev f (sSetLd P ld)) := by
  refine Ct.of (by decide +kernel) (Nat.le_of_ble_eq_true rfl) (fun X A hX M hr => ?_)
  subst hX
  refine G_aload_n (pc := 0) M dX6_part_0 rfl ?_
  refine G_iload_n (pc := 1) M dX6_part_1 rfl ?_
  refine G_iload_n (pc := 2) M dX6_part_2 rfl ?_
  refine G_callv (pc := 3) M [0, 1, 2] dX6_part_3 mv_X6_117 (c_noNode D _ (fun j => ad (pn [0, 1, 2] j)) _ _ f nd s a rfl hf (by rw [hnd]; rfl)) rfl ⟨rfl, rfl, rfl, trivial⟩ rfl rfl rfl rfl (Nat.le_of_ble_eq_true rfl) (Nat.le_of_ble_eq_true rfl) (Nat.le_of_ble_eq_true rfl) ⟨Nat.zero_le _, Nat.zero_le _⟩ (fun v c1 hq hlen => ?_)
  obtain ⟨rfl, rfl⟩ := hq
  try dsimp only [sall, List.set, Option.toList, List.cons_append, List.nil_append]
  refine G_if_ne (pc := 6) M 13 dX6_part_6 (by decide) (fun h6 => ?_) (fun h6 => ?_)
  · have h6b : okN nd s a = false := by simpa using bz1 h6
    rw [h6b]
    refine G_iconst (pc := 13) (v := -1) M dX6_part_13 (by decide +kernel) ?_
    exact G_iret M hr dX6_part_14 rfl ⟨rfl, sLd P, rfl⟩
  · have h6b : okN nd s a = true := by simpa using bz0 (b := !okN nd s a) (by simpa using h6)
    have hs := okN_s h6b
    rw [h6b]
    refine G_iload_n (pc := 9) M dX6_part_9 rfl ?_
    refine G_if_ge (pc := 10) M 15 dX6_part_10 (by decide) (fun h10 => ?_) (fun h10 => ?_)
    · rw [decide_eq_false (Int32.not_lt.mpr h10)]
      obtain ⟨i, k, -, -, hk, rfl⟩ := okN_of h6b hnd hn
      rw [cl_nI (n := k) (by omega)]
      refine G_aload_n (pc := 15) M dX6_part_15 rfl ?_
      refine G_getf (pc := 16) M dX6_part_16 fl_X6_11 rfl (by first | rfl | assumption) ?_
      refine G_iload_n (pc := 19) M dX6_part_19 rfl ?_
      refine G_aaload (pc := 20) M dX6_part_20 rfl (vp3 hs) (hf hs) ?_
      refine G_astore (pc := 21) M dX6_part_21 (Nat.le_of_ble_eq_true rfl) ?_
      refine G_aload (pc := 23) M dX6_part_23 rfl ?_
      refine G_getr (pc := 25) M dX6_part_25 fl_X6_83 rfl (by first | rfl | assumption) ?_
      refine G_aload (pc := 28) M dX6_part_28 rfl ?_
      refine G_getf (pc := 30) M dX6_part_30 fl_X6_27 rfl (by first | rfl | assumption) ?_
      refine G_iload_n (pc := 33) M dX6_part_33 rfl ?_
      refine G_isub (pc := 34) M dX6_part_34 ?_
      refine G_iload_n (pc := 35) M dX6_part_35 rfl ?_
      refine G_callv (pc := 36) M [6, 7, 8, 9] dX6_part_36 mv_X6_133 (c_leastOfPart D _ (fun j => ad (pn [6, 7, 8, 9] j)) (sFn P) k (sFt P) (sFk P) (sLd P) (sAg P - n) fu fv hfn (by omega) hK) rfl ⟨rfl, rfl, rfl, rfl, trivial⟩ rfl rfl rfl rfl (Nat.le_of_ble_eq_true rfl) (Nat.le_of_ble_eq_true rfl) (Nat.le_of_ble_eq_true rfl) ⟨Nat.zero_le _, Nat.zero_le _⟩ (fun v c1 hq hlen => ?_)
      obtain ⟨rfl, ld2, rfl⟩ := hq
      try dsimp only [sall, List.set, Option.toList, List.cons_append, List.nil_append]
      exact G_iret M hr dX6_part_39 rfl ⟨rfl, ld2, rfl⟩
    · rw [decide_eq_true (Int32.not_le.mp h10)]
      refine G_iconst (pc := 13) (v := -1) M dX6_part_13 (by decide +kernel) ?_
      exact G_iret M hr dX6_part_14 rfl ⟨rfl, sLd P, rfl⟩
def treeC (P : SP) (fu fv : Nat → Nat) (i w : Int32) : Int32 := if rng 0 2 w = true ∧ ¬ i < 0 ∧ i < nI (sFn P) then (if w = 0 then sFt P i.toNatClampNeg else if w = 1 then nI (fu i.toNatClampNeg) else nI (fv i.toNatClampNeg)) else -1
theorem c_tree (D : DD) (l : Launch) (ad : Nat → Nat) (lev : Int32) (f : Nat → Option Nat) (P : SP) (s i w : Int32) (fu fv : Nat → Nat) (hf : okS s = true → f s.toNatClampNeg = some (ad 2)) (hfn : sFn P ≤ 64) (hK : fArc (sFn P) (sFk P) fu fv) : Ct D l mi_X6_tree [.ref (ad 0), .int s, .int i, .int w] ad (scW D ad lev f P) (scQ D ad lev f P (bif okS s then treeC P fu fv i w else -1)) := by
  refine Ct.of (by decide +kernel) (Nat.le_of_ble_eq_true rfl) (fun X A hX M hr => ?_)
  subst hX
  refine G_iload_n (pc := 0) M dX6_tree_0 rfl ?_
  refine G_calls (pc := 1) M [] dX6_tree_1 ms_X6_20 (c_noStream D _ (fun j => ad (pn [] j)) s) trivial rfl rfl rfl rfl (Nat.le_of_ble_eq_true rfl) (Nat.le_of_ble_eq_true rfl) (Nat.le_of_ble_eq_true rfl) ⟨Nat.zero_le _, Nat.zero_le _⟩ (fun v c1 hq hlen => ?_)
  obtain ⟨rfl, rfl⟩ := hq
  try dsimp only [sall, List.set, Option.toList, List.cons_append, List.nil_append]
  refine G_if_ne (pc := 4) M 16 dX6_tree_4 (by decide) (fun h4 => ?_) (fun h4 => ?_)
  · have hs : okS s = false := by simpa using bz1 h4
    rw [hs]
    refine G_iconst (pc := 16) (v := -1) M dX6_tree_16 (by decide +kernel) ?_
    exact G_iret M hr dX6_tree_17 rfl ⟨by first | rfl | rw [e5]; rfl, rfl⟩
  · have hs : okS s = true := by simpa using bz0 (b := !okS s) (by simpa using h4)
    rw [hs]
    refine G_iload_n (pc := 7) M dX6_tree_7 rfl ?_
    refine G_if_lt (pc := 8) M 16 dX6_tree_8 (by decide) (fun h8 => ?_) (fun h8 => ?_)
    · have e5 : treeC P fu fv i w = -1 := if_neg (fun q => by rw [rng_f1 h8] at q; cases q.1)
      refine G_iconst (pc := 16) (v := -1) M dX6_tree_16 (by decide +kernel) ?_
      exact G_iret M hr dX6_tree_17 rfl ⟨by first | rfl | rw [e5]; rfl, rfl⟩
    · refine G_iload_n (pc := 11) M dX6_tree_11 rfl ?_
      refine G_iconst (pc := 12) (v := 2) M dX6_tree_12 (by decide +kernel) ?_
      refine G_icmp_le (pc := 13) M 18 dX6_tree_13 (by decide) (fun h13 => ?_) (fun h13 => ?_)
      · have hw := rng_t h8 h13
        refine G_aload_n (pc := 18) M dX6_tree_18 rfl ?_
        refine G_getf (pc := 19) M dX6_tree_19 fl_X6_11 rfl (by first | rfl | assumption) ?_
        refine G_iload_n (pc := 22) M dX6_tree_22 rfl ?_
        refine G_aaload (pc := 23) M dX6_tree_23 rfl (vp3 hs) (hf hs) ?_
        refine G_getr (pc := 24) M dX6_tree_24 fl_X6_83 rfl (by first | rfl | assumption) ?_
        refine G_astore (pc := 27) M dX6_tree_27 (Nat.le_of_ble_eq_true rfl) ?_
        refine G_iload_n (pc := 29) M dX6_tree_29 rfl ?_
        refine G_if_lt (pc := 30) M 42 dX6_tree_30 (by decide) (fun h30 => ?_) (fun h30 => ?_)
        · have e5 : treeC P fu fv i w = -1 := if_neg (fun q => q.2.1 h30)
          refine G_iconst (pc := 42) (v := -1) M dX6_tree_42 (by decide +kernel) ?_
          exact G_iret M hr dX6_tree_43 rfl ⟨by rw [e5]; rfl, rfl⟩
        · refine G_iload_n (pc := 33) M dX6_tree_33 rfl ?_
          refine G_aload (pc := 34) M dX6_tree_34 rfl ?_
          refine G_getf (pc := 36) M dX6_tree_36 fl_X6_87 rfl (by first | rfl | assumption) ?_
          refine G_icmp_lt (pc := 39) M 44 dX6_tree_39 (by decide) (fun h39 => ?_) (fun h39 => ?_)
          · obtain ⟨p, hp, rfl⟩ : ∃ p : Nat, p < sFn P ∧ i = nI p := by
              obtain ⟨p, hp, rfl⟩ := nI_of h30
              exact ⟨p, (nI_ltI hp (by omega)).mp h39, rfl⟩
            obtain ⟨k1, k2, k3⟩ := hK p hp
            have e6 : treeC P fu fv (nI p) w = (if w = 0 then sFt P p else if w = 1 then nI (fu p) else nI (fv p)) := by rw [treeC, if_pos ⟨hw, h30, h39⟩, cl_nI (by omega)]
            refine G_iload_n (pc := 44) M dX6_tree_44 rfl ?_
            refine G_if_ne (pc := 45) M 56 dX6_tree_45 (by decide) (fun h45 => ?_) (fun h45 => ?_)
            · rw [if_neg h45] at e6
              refine G_iload_n (pc := 56) M dX6_tree_56 rfl ?_
              refine G_iconst (pc := 57) (v := 1) M dX6_tree_57 (by decide +kernel) ?_
              refine G_icmp_ne (pc := 58) M 74 dX6_tree_58 (by decide) (fun h58 => ?_) (fun h58 => ?_)
              · rw [if_neg h58] at e6
                refine G_aload (pc := 74) M dX6_tree_74 rfl ?_
                refine G_getr (pc := 76) M dX6_tree_76 fl_X6_139 rfl (by first | rfl | assumption) ?_
                refine G_iload_n (pc := 79) M dX6_tree_79 rfl ?_
                refine G_iaload (pc := 80) M dX6_tree_80 rfl (by first | assumption | exact vp_in_nI (by omega) (by omega)) ?_
                rw [cl_nI (by omega), k1]
                refine G_calls (pc := 81) M [] dX6_tree_81 ms_X6_145 (c_greaterNode D _ (fun j => ad (pn [] j)) (nI (64 * fu p + fv p))) trivial rfl rfl rfl rfl (Nat.le_of_ble_eq_true rfl) (Nat.le_of_ble_eq_true rfl) (Nat.le_of_ble_eq_true rfl) ⟨Nat.zero_le _, Nat.zero_le _⟩ (fun v c1 hq hlen => ?_)
                obtain ⟨rfl, rfl⟩ := hq
                try dsimp only [sall, List.set, Option.toList, List.cons_append, List.nil_append]
                exact G_iret M hr dX6_tree_84 rfl ⟨by first | (rw [e6]; rfl) | (rw [key_rem k2 k3, e6]; rfl), rfl⟩
              · rw [if_pos (by simpa using h58)] at e6
                refine G_aload (pc := 61) M dX6_tree_61 rfl ?_
                refine G_getr (pc := 63) M dX6_tree_63 fl_X6_139 rfl (by first | rfl | assumption) ?_
                refine G_iload_n (pc := 66) M dX6_tree_66 rfl ?_
                refine G_iaload (pc := 67) M dX6_tree_67 rfl (by first | assumption | exact vp_in_nI (by omega) (by omega)) ?_
                rw [cl_nI (by omega), k1]
                refine G_calls (pc := 68) M [] dX6_tree_68 ms_X6_142 (c_lesserNode D _ (fun j => ad (pn [] j)) (nI (64 * fu p + fv p))) trivial rfl rfl rfl rfl (Nat.le_of_ble_eq_true rfl) (Nat.le_of_ble_eq_true rfl) (Nat.le_of_ble_eq_true rfl) ⟨Nat.zero_le _, Nat.zero_le _⟩ (fun v c1 hq hlen => ?_)
                obtain ⟨rfl, rfl⟩ := hq
                try dsimp only [sall, List.set, Option.toList, List.cons_append, List.nil_append]
                rw [key_div k2 k3]
                refine G_goto (pc := 71) M 84 dX6_tree_71 (by decide) ?_
                exact G_iret M hr dX6_tree_84 rfl ⟨by first | (rw [e6]; rfl) | (rw [key_rem k2 k3, e6]; rfl), rfl⟩
            · rw [if_pos (by simpa using h45)] at e6
              refine G_aload (pc := 48) M dX6_tree_48 rfl ?_
              refine G_getr (pc := 50) M dX6_tree_50 fl_X6_136 rfl (by first | rfl | assumption) ?_
              refine G_iload_n (pc := 53) M dX6_tree_53 rfl ?_
              refine G_iaload (pc := 54) M dX6_tree_54 rfl (by first | assumption | exact vp_in_nI (by omega) (by omega)) ?_
              rw [cl_nI (by omega)]
              exact G_iret M hr dX6_tree_55 rfl ⟨by first | (rw [e6]; rfl) | (rw [key_rem k2 k3, e6]; rfl), rfl⟩
          · have e5 : treeC P fu fv i w = -1 := if_neg (fun q => h39 q.2.2)
            refine G_iconst (pc := 42) (v := -1) M dX6_tree_42 (by decide +kernel) ?_
            exact G_iret M hr dX6_tree_43 rfl ⟨by rw [e5]; rfl, rfl⟩
      · have e5 : treeC P fu fv i w = -1 := if_neg (fun q => by rw [rng_f2 h13] at q; cases q.1)
        refine G_iconst (pc := 16) (v := -1) M dX6_tree_16 (by decide +kernel) ?_
        exact G_iret M hr dX6_tree_17 rfl ⟨by first | rfl | rw [e5]; rfl, rfl⟩
def sinceC (P : SP) (fu fv : Nat → Nat) (a b : Int32) : Int32 := if a = b then 0 else match obt fu fv (sFn P) a.toNatClampNeg b.toNatClampNeg (sFn P) with
  | none => -2
  | some r => sAg P - sFt P r + 1
theorem c_since (D : DD) (l : Launch) (ad : Nat → Nat) (lev : Int32) (f : Nat → Option Nat) (P : SP) (nd : Nat → Int32) (s a b : Int32) (fu fv : Nat → Nat) (hf : okS s = true → f s.toNatClampNeg = some (ad 2)) (hnd : nd s.toNatClampNeg = nI (sNn P)) (hn : sNn P ≤ 64) (hfn : sFn P ≤ 64) (hK : fArc (sFn P) (sFk P) fu fv) : Ct D l mi_X6_since [.ref (ad 0), .int s, .int a, .int b] ad (scW D ad lev f P) (fun v c => v = some (.int (bif okN nd s a && okN nd s b then sinceC P fu fv a b else -1)) ∧ ∃ ld, c = scW D ad lev f (sSetLd P ld)) := by
  refine Ct.of (by decide +kernel) (Nat.le_of_ble_eq_true rfl) (fun X A hX M hr => ?_)
  subst hX
  refine G_aload_n (pc := 0) M dX6_since_0 rfl ?_
  refine G_iload_n (pc := 1) M dX6_since_1 rfl ?_
  refine G_iload_n (pc := 2) M dX6_since_2 rfl ?_
  refine G_callv (pc := 3) M [0, 1, 2] dX6_since_3 mv_X6_117 (c_noNode D _ (fun j => ad (pn [0, 1, 2] j)) _ _ f nd s a rfl hf (by rw [hnd]; rfl)) rfl ⟨rfl, rfl, rfl, trivial⟩ rfl rfl rfl rfl (Nat.le_of_ble_eq_true rfl) (Nat.le_of_ble_eq_true rfl) (Nat.le_of_ble_eq_true rfl) ⟨Nat.zero_le _, Nat.zero_le _⟩ (fun v c1 hq hlen => ?_)
  obtain ⟨rfl, rfl⟩ := hq
  try dsimp only [sall, List.set, Option.toList, List.cons_append, List.nil_append]
  refine G_if_ne (pc := 6) M 18 dX6_since_6 (by decide) (fun h6 => ?_) (fun h6 => ?_)
  · have h6b : okN nd s a = false := by simpa using bz1 h6
    rw [h6b]
    refine G_iconst (pc := 18) (v := -1) M dX6_since_18 (by decide +kernel) ?_
    exact G_iret M hr dX6_since_19 rfl ⟨rfl, sLd P, rfl⟩
  · have h6b : okN nd s a = true := by simpa using bz0 (b := !okN nd s a) (by simpa using h6)
    have hs := okN_s h6b
    rw [h6b]
    refine G_aload_n (pc := 9) M dX6_since_9 rfl ?_
    refine G_iload_n (pc := 10) M dX6_since_10 rfl ?_
    refine G_iload_n (pc := 11) M dX6_since_11 rfl ?_
    refine G_callv (pc := 12) M [0, 1, 2] dX6_since_12 mv_X6_117 (c_noNode D _ (fun j => ad (pn [0, 1, 2] j)) _ _ f nd s b rfl hf (by rw [hnd]; rfl)) rfl ⟨rfl, rfl, rfl, trivial⟩ rfl rfl rfl rfl (Nat.le_of_ble_eq_true rfl) (Nat.le_of_ble_eq_true rfl) (Nat.le_of_ble_eq_true rfl) ⟨Nat.zero_le _, Nat.zero_le _⟩ (fun v c1 hq hlen => ?_)
    obtain ⟨rfl, rfl⟩ := hq
    try dsimp only [sall, List.set, Option.toList, List.cons_append, List.nil_append]
    refine G_if_eq (pc := 15) M 20 dX6_since_15 (by decide) (fun h15 => ?_) (fun h15 => ?_)
    · have h15b : okN nd s b = true := by simpa using bz0 (b := !okN nd s b) h15
      obtain ⟨i, k, -, -, hk, rfl⟩ := okN_of h6b hnd hn
      obtain ⟨i2, k2, -, -, hk2, rfl⟩ := okN_of h15b hnd hn
      rw [h15b]
      refine G_iload_n (pc := 20) M dX6_since_20 rfl ?_
      refine G_iload_n (pc := 21) M dX6_since_21 rfl ?_
      refine G_icmp_ne (pc := 22) M 27 dX6_since_22 (by decide) (fun h22 => ?_) (fun h22 => ?_)
      · have e6 : sinceC P fu fv (nI k) (nI k2) = match obt fu fv (sFn P) k k2 (sFn P) with
            | none => -2
            | some r => sAg P - sFt P r + 1 := by rw [sinceC, if_neg h22, cl_nI (n := k) (by omega), cl_nI (n := k2) (by omega)]
        refine G_aload_n (pc := 27) M dX6_since_27 rfl ?_
        refine G_getf (pc := 28) M dX6_since_28 fl_X6_11 rfl (by first | rfl | assumption) ?_
        refine G_iload_n (pc := 31) M dX6_since_31 rfl ?_
        refine G_aaload (pc := 32) M dX6_since_32 rfl (vp3 hs) (hf hs) ?_
        refine G_astore (pc := 33) M dX6_since_33 (Nat.le_of_ble_eq_true rfl) ?_
        refine G_aload (pc := 35) M dX6_since_35 rfl ?_
        refine G_getr (pc := 37) M dX6_since_37 fl_X6_83 rfl (by first | rfl | assumption) ?_
        refine G_iload_n (pc := 40) M dX6_since_40 rfl ?_
        refine G_iload_n (pc := 41) M dX6_since_41 rfl ?_
        refine G_callv (pc := 42) M [6, 7, 8, 9] dX6_since_42 mv_X6_148 (c_oldest D _ (fun j => ad (pn [6, 7, 8, 9] j)) (sFn P) k k2 (sFt P) (sFk P) (sLd P) fu fv hfn (by omega) (by omega) hK) rfl ⟨rfl, rfl, rfl, rfl, trivial⟩ rfl rfl rfl rfl (Nat.le_of_ble_eq_true rfl) (Nat.le_of_ble_eq_true rfl) (Nat.le_of_ble_eq_true rfl) ⟨Nat.zero_le _, Nat.zero_le _⟩ (fun v c1 hq hlen => ?_)
        obtain ⟨rfl, ld2, rfl⟩ := hq
        try dsimp only [sall, List.set, Option.toList, List.cons_append, List.nil_append]
        refine G_istore (pc := 45) M dX6_since_45 (Nat.le_of_ble_eq_true rfl) ?_
        refine G_iload (pc := 47) M dX6_since_47 rfl ?_
        refine G_bipush (pc := 49) (v := -2) M dX6_since_49 (by decide +kernel) ?_
        have hlt := obt_lt fu fv (sFn P) k k2 (sFn P)
        generalize obt fu fv (sFn P) k k2 (sFn P) = oo at *
        refine G_icmp_ne (pc := 51) M 57 dX6_since_51 (by decide) (fun h51 => ?_) (fun h51 => ?_)
        · obtain ⟨r, rfl⟩ : ∃ r, oo = some r := by
            cases oo with
            | none => exact absurd rfl h51
            | some r => exact ⟨r, rfl⟩
          have hr5 := hlt r rfl
          refine G_aload (pc := 57) M dX6_since_57 rfl ?_
          refine G_getf (pc := 59) M dX6_since_59 fl_X6_27 rfl (by first | rfl | assumption) ?_
          refine G_aload (pc := 62) M dX6_since_62 rfl ?_
          refine G_getr (pc := 64) M dX6_since_64 fl_X6_83 rfl (by first | rfl | assumption) ?_
          refine G_getr (pc := 67) M dX6_since_67 fl_X6_136 rfl (by first | rfl | assumption) ?_
          refine G_iload (pc := 70) M dX6_since_70 rfl ?_
          refine G_iaload (pc := 72) M dX6_since_72 rfl (by show vp_in (nI r) 64; exact vp_in_nI (by omega) (by omega)) ?_
          rw [show (oI (some r)).toNatClampNeg = r from cl_nI (by omega)]
          refine G_isub (pc := 73) M dX6_since_73 ?_
          refine G_iconst (pc := 74) (v := 1) M dX6_since_74 (by decide +kernel) ?_
          refine G_iadd (pc := 75) M dX6_since_75 ?_
          exact G_iret M hr dX6_since_76 rfl ⟨by rw [show (bif true && true then sinceC P fu fv (nI k) (nI k2) else -1) = sinceC P fu fv (nI k) (nI k2) from rfl, e6], ld2, rfl⟩
        · obtain rfl : oo = none := by
            cases oo with
            | none => rfl
            | some r =>
              have q : nI r = -2 := by simpa [oI] using h51
              have := nI_pos (n := r) (by have := hlt r rfl; omega)
              rw [q] at this
              exact absurd (by decide) this
          refine G_bipush (pc := 54) (v := -2) M dX6_since_54 (by decide +kernel) ?_
          exact G_iret M hr dX6_since_56 rfl ⟨by rw [show (bif true && true then sinceC P fu fv (nI k) (nI k2) else -1) = sinceC P fu fv (nI k) (nI k2) from rfl, e6], ld2, rfl⟩
      · have e5 : sinceC P fu fv (nI k) (nI k2) = 0 := if_pos (by simpa using h22)
        refine G_iconst (pc := 25) (v := 0) M dX6_since_25 (by decide +kernel) ?_
        exact G_iret M hr dX6_since_26 rfl ⟨by rw [show (bif true && true then sinceC P fu fv (nI k) (nI k2) else -1) = sinceC P fu fv (nI k) (nI k2) from rfl, e5], sLd P, rfl⟩
    · have h15b : okN nd s b = false := by simpa using bz1 h15
      rw [h15b]
      refine G_iconst (pc := 18) (v := -1) M dX6_since_18 (by decide +kernel) ?_
      exact G_iret M hr dX6_since_19 rfl ⟨rfl, sLd P, rfl⟩
end
section
--NORM
/-! StreamCounts: far, kept, mate, sum, level, out -/
theorem c_far (D : DD) (l : Launch) (ad : Nat → Nat) (lev : Int32) (f : Nat → Option Nat) (P : SP) (nd : Nat → Int32) (s a b : Int32) (hf : okS s = true → f s.toNatClampNeg = some (ad 2)) (hnd : nd s.toNatClampNeg = nI (sNn P)) (hn : sNn P ≤ 64) : Ct D l mi_X6_far [.ref (ad 0), .int s, .int a, .int b] ad (scW D ad lev f P) (scQ D ad lev f P (bif okN nd s a && okN nd s b then dst (sNb P) (sNn P) b.toNatClampNeg 65 0 (one a.toNatClampNeg) (one a.toNatClampNeg) else -1)) := by
  refine Ct.of (by decide +kernel) (Nat.le_of_ble_eq_true rfl) (fun X A hX M hr => ?_)
  subst hX
  refine G_aload_n (pc := 0) M dX6_far_0 rfl ?_
  refine G_iload_n (pc := 1) M dX6_far_1 rfl ?_
  refine G_iload_n (pc := 2) M dX6_far_2 rfl ?_
  refine G_callv (pc := 3) M [0, 1, 2] dX6_far_3 mv_X6_117 (c_noNode D _ (fun j => ad (pn [0, 1, 2] j)) _ _ f nd s a rfl hf (by rw [hnd]; rfl)) rfl ⟨rfl, rfl, rfl, trivial⟩ rfl rfl rfl rfl (Nat.le_of_ble_eq_true rfl) (Nat.le_of_ble_eq_true rfl) (Nat.le_of_ble_eq_true rfl) ⟨Nat.zero_le _, Nat.zero_le _⟩ (fun v c1 hq hlen => ?_)
  obtain ⟨rfl, rfl⟩ := hq
  try dsimp only [sall, List.set, Option.toList, List.cons_append, List.nil_append]
  refine G_if_ne (pc := 6) M 18 dX6_far_6 (by decide) (fun h6 => ?_) (fun h6 => ?_)
  · have h6b : okN nd s a = false := by simpa using bz1 h6
    rw [h6b]
    refine G_iconst (pc := 18) (v := -1) M dX6_far_18 (by decide +kernel) ?_
    exact G_iret M hr dX6_far_19 rfl ⟨rfl, rfl⟩
  · have h6b : okN nd s a = true := by simpa using bz0 (b := !okN nd s a) (by simpa using h6)
    have hs := okN_s h6b
    rw [h6b]
    refine G_aload_n (pc := 9) M dX6_far_9 rfl ?_
    refine G_iload_n (pc := 10) M dX6_far_10 rfl ?_
    refine G_iload_n (pc := 11) M dX6_far_11 rfl ?_
    refine G_callv (pc := 12) M [0, 1, 2] dX6_far_12 mv_X6_117 (c_noNode D _ (fun j => ad (pn [0, 1, 2] j)) _ _ f nd s b rfl hf (by rw [hnd]; rfl)) rfl ⟨rfl, rfl, rfl, trivial⟩ rfl rfl rfl rfl (Nat.le_of_ble_eq_true rfl) (Nat.le_of_ble_eq_true rfl) (Nat.le_of_ble_eq_true rfl) ⟨Nat.zero_le _, Nat.zero_le _⟩ (fun v c1 hq hlen => ?_)
    obtain ⟨rfl, rfl⟩ := hq
    try dsimp only [sall, List.set, Option.toList, List.cons_append, List.nil_append]
    refine G_if_eq (pc := 15) M 20 dX6_far_15 (by decide) (fun h15 => ?_) (fun h15 => ?_)
    · have h15b : okN nd s b = true := by simpa using bz0 (b := !okN nd s b) h15
      obtain ⟨i, k, -, -, hk, rfl⟩ := okN_of h6b hnd hn
      obtain ⟨i2, k2, -, -, hk2, rfl⟩ := okN_of h15b hnd hn
      rw [h15b, cl_nI (n := k) (by omega), cl_nI (n := k2) (by omega)]
      refine G_aload_n (pc := 20) M dX6_far_20 rfl ?_
      refine G_getf (pc := 21) M dX6_far_21 fl_X6_11 rfl (by first | rfl | assumption) ?_
      refine G_iload_n (pc := 24) M dX6_far_24 rfl ?_
      refine G_aaload (pc := 25) M dX6_far_25 rfl (vp3 hs) (hf hs) ?_
      refine G_getr (pc := 26) M dX6_far_26 fl_X6_92 rfl (by first | rfl | assumption) ?_
      refine G_iload_n (pc := 29) M dX6_far_29 rfl ?_
      refine G_iload_n (pc := 30) M dX6_far_30 rfl ?_
      refine G_bipush (pc := 31) (v := 64) M dX6_far_31 (by decide +kernel) ?_
      refine G_callv (pc := 33) M [10, 13] dX6_far_33 mv_X6_151 (c_distance D _ (fun j => ad (pn [10, 13] j)) _ (sNn P) k k2 64 (sNb P) hn (by omega) (by omega) rfl rfl) rfl ⟨rfl, rfl, trivial⟩ rfl rfl rfl rfl (Nat.le_of_ble_eq_true rfl) (Nat.le_of_ble_eq_true rfl) (Nat.le_of_ble_eq_true rfl) ⟨Nat.zero_le _, Nat.zero_le _⟩ (fun v c1 hq hlen => ?_)
      obtain ⟨rfl, rfl⟩ := hq
      try dsimp only [sall, List.set, Option.toList, List.cons_append, List.nil_append]
      exact G_iret M hr dX6_far_36 rfl ⟨rfl, rfl⟩
    · have h15b : okN nd s b = false := by simpa using bz1 h15
      rw [h15b]
      refine G_iconst (pc := 18) (v := -1) M dX6_far_18 (by decide +kernel) ?_
      exact G_iret M hr dX6_far_19 rfl ⟨rfl, rfl⟩
def tArc (n : Nat) (ky : Nat → Int32) (fu fv : Nat → Nat) : Prop := ∀ i, i < n → ky i = nI (64 * fu i + fv i) ∧ fu i < 64 ∧ fv i < 64
def keptC (P : SP) (fu fv : Nat → Nat) (i w : Int32) : Int32 := if rng 0 2 w = true ∧ ¬ i < 0 ∧ i < nI (sZ P) then (if w = 2 then sTt P i.toNatClampNeg else if w = 0 then nI (fu i.toNatClampNeg) else nI (fv i.toNatClampNeg)) else -1
theorem c_kept (D : DD) (l : Launch) (ad : Nat → Nat) (lev : Int32) (f : Nat → Option Nat) (P : SP) (s i w : Int32) (fu fv : Nat → Nat) (hf : okS s = true → f s.toNatClampNeg = some (ad 2)) (hz : sZ P ≤ 512) (hK : tArc (sZ P) (sTq P) fu fv) : Ct D l mi_X6_kept [.ref (ad 0), .int s, .int i, .int w] ad (scW D ad lev f P) (scQ D ad lev f P (bif okS s then keptC P fu fv i w else -1)) := by
  refine Ct.of (by decide +kernel) (Nat.le_of_ble_eq_true rfl) (fun X A hX M hr => ?_)
  subst hX
  refine G_iload_n (pc := 0) M dX6_kept_0 rfl ?_
  refine G_calls (pc := 1) M [] dX6_kept_1 ms_X6_20 (c_noStream D _ (fun j => ad (pn [] j)) s) trivial rfl rfl rfl rfl (Nat.le_of_ble_eq_true rfl) (Nat.le_of_ble_eq_true rfl) (Nat.le_of_ble_eq_true rfl) ⟨Nat.zero_le _, Nat.zero_le _⟩ (fun v c1 hq hlen => ?_)
  obtain ⟨rfl, rfl⟩ := hq
  try dsimp only [sall, List.set, Option.toList, List.cons_append, List.nil_append]
  refine G_if_ne (pc := 4) M 16 dX6_kept_4 (by decide) (fun h4 => ?_) (fun h4 => ?_)
  · have hs : okS s = false := by simpa using bz1 h4
    rw [hs]
    refine G_iconst (pc := 16) (v := -1) M dX6_kept_16 (by decide +kernel) ?_
    exact G_iret M hr dX6_kept_17 rfl ⟨by first | rfl | rw [e5]; rfl, rfl⟩
  · have hs : okS s = true := by simpa using bz0 (b := !okS s) (by simpa using h4)
    rw [hs]
    refine G_iload_n (pc := 7) M dX6_kept_7 rfl ?_
    refine G_if_lt (pc := 8) M 16 dX6_kept_8 (by decide) (fun h8 => ?_) (fun h8 => ?_)
    · have e5 : keptC P fu fv i w = -1 := if_neg (fun q => by rw [rng_f1 h8] at q; cases q.1)
      refine G_iconst (pc := 16) (v := -1) M dX6_kept_16 (by decide +kernel) ?_
      exact G_iret M hr dX6_kept_17 rfl ⟨by first | rfl | rw [e5]; rfl, rfl⟩
    · refine G_iload_n (pc := 11) M dX6_kept_11 rfl ?_
      refine G_iconst (pc := 12) (v := 2) M dX6_kept_12 (by decide +kernel) ?_
      refine G_icmp_le (pc := 13) M 18 dX6_kept_13 (by decide) (fun h13 => ?_) (fun h13 => ?_)
      · have hw := rng_t h8 h13
        refine G_aload_n (pc := 18) M dX6_kept_18 rfl ?_
        refine G_getf (pc := 19) M dX6_kept_19 fl_X6_11 rfl (by first | rfl | assumption) ?_
        refine G_iload_n (pc := 22) M dX6_kept_22 rfl ?_
        refine G_aaload (pc := 23) M dX6_kept_23 rfl (vp3 hs) (hf hs) ?_
        refine G_getr (pc := 24) M dX6_kept_24 fl_X6_92 rfl (by first | rfl | assumption) ?_
        refine G_astore (pc := 27) M dX6_kept_27 (Nat.le_of_ble_eq_true rfl) ?_
        refine G_iload_n (pc := 29) M dX6_kept_29 rfl ?_
        refine G_if_lt (pc := 30) M 42 dX6_kept_30 (by decide) (fun h30 => ?_) (fun h30 => ?_)
        · have e5 : keptC P fu fv i w = -1 := if_neg (fun q => q.2.1 h30)
          refine G_iconst (pc := 42) (v := -1) M dX6_kept_42 (by decide +kernel) ?_
          exact G_iret M hr dX6_kept_43 rfl ⟨by rw [e5]; rfl, rfl⟩
        · refine G_iload_n (pc := 33) M dX6_kept_33 rfl ?_
          refine G_aload (pc := 34) M dX6_kept_34 rfl ?_
          refine G_getf (pc := 36) M dX6_kept_36 fl_X6_96 rfl (by first | rfl | assumption) ?_
          refine G_icmp_lt (pc := 39) M 44 dX6_kept_39 (by decide) (fun h39 => ?_) (fun h39 => ?_)
          · obtain ⟨p, hp, rfl⟩ : ∃ p : Nat, p < sZ P ∧ i = nI p := by
              obtain ⟨p, hp, rfl⟩ := nI_of h30
              exact ⟨p, (nI_ltI hp (by omega)).mp h39, rfl⟩
            obtain ⟨k1, k2, k3⟩ := hK p hp
            have e6 : keptC P fu fv (nI p) w = (if w = 2 then sTt P p else if w = 0 then nI (fu p) else nI (fv p)) := by rw [keptC, if_pos ⟨hw, h30, h39⟩, cl_nI (by omega)]
            refine G_iload_n (pc := 44) M dX6_kept_44 rfl ?_
            refine G_iconst (pc := 45) (v := 2) M dX6_kept_45 (by decide +kernel) ?_
            refine G_icmp_ne (pc := 46) M 57 dX6_kept_46 (by decide) (fun h46 => ?_) (fun h46 => ?_)
            · rw [if_neg h46] at e6
              refine G_iload_n (pc := 57) M dX6_kept_57 rfl ?_
              refine G_if_ne (pc := 58) M 74 dX6_kept_58 (by decide) (fun h58 => ?_) (fun h58 => ?_)
              · rw [if_neg h58] at e6
                refine G_aload (pc := 74) M dX6_kept_74 rfl ?_
                refine G_getr (pc := 76) M dX6_kept_76 fl_X6_155 rfl (by first | rfl | assumption) ?_
                refine G_iload_n (pc := 79) M dX6_kept_79 rfl ?_
                refine G_iaload (pc := 80) M dX6_kept_80 rfl (by first | assumption | exact vp_in_nI (by omega) (by omega)) ?_
                rw [cl_nI (by omega), k1]
                refine G_calls (pc := 81) M [] dX6_kept_81 ms_X6_145 (c_greaterNode D _ (fun j => ad (pn [] j)) (nI (64 * fu p + fv p))) trivial rfl rfl rfl rfl (Nat.le_of_ble_eq_true rfl) (Nat.le_of_ble_eq_true rfl) (Nat.le_of_ble_eq_true rfl) ⟨Nat.zero_le _, Nat.zero_le _⟩ (fun v c1 hq hlen => ?_)
                obtain ⟨rfl, rfl⟩ := hq
                try dsimp only [sall, List.set, Option.toList, List.cons_append, List.nil_append]
                exact G_iret M hr dX6_kept_84 rfl ⟨by first | (rw [e6]; rfl) | (rw [key_rem k2 k3, e6]; rfl), rfl⟩
              · rw [if_pos (by simpa using h58)] at e6
                refine G_aload (pc := 61) M dX6_kept_61 rfl ?_
                refine G_getr (pc := 63) M dX6_kept_63 fl_X6_155 rfl (by first | rfl | assumption) ?_
                refine G_iload_n (pc := 66) M dX6_kept_66 rfl ?_
                refine G_iaload (pc := 67) M dX6_kept_67 rfl (by first | assumption | exact vp_in_nI (by omega) (by omega)) ?_
                rw [cl_nI (by omega), k1]
                refine G_calls (pc := 68) M [] dX6_kept_68 ms_X6_142 (c_lesserNode D _ (fun j => ad (pn [] j)) (nI (64 * fu p + fv p))) trivial rfl rfl rfl rfl (Nat.le_of_ble_eq_true rfl) (Nat.le_of_ble_eq_true rfl) (Nat.le_of_ble_eq_true rfl) ⟨Nat.zero_le _, Nat.zero_le _⟩ (fun v c1 hq hlen => ?_)
                obtain ⟨rfl, rfl⟩ := hq
                try dsimp only [sall, List.set, Option.toList, List.cons_append, List.nil_append]
                rw [key_div k2 k3]
                refine G_goto (pc := 71) M 84 dX6_kept_71 (by decide) ?_
                exact G_iret M hr dX6_kept_84 rfl ⟨by first | (rw [e6]; rfl) | (rw [key_rem k2 k3, e6]; rfl), rfl⟩
            · rw [if_pos (by simpa using h46)] at e6
              refine G_aload (pc := 49) M dX6_kept_49 rfl ?_
              refine G_getr (pc := 51) M dX6_kept_51 fl_X6_154 rfl (by first | rfl | assumption) ?_
              refine G_iload_n (pc := 54) M dX6_kept_54 rfl ?_
              refine G_iaload (pc := 55) M dX6_kept_55 rfl (by first | assumption | exact vp_in_nI (by omega) (by omega)) ?_
              rw [cl_nI (by omega)]
              exact G_iret M hr dX6_kept_56 rfl ⟨by first | (rw [e6]; rfl) | (rw [key_rem k2 k3, e6]; rfl), rfl⟩
          · have e5 : keptC P fu fv i w = -1 := if_neg (fun q => h39 q.2.2)
            refine G_iconst (pc := 42) (v := -1) M dX6_kept_42 (by decide +kernel) ?_
            exact G_iret M hr dX6_kept_43 rfl ⟨by rw [e5]; rfl, rfl⟩
      · have e5 : keptC P fu fv i w = -1 := if_neg (fun q => by rw [rng_f2 h13] at q; cases q.1)
        refine G_iconst (pc := 16) (v := -1) M dX6_kept_16 (by decide +kernel) ?_
        exact G_iret M hr dX6_kept_17 rfl ⟨by first | rfl | rw [e5]; rfl, rfl⟩
theorem c_mate (D : DD) (l : Launch) (ad : Nat → Nat) (lev : Int32) (f : Nat → Option Nat) (P : SP) (nd : Nat → Int32) (s a : Int32) (hf : okS s = true → f s.toNatClampNeg = some (ad 2)) (hnd : nd s.toNatClampNeg = nI (sNn P)) (hn : sNn P ≤ 64) : Ct D l mi_X6_mate [.ref (ad 0), .int s, .int a] ad (scW D ad lev f P) (scQ D ad lev f P (bif okN nd s a then sMt P a.toNatClampNeg else -1)) := by
  refine Ct.of (by decide +kernel) (Nat.le_of_ble_eq_true rfl) (fun X A hX M hr => ?_)
  subst hX
  refine G_aload_n (pc := 0) M dX6_mate_0 rfl ?_
  refine G_iload_n (pc := 1) M dX6_mate_1 rfl ?_
  refine G_iload_n (pc := 2) M dX6_mate_2 rfl ?_
  refine G_callv (pc := 3) M [0, 1, 2] dX6_mate_3 mv_X6_117 (c_noNode D _ (fun j => ad (pn [0, 1, 2] j)) _ _ f nd s a rfl hf (by rw [hnd]; rfl)) rfl ⟨rfl, rfl, rfl, trivial⟩ rfl rfl rfl rfl (Nat.le_of_ble_eq_true rfl) (Nat.le_of_ble_eq_true rfl) (Nat.le_of_ble_eq_true rfl) ⟨Nat.zero_le _, Nat.zero_le _⟩ (fun v c1 hq hlen => ?_)
  obtain ⟨rfl, rfl⟩ := hq
  try dsimp only [sall, List.set, Option.toList, List.cons_append, List.nil_append]
  refine G_if_eq (pc := 6) M 11 dX6_mate_6 (by decide) (fun h6 => ?_) (fun h6 => ?_)
  · have h6b : okN nd s a = true := by simpa using bz0 (b := !okN nd s a) h6
    have hs := okN_s h6b
    have ha := okN_in h6b hnd hn
    rw [h6b]
    refine G_aload_n (pc := 11) M dX6_mate_11 rfl ?_
    refine G_getf (pc := 12) M dX6_mate_12 fl_X6_11 rfl (by first | rfl | assumption) ?_
    refine G_iload_n (pc := 15) M dX6_mate_15 rfl ?_
    refine G_aaload (pc := 16) M dX6_mate_16 rfl (vp3 hs) (hf hs) ?_
    refine G_getr (pc := 17) M dX6_mate_17 fl_X6_99 rfl (by first | rfl | assumption) ?_
    refine G_getr (pc := 20) M dX6_mate_20 fl_X6_156 rfl (by first | rfl | assumption) ?_
    refine G_iload_n (pc := 23) M dX6_mate_23 rfl ?_
    refine G_iaload (pc := 24) M dX6_mate_24 rfl (ha) ?_
    exact G_iret M hr dX6_mate_25 rfl ⟨rfl, rfl⟩
  · have h6b : okN nd s a = false := by simpa using bz1 h6
    rw [h6b]
    refine G_iconst (pc := 9) (v := -1) M dX6_mate_9 (by decide +kernel) ?_
    exact G_iret M hr dX6_mate_10 rfl ⟨rfl, rfl⟩
def sumC (P : SP) (a lv w : Int32) : Int64 := bif rng 0 9 lv && rng 0 2 w then sS P (30 * a.toNatClampNeg + (3 * lv.toNatClampNeg + w.toNatClampNeg)) else 0
theorem rng_of {hi x : Int32} {n : Nat} (hh : hi.toInt = n) (h : rng 0 hi x = true) : ∃ k : Nat, k ≤ n ∧ x = nI k := by
  simp only [rng, Bool.and_eq_true, Bool.not_eq_true', decide_eq_false_iff_not] at h
  exact nI_of2 hh h.1 (Int32.not_lt.mp h.2)
theorem lt_le1 {x : Int32} {a b : Int32} (h : b.toInt = a.toInt + 1) : x < b ↔ x ≤ a := by
  rw [Int32.lt_iff_toInt_lt, Int32.le_iff_toInt_le, h]
  omega
theorem c_sum (D : DD) (l : Launch) (ad : Nat → Nat) (lev : Int32) (f : Nat → Option Nat) (P : SP) (nd : Nat → Int32) (s a lv w : Int32) (hf : okS s = true → f s.toNatClampNeg = some (ad 2)) (hnd : nd s.toNatClampNeg = nI (sNn P)) (hn : sNn P ≤ 64) : Ct D l mi_X6_sum [.ref (ad 0), .int s, .int a, .int lv, .int w] ad (scW D ad lev f P) (fun v c => v = some (.long (bif okN nd s a then sumC P a lv w else 0)) ∧ c = scW D ad lev f P) := by
  refine Ct.of (by decide +kernel) (Nat.le_of_ble_eq_true rfl) (fun X A hX M hr => ?_)
  subst hX
  refine G_aload_n (pc := 0) M dX6_sum_0 rfl ?_
  refine G_iload_n (pc := 1) M dX6_sum_1 rfl ?_
  refine G_iload_n (pc := 2) M dX6_sum_2 rfl ?_
  refine G_callv (pc := 3) M [0, 1, 2] dX6_sum_3 mv_X6_117 (c_noNode D _ (fun j => ad (pn [0, 1, 2] j)) _ _ f nd s a rfl hf (by rw [hnd]; rfl)) rfl ⟨rfl, rfl, rfl, trivial⟩ rfl rfl rfl rfl (Nat.le_of_ble_eq_true rfl) (Nat.le_of_ble_eq_true rfl) (Nat.le_of_ble_eq_true rfl) ⟨Nat.zero_le _, Nat.zero_le _⟩ (fun v c1 hq hlen => ?_)
  obtain ⟨rfl, rfl⟩ := hq
  try dsimp only [sall, List.set, Option.toList, List.cons_append, List.nil_append]
  refine G_if_ne (pc := 6) M 30 dX6_sum_6 (by decide) (fun h6 => ?_) (fun h6 => ?_)
  · have h6b : okN nd s a = false := by simpa using bz1 h6
    rw [h6b]
    refine G_lconst (pc := 30) (v := 0) M dX6_sum_30 (by decide +kernel) ?_
    exact G_lret M hr dX6_sum_31 rfl ⟨by first | rfl | (rw [e5]; rfl), rfl⟩
  · have h6b : okN nd s a = true := by simpa using bz0 (b := !okN nd s a) (by simpa using h6)
    have hs := okN_s h6b
    rw [h6b]
    refine G_iload_n (pc := 9) M dX6_sum_9 rfl ?_
    refine G_if_lt (pc := 10) M 30 dX6_sum_10 (by decide) (fun h10 => ?_) (fun h10 => ?_)
    · have e5 : sumC P a lv w = 0 := by rw [sumC, rng_f1 h10]; rfl
      refine G_lconst (pc := 30) (v := 0) M dX6_sum_30 (by decide +kernel) ?_
      exact G_lret M hr dX6_sum_31 rfl ⟨by first | rfl | (rw [e5]; rfl), rfl⟩
    · refine G_iload_n (pc := 13) M dX6_sum_13 rfl ?_
      refine G_bipush (pc := 14) (v := 10) M dX6_sum_14 (by decide +kernel) ?_
      refine G_icmp_ge (pc := 16) M 30 dX6_sum_16 (by decide) (fun h16 => ?_) (fun h16 => ?_)
      · have e5 : sumC P a lv w = 0 := by rw [sumC, rng_f2 (fun q => Int32.not_lt.mpr h16 ((lt_le1 (a := 9) (b := 10) rfl).mpr q))]; rfl
        refine G_lconst (pc := 30) (v := 0) M dX6_sum_30 (by decide +kernel) ?_
        exact G_lret M hr dX6_sum_31 rfl ⟨by first | rfl | (rw [e5]; rfl), rfl⟩
      · have hlv : rng 0 9 lv = true := rng_t h10 ((lt_le1 (a := 9) (b := 10) rfl).mp (Int32.not_le.mp h16))
        refine G_iload (pc := 19) M dX6_sum_19 rfl ?_
        refine G_if_lt (pc := 21) M 30 dX6_sum_21 (by decide) (fun h21 => ?_) (fun h21 => ?_)
        · have e5 : sumC P a lv w = 0 := by rw [sumC, rng_f1 h21, Bool.and_false]; rfl
          refine G_lconst (pc := 30) (v := 0) M dX6_sum_30 (by decide +kernel) ?_
          exact G_lret M hr dX6_sum_31 rfl ⟨by first | rfl | (rw [e5]; rfl), rfl⟩
        · refine G_iload (pc := 24) M dX6_sum_24 rfl ?_
          refine G_iconst (pc := 26) (v := 3) M dX6_sum_26 (by decide +kernel) ?_
          refine G_icmp_lt (pc := 27) M 32 dX6_sum_27 (by decide) (fun h27 => ?_) (fun h27 => ?_)
          · have hw : rng 0 2 w = true := rng_t h21 ((lt_le1 (a := 2) (b := 3) rfl).mp h27)
            have e6 : sumC P a lv w = sS P (30 * a.toNatClampNeg + (3 * lv.toNatClampNeg + w.toNatClampNeg)) := by rw [sumC, hlv, hw]; rfl
            obtain ⟨i, k, -, -, hk, rfl⟩ := okN_of h6b hnd hn
            obtain ⟨v2, hv2, rfl⟩ := rng_of (n := 9) rfl hlv
            obtain ⟨w2, hw2, rfl⟩ := rng_of (n := 2) rfl hw
            rw [cl_nI (n := k) (by omega), cl_nI (n := v2) (by omega), cl_nI (n := w2) (by omega)] at e6
            refine G_aload_n (pc := 32) M dX6_sum_32 rfl ?_
            refine G_getf (pc := 33) M dX6_sum_33 fl_X6_11 rfl (by first | rfl | assumption) ?_
            refine G_iload_n (pc := 36) M dX6_sum_36 rfl ?_
            refine G_aaload (pc := 37) M dX6_sum_37 rfl (vp3 hs) (hf hs) ?_
            refine G_getr (pc := 38) M dX6_sum_38 fl_X6_42 rfl (by first | rfl | assumption) ?_
            refine G_getr (pc := 41) M dX6_sum_41 fl_X6_159 rfl (by first | rfl | assumption) ?_
            refine G_iload_n (pc := 44) M dX6_sum_44 rfl ?_
            refine G_iload_n (pc := 45) M dX6_sum_45 rfl ?_
            refine G_calls (pc := 46) M [] dX6_sum_46 ms_X6_163 (c_placeOf D _ (fun j => ad (pn [] j)) (nI k) (nI v2)) trivial rfl rfl rfl rfl (Nat.le_of_ble_eq_true rfl) (Nat.le_of_ble_eq_true rfl) (Nat.le_of_ble_eq_true rfl) ⟨Nat.zero_le _, Nat.zero_le _⟩ (fun v c1 hq hlen => ?_)
            obtain ⟨rfl, rfl⟩ := hq
            try dsimp only [sall, List.set, Option.toList, List.cons_append, List.nil_append]
            rw [plc]
            refine G_iload (pc := 49) M dX6_sum_49 rfl ?_
            refine G_iadd (pc := 51) M dX6_sum_51 ?_
            rw [nI_add, Nat.add_assoc]
            refine G_laload (pc := 52) M dX6_sum_52 rfl (by first | assumption | exact vp_in_nI (by omega) (by omega)) ?_
            rw [cl_nI (by omega)]
            exact G_lret M hr dX6_sum_53 rfl ⟨by rw [e6]; rfl, rfl⟩
          · have e5 : sumC P a lv w = 0 := by rw [sumC, rng_f2 (x := w) (fun q => h27 ((lt_le1 (a := 2) (b := 3) rfl).mpr q)), Bool.and_false]; rfl
            refine G_lconst (pc := 30) (v := 0) M dX6_sum_30 (by decide +kernel) ?_
            exact G_lret M hr dX6_sum_31 rfl ⟨by first | rfl | (rw [e5]; rfl), rfl⟩
theorem c_level (D : DD) (l : Launch) (ad : Nat → Nat) (x : Value) (lev : Int32) : Ct D l mi_X6_level [.ref (ad 0)] ad [ob 6 [x, .int lev]] (fun v c => v = some (.int lev) ∧ c = [ob 6 [x, .int lev]]) := by
  refine Ct.of (by decide +kernel) (Nat.le_of_ble_eq_true rfl) (fun X A hX M hr => ?_)
  subst hX
  refine G_aload_n (pc := 0) M dX6_level_0 rfl ?_
  refine G_getf (pc := 1) M dX6_level_1 fl_X6_16 rfl (by first | rfl | assumption) ?_
  exact G_iret M hr dX6_level_4 rfl ⟨rfl, rfl⟩
/-- the greatest level below m at which a key leads out -/
def oS (S : Nat → Int64) (set : Int64) (nn : Nat) : Nat → Option (Nat × Nat)
  | 0 => none
  | m + 1 => match oK S set m nn with
    | some k => some (m, k)
    | none => oS S set nn m
def oA (S : Nat → Int64) (set : Int64) (nn : Nat) : Option (Nat × Nat) → Int32
  | none => bif notB S set nn then -4 else -5
  | some q => nI q.2
def oL : Option (Nat × Nat) → Int32
  | none => -2
  | some q => nI q.1
theorem oI_ne (o : Option Nat) (h : ∀ k, o = some k → k < 2 ^ 30) : oI o = -2 ↔ o = none := by
  cases o with
  | none => exact ⟨fun _ => rfl, fun _ => rfl⟩
  | some k =>
    refine ⟨fun q => ?_, fun q => by cases q⟩
    have := nI_pos (n := k) (by have := h k rfl; omega)
    rw [show nI k = -2 from q] at this
    exact absurd (by decide) this
theorem oK_lt {S : Nat → Int64} {set : Int64} {lv nn k : Nat} (h : oK S set lv nn = some k) : k < 4096 := by
  unfold oK at h
  split at h
  · next hh =>
    obtain ⟨-, kk, h1, h2, -⟩ := hh
    rw [h2, lN_toNat h1] at h
    cases h
    exact h1
  · cases h
theorem out_loop {D : DD} {X : MX} {A : Nat → Prop} (M : CX D X A mi_X6_out.1.cls mi_X6_out.2.1 mi_X6_out.2.2.1 (miR mi_X6_out)) (hr : RT X mi_X6_out.2.2.2.1) {ad : Nat → Nat} {f : Nat → Option Nat} {P : SP} {s : Int32} {set : Int64} (hn : sNn P ≤ 64) : ∀ m : Nat, m ≤ 10 → ∀ z : Option Value,
    G D X A 0 0 (GQ D X A ad 18 (fun v c => v = some (.int (oA (sS P) set (sNn P) (oS (sS P) set (sNn P) m))) ∧ c = scW D ad (oL (oS (sS P) set (sNn P) m)) f P)) ad 30 [some (.ref (ad 0)), some (.int s), some (.long set), none, some (.ref (ad 16)), some (.int (nI m - 1)), z] [] (scW D ad (-2) f P) := by
  intro m
  induction m with
  | zero =>
    intro _ z
    refine G_iload (pc := 30) M dX6_out_30 rfl ?_
    refine G_if_lt (pc := 32) M 67 dX6_out_32 (by decide) (fun h32 => ?_) (fun h32 => ?_)
    · refine G_aload (pc := 67) M dX6_out_67 rfl ?_
      refine G_lload_n (pc := 69) M dX6_out_69 rfl ?_
      refine G_callv (pc := 70) M [16, 17] dX6_out_70 mv_X6_170 (c_isNothing D _ (fun j => ad (pn [16, 17] j)) (sNn P) (sSd P) set (sS P) hn) rfl ⟨rfl, rfl, trivial⟩ rfl rfl rfl rfl (Nat.le_of_ble_eq_true rfl) (Nat.le_of_ble_eq_true rfl) (Nat.le_of_ble_eq_true rfl) ⟨Nat.zero_le _, Nat.zero_le _⟩ (fun v c1 hq hlen => ?_)
      obtain ⟨rfl, rfl⟩ := hq
      try dsimp only [sall, List.set, Option.toList, List.cons_append, List.nil_append]
      refine G_if_eq (pc := 73) M 81 dX6_out_73 (by decide) (fun h73 => ?_) (fun h73 => ?_)
      · have e := bz0 h73
        refine G_bipush (pc := 81) (v := -5) M dX6_out_81 (by decide +kernel) ?_
        exact G_iret M hr dX6_out_83 rfl ⟨by simp only [oS, oA, e]; rfl, rfl⟩
      · have e := bz1 h73
        refine G_bipush (pc := 76) (v := -4) M dX6_out_76 (by decide +kernel) ?_
        refine G_goto (pc := 78) M 83 dX6_out_78 (by decide) ?_
        exact G_iret M hr dX6_out_83 rfl ⟨by simp only [oS, oA, e]; rfl, rfl⟩
    · exact absurd ((dec_neg (by omega)).mpr rfl) h32
  | succ m ih =>
    intro hm z
    rw [nI_pred]
    have hlt : ∀ k, oK (sS P) set m (sNn P) = some k → k < 2 ^ 30 := fun k h => by have := oK_lt h; omega
    refine G_iload (pc := 30) M dX6_out_30 rfl ?_
    refine G_if_lt (pc := 32) M 67 dX6_out_32 (by decide) (fun h32 => ?_) (fun h32 => ?_)
    · exact absurd h32 (nI_pos (by omega))
    · refine G_aload (pc := 35) M dX6_out_35 rfl ?_
      refine G_lload_n (pc := 37) M dX6_out_37 rfl ?_
      refine G_iload (pc := 38) M dX6_out_38 rfl ?_
      refine G_callv (pc := 40) M [16, 17] dX6_out_40 mv_X6_166 (c_keyOutOf D _ (fun j => ad (pn [16, 17] j)) (sNn P) m (sSd P) set (sS P) hn (by omega)) rfl ⟨rfl, rfl, trivial⟩ rfl rfl rfl rfl (Nat.le_of_ble_eq_true rfl) (Nat.le_of_ble_eq_true rfl) (Nat.le_of_ble_eq_true rfl) ⟨Nat.zero_le _, Nat.zero_le _⟩ (fun v c1 hq hlen => ?_)
      obtain ⟨rfl, rfl⟩ := hq
      try dsimp only [sall, List.set, Option.toList, List.cons_append, List.nil_append]
      refine G_istore (pc := 43) M dX6_out_43 (Nat.le_of_ble_eq_true rfl) ?_
      refine G_iload (pc := 45) M dX6_out_45 rfl ?_
      refine G_bipush (pc := 47) (v := -2) M dX6_out_47 (by decide +kernel) ?_
      refine G_icmp_eq (pc := 49) M 61 dX6_out_49 (by decide) (fun h49 => ?_) (fun h49 => ?_)
      · have e := (oI_ne _ hlt).mp h49
        refine G_iinc (pc := 61) (v := -1) M dX6_out_61 rfl (by decide +kernel) (Nat.le_of_ble_eq_true rfl) ?_
        refine G_goto (pc := 64) M 30 dX6_out_64 (by decide) ?_
        have := ih (by omega)
        rw [m1_sub]
        simp only [oS, e]
        exact this _
      · obtain ⟨k, e⟩ : ∃ k, oK (sS P) set m (sNn P) = some k := by
          cases hq : oK (sS P) set m (sNn P) with
          | none => rw [hq] at h49; exact absurd rfl h49
          | some k => exact ⟨k, rfl⟩
        refine G_aload_n (pc := 52) M dX6_out_52 rfl ?_
        refine G_iload (pc := 53) M dX6_out_53 rfl ?_
        refine G_putfi (pc := 55) M dX6_out_55 fl_X6_16 rfl (Nat.le_of_ble_eq_true rfl) ?_
        try dsimp only [List.set]
        refine G_iload (pc := 58) M dX6_out_58 rfl ?_
        exact G_iret M hr dX6_out_60 rfl ⟨by simp only [oS, oA, e]; rfl, by simp only [oS, oL, e]; rfl⟩
theorem c_out (D : DD) (l : Launch) (ad : Nat → Nat) (lev : Int32) (f : Nat → Option Nat) (P : SP) (s : Int32) (set : Int64) (hf : okS s = true → f s.toNatClampNeg = some (ad 2)) (hn : sNn P ≤ 64) : Ct D l mi_X6_out [.ref (ad 0), .int s, .long set] ad (scW D ad lev f P) (fun v c => v = some (.int (bif okS s then oA (sS P) set (sNn P) (oS (sS P) set (sNn P) 10) else -1)) ∧ c = scW D ad (bif okS s then oL (oS (sS P) set (sNn P) 10) else lev) f P) := by
  refine Ct.of (by decide +kernel) (Nat.le_of_ble_eq_true rfl) (fun X A hX M hr => ?_)
  subst hX
  refine G_iload_n (pc := 0) M dX6_out_0 rfl ?_
  refine G_calls (pc := 1) M [] dX6_out_1 ms_X6_20 (c_noStream D _ (fun j => ad (pn [] j)) s) trivial rfl rfl rfl rfl (Nat.le_of_ble_eq_true rfl) (Nat.le_of_ble_eq_true rfl) (Nat.le_of_ble_eq_true rfl) ⟨Nat.zero_le _, Nat.zero_le _⟩ (fun v c1 hq hlen => ?_)
  obtain ⟨rfl, rfl⟩ := hq
  try dsimp only [sall, List.set, Option.toList, List.cons_append, List.nil_append]
  refine G_if_eq (pc := 4) M 9 dX6_out_4 (by decide) (fun h4 => ?_) (fun h4 => ?_)
  · have hs : okS s = true := by simpa using bz0 h4
    rw [hs]
    refine G_aload_n (pc := 9) M dX6_out_9 rfl ?_
    refine G_getf (pc := 10) M dX6_out_10 fl_X6_11 rfl (by first | rfl | assumption) ?_
    refine G_iload_n (pc := 13) M dX6_out_13 rfl ?_
    refine G_aaload (pc := 14) M dX6_out_14 rfl (vp3 hs) (hf hs) ?_
    refine G_getr (pc := 15) M dX6_out_15 fl_X6_42 rfl (by first | rfl | assumption) ?_
    refine G_astore (pc := 18) M dX6_out_18 (Nat.le_of_ble_eq_true rfl) ?_
    refine G_aload_n (pc := 20) M dX6_out_20 rfl ?_
    refine G_bipush (pc := 21) (v := -2) M dX6_out_21 (by decide +kernel) ?_
    refine G_putfi (pc := 23) M dX6_out_23 fl_X6_16 rfl (Nat.le_of_ble_eq_true rfl) ?_
    try dsimp only [List.set]
    refine G_bipush (pc := 26) (v := 9) M dX6_out_26 (by decide +kernel) ?_
    refine G_istore (pc := 28) M dX6_out_28 (Nat.le_of_ble_eq_true rfl) ?_
    exact out_loop M hr hn 10 (by omega) _
  · have hs : okS s = false := by simpa using bz1 h4
    rw [hs]
    refine G_iconst (pc := 7) (v := -1) M dX6_out_7 (by decide +kernel) ?_
    exact G_iret M hr dX6_out_8 rfl ⟨rfl, rfl⟩
end
section
--NORM
/-! StreamCounts: begin, add, take -/
abbrev bgX (D : DD) (ad : Nat → Nat) (lev : Int32) (f : Nat → Option Nat) (P : SP) (n k t : Int32) (sd : Int64) : List va_E := scX D ad lev f (n.toNatClampNeg) (k.toNatClampNeg) (t.toNatClampNeg) (sd) (0) (0) (0) (fun _ => 0) (sTg P) (0) (sFt P) (sFk P) (sLd P) (0) (sTt P) (sTq P) (fun _ => 0) (0) (fun _ => -2) (fun _ => 0)
def bgB (s n k t : Int32) : Bool := okS s && rng 2 64 n && rng 1 16 k && okT t
theorem okT_of {t : Int32} (h : okT t = true) : ∃ k : Nat, k < 8 ∧ t = nI k := by
  simp only [okT, Bool.or_eq_true, decide_eq_true_eq] at h
  rcases h with ((h | h) | h) | h
  · exact ⟨1, by omega, h⟩
  · exact ⟨3, by omega, h⟩
  · exact ⟨5, by omega, h⟩
  · exact ⟨7, by omega, h⟩
theorem rng_nat {lo hi x : Int32} {n : Nat} (hl : 0 ≤ lo.toInt) (hh : hi.toInt = n) (h : rng lo hi x = true) : ∃ k : Nat, k ≤ n ∧ x = nI k := by
  simp only [rng, Bool.and_eq_true, Bool.not_eq_true', decide_eq_false_iff_not] at h
  refine nI_of2 hh (fun q => h.1 ?_) (Int32.not_lt.mp h.2)
  have := Int32.lt_iff_toInt_lt.mp q
  rw [Int32.lt_iff_toInt_lt]
  have e0 : (0 : Int32).toInt = 0 := rfl
  omega
theorem c_begin (D : DD) (l : Launch) (ad : Nat → Nat) (lev : Int32) (f : Nat → Option Nat) (P : SP) (s n k t : Int32) (sd : Int64) (hf : okS s = true → f s.toNatClampNeg = some (ad 2)) : Ct D l mi_X6_begin [.ref (ad 0), .int s, .int n, .int k, .int t, .long sd] ad (scW D ad lev f P) (fun v c => v = some (.int (bif bgB s n k t then sAg P else -1)) ∧ c = bif bgB s n k t then bgX D ad lev f P n k t sd else scW D ad lev f P) := by
  refine Ct.of (by decide +kernel) (Nat.le_of_ble_eq_true rfl) (fun X A hX M hr => ?_)
  subst hX
  refine G_iload_n (pc := 0) M dX6_begin_0 rfl ?_
  refine G_calls (pc := 1) M [] dX6_begin_1 ms_X6_20 (c_noStream D _ (fun j => ad (pn [] j)) s) trivial rfl rfl rfl rfl (Nat.le_of_ble_eq_true rfl) (Nat.le_of_ble_eq_true rfl) (Nat.le_of_ble_eq_true rfl) ⟨Nat.zero_le _, Nat.zero_le _⟩ (fun v c1 hq hlen => ?_)
  obtain ⟨rfl, rfl⟩ := hq
  try dsimp only [sall, List.set, Option.toList, List.cons_append, List.nil_append]
  refine G_if_ne (pc := 4) M 18 dX6_begin_4 (by decide) (fun h4 => ?_) (fun h4 => ?_)
  · have hs : okS s = false := by simpa using bz1 h4
    have e5 : bgB s n k t = false := by simp [bgB, hs]
    refine G_iconst (pc := 18) (v := -1) M dX6_begin_18 (by decide +kernel) ?_
    exact G_iret M hr dX6_begin_19 rfl ⟨by rw [e5]; rfl, by rw [e5]; rfl⟩
  · have hs : okS s = true := by simpa using bz0 (b := !okS s) (by simpa using h4)
    refine G_iload_n (pc := 7) M dX6_begin_7 rfl ?_
    refine G_iconst (pc := 8) (v := 2) M dX6_begin_8 (by decide +kernel) ?_
    refine G_icmp_lt (pc := 9) M 18 dX6_begin_9 (by decide) (fun h9 => ?_) (fun h9 => ?_)
    · have e5 : bgB s n k t = false := by simp [bgB, rng_f1 (hi := 64) h9]
      refine G_iconst (pc := 18) (v := -1) M dX6_begin_18 (by decide +kernel) ?_
      exact G_iret M hr dX6_begin_19 rfl ⟨by rw [e5]; rfl, by rw [e5]; rfl⟩
    · refine G_iload_n (pc := 12) M dX6_begin_12 rfl ?_
      refine G_bipush (pc := 13) (v := 64) M dX6_begin_13 (by decide +kernel) ?_
      refine G_icmp_le (pc := 15) M 20 dX6_begin_15 (by decide) (fun h15 => ?_) (fun h15 => ?_)
      · have hn := rng_t h9 h15
        refine G_iload_n (pc := 20) M dX6_begin_20 rfl ?_
        refine G_iconst (pc := 21) (v := 1) M dX6_begin_21 (by decide +kernel) ?_
        refine G_icmp_lt (pc := 22) M 39 dX6_begin_22 (by decide) (fun h22 => ?_) (fun h22 => ?_)
        · have e5 : bgB s n k t = false := by simp [bgB, rng_f1 (hi := 16) h22]
          refine G_iconst (pc := 39) (v := -1) M dX6_begin_39 (by decide +kernel) ?_
          exact G_iret M hr dX6_begin_40 rfl ⟨by rw [e5]; rfl, by rw [e5]; rfl⟩
        · refine G_iload_n (pc := 25) M dX6_begin_25 rfl ?_
          refine G_bipush (pc := 26) (v := 16) M dX6_begin_26 (by decide +kernel) ?_
          refine G_icmp_gt (pc := 28) M 39 dX6_begin_28 (by decide) (fun h28 => ?_) (fun h28 => ?_)
          · have e5 : bgB s n k t = false := by simp [bgB, rng_f2 (lo := 1) (x := k) (Int32.not_le.mpr h28)]
            refine G_iconst (pc := 39) (v := -1) M dX6_begin_39 (by decide +kernel) ?_
            exact G_iret M hr dX6_begin_40 rfl ⟨by rw [e5]; rfl, by rw [e5]; rfl⟩
          · have hk := rng_t h22 (Int32.not_lt.mp h28)
            refine G_iload (pc := 31) M dX6_begin_31 rfl ?_
            refine G_calls (pc := 33) M [] dX6_begin_33 ms_X6_24 (c_isStretch D _ (fun j => ad (pn [] j)) t) trivial rfl rfl rfl rfl (Nat.le_of_ble_eq_true rfl) (Nat.le_of_ble_eq_true rfl) (Nat.le_of_ble_eq_true rfl) ⟨Nat.zero_le _, Nat.zero_le _⟩ (fun v c1 hq hlen => ?_)
            obtain ⟨rfl, rfl⟩ := hq
            try dsimp only [sall, List.set, Option.toList, List.cons_append, List.nil_append]
            refine G_if_ne (pc := 36) M 41 dX6_begin_36 (by decide) (fun h36 => ?_) (fun h36 => ?_)
            · have ht := bz1 h36
              have e5 : bgB s n k t = true := by simp [bgB, hs, hn, hk, ht]
              obtain ⟨n1, hn1, rfl⟩ := rng_nat (n := 64) (by decide) rfl hn
              obtain ⟨k1, hk1, rfl⟩ := rng_nat (n := 16) (by decide) rfl hk
              obtain ⟨t1, ht1, rfl⟩ := okT_of ht
              rw [e5, bgX, cl_nI (n := n1) (by omega), cl_nI (n := k1) (by omega), cl_nI (n := t1) (by omega)]
              refine G_aload_n (pc := 41) M dX6_begin_41 rfl ?_
              refine G_getf (pc := 42) M dX6_begin_42 fl_X6_11 rfl (by first | rfl | assumption) ?_
              refine G_iload_n (pc := 45) M dX6_begin_45 rfl ?_
              refine G_aaload (pc := 46) M dX6_begin_46 rfl (vp3 hs) (hf hs) ?_
              refine G_getf (pc := 47) M dX6_begin_47 fl_X6_27 rfl (by first | rfl | assumption) ?_
              refine G_istore (pc := 50) M dX6_begin_50 (Nat.le_of_ble_eq_true rfl) ?_
              refine G_aload_n (pc := 52) M dX6_begin_52 rfl ?_
              refine G_getf (pc := 53) M dX6_begin_53 fl_X6_11 rfl (by first | rfl | assumption) ?_
              refine G_iload_n (pc := 56) M dX6_begin_56 rfl ?_
              refine G_aaload (pc := 57) M dX6_begin_57 rfl (vp3 hs) (hf hs) ?_
              refine G_iload_n (pc := 58) M dX6_begin_58 rfl ?_
              refine G_iload_n (pc := 59) M dX6_begin_59 rfl ?_
              refine G_iload (pc := 60) M dX6_begin_60 rfl ?_
              refine G_lload (pc := 62) M dX6_begin_62 rfl ?_
              refine G_callv (pc := 64) M [2, 3, 4, 5, 6, 7, 8, 9, 10, 11, 12, 13, 14, 15, 16, 17] dX6_begin_64 mv_X6_30 (c_sRestart D _ (fun j => ad (pn [2, 3, 4, 5, 6, 7, 8, 9, 10, 11, 12, 13, 14, 15, 16, 17] j)) (sNn P) (sKk P) (sSt P) n1 k1 t1 (sSd P) sd (sAg P) (sTk P) (sLo P) (sC P) (sTg P) (sFn P) (sFt P) (sFk P) (sLd P) (sZ P) (sTt P) (sTq P) (sNb P) (sPr P) (sMt P) (sS P)) rfl ⟨rfl, rfl, rfl, rfl, rfl, rfl, rfl, rfl, rfl, rfl, rfl, rfl, rfl, rfl, rfl, rfl, trivial⟩ rfl rfl rfl rfl (Nat.le_of_ble_eq_true rfl) (Nat.le_of_ble_eq_true rfl) (Nat.le_of_ble_eq_true rfl) ⟨Nat.zero_le _, Nat.zero_le _⟩ (fun v c1 hq hlen => ?_)
              obtain ⟨rfl, rfl⟩ := hq
              try dsimp only [sall, List.set, Option.toList, List.cons_append, List.nil_append]
              refine G_iload (pc := 67) M dX6_begin_67 rfl ?_
              exact G_iret M hr dX6_begin_69 rfl ⟨rfl, rfl⟩
            · have e5 : bgB s n k t = false := by simp [bgB, bz0 (b := okT t) (by simpa using h36)]
              refine G_iconst (pc := 39) (v := -1) M dX6_begin_39 (by decide +kernel) ?_
              exact G_iret M hr dX6_begin_40 rfl ⟨by rw [e5]; rfl, by rw [e5]; rfl⟩
      · have e5 : bgB s n k t = false := by simp [bgB, rng_f2 (lo := 2) h15]
        refine G_iconst (pc := 18) (v := -1) M dX6_begin_18 (by decide +kernel) ?_
        exact G_iret M hr dX6_begin_19 rfl ⟨by rw [e5]; rfl, by rw [e5]; rfl⟩
abbrev adX1 (D : DD) (ad : Nat → Nat) (lev : Int32) (f : Nat → Option Nat) (P : SP) (fu fv : Nat → Nat) (a b : Nat) (ld : Nat → Int32) : List va_E := scX D ad lev f (sNn P) (sKk P) (sSt P) (sSd P) (sAg P + 1) (kT (kC (sC P) (sNn P) (sKk P) (sTk P) a) (sNn P) (sKk P) (kT (sC P) (sNn P) (sKk P) (sTk P) a) b) (kL (kC (sC P) (sNn P) (sKk P) (sTk P) a) (sKk P) (kT (sC P) (sNn P) (sKk P) (sTk P) a) (kL (sC P) (sKk P) (sTk P) (sLo P) a) b) (kC (kC (sC P) (sNn P) (sKk P) (sTk P) a) (sNn P) (sKk P) (kT (sC P) (sNn P) (sKk P) (sTk P) a) b) (sTg P) (facN (sFn P) (obt fu fv (sFn P) (min a b) (max a b) (sFn P))) (facF (sFt P) (sFn P) (obt fu fv (sFn P) (min a b) (max a b) (sFn P)) (sAg P + 1)) (facF (sFk P) (sFn P) (obt fu fv (sFn P) (min a b) (max a b) (sFn P)) (nI (64 * min a b + max a b))) (ld) (sZ P + 1) (upd (sTt P) (sZ P) (sAg P + 1)) (upd (sTq P) (sZ P) (nI (64 * min a b + max a b))) (nbA (sNb P) (min a b) (max a b)) ((bif mtB (sMt P) (min a b) (max a b) then sPr P + 1 else sPr P)) (mtF (sMt P) (min a b) (max a b)) (chgR (sS P) (min a b) (max a b) (arcKey (min a b) (max a b)) 1 (lvK (sSd P) (arcKey (min a b) (max a b)) + 1))
abbrev adX2 (D : DD) (ad : Nat → Nat) (lev : Int32) (f : Nat → Option Nat) (P : SP) (fu fv : Nat → Nat) (a b : Nat) (ld : Nat → Int32) : List va_E := scX D ad lev f (sNn P) (sKk P) (sSt P) (sSd P) (sAg P + 1) (kT (kC (sC P) (sNn P) (sKk P) (sTk P) a) (sNn P) (sKk P) (kT (sC P) (sNn P) (sKk P) (sTk P) a) b) (kL (kC (sC P) (sNn P) (sKk P) (sTk P) a) (sKk P) (kT (sC P) (sNn P) (sKk P) (sTk P) a) (kL (sC P) (sKk P) (sTk P) (sLo P) a) b) (kC (kC (sC P) (sNn P) (sKk P) (sTk P) a) (sNn P) (sKk P) (kT (sC P) (sNn P) (sKk P) (sTk P) a) b) (sTg P) (facN (sFn P) (obt fu fv (sFn P) (min a b) (max a b) (sFn P))) (facF (sFt P) (sFn P) (obt fu fv (sFn P) (min a b) (max a b) (sFn P)) (sAg P + 1)) (facF (sFk P) (sFn P) (obt fu fv (sFn P) (min a b) (max a b) (sFn P)) (nI (64 * min a b + max a b))) (ld) (sZ P) (sTt P) (sTq P) (sNb P) ((bif mtB (sMt P) (min a b) (max a b) then sPr P + 1 else sPr P)) (mtF (sMt P) (min a b) (max a b)) (chgR (sS P) (min a b) (max a b) (arcKey (min a b) (max a b)) 1 (lvK (sSd P) (arcKey (min a b) (max a b)) + 1))
def adB (P : SP) (a b : Nat) : Prop := dst (sNb P) (sNn P) (max a b) (sSt P + 1) 0 (one (min a b)) (one (min a b)) = -2
abbrev arB (nd : Nat → Int32) (s a b : Int32) : Bool := okN nd s a && okN nd s b && !decide (a = b)
theorem c_add (D : DD) (l : Launch) (ad : Nat → Nat) (lev : Int32) (f : Nat → Option Nat) (P : SP) (nd : Nat → Int32) (s a b : Int32) (fu fv : Nat → Nat) (hf : okS s = true → f s.toNatClampNeg = some (ad 2)) (hnd : nd s.toNatClampNeg = nI (sNn P)) (hn : sNn P ≤ 64) (hst : sSt P ≤ 64) (hfn : sFn P < 64) (hz : sZ P < 512) (hK : fArc (sFn P) (sFk P) fu fv) : Ct D l mi_X6_add [.ref (ad 0), .int s, .int a, .int b] ad (scW D ad lev f P) (fun v c => v = some (.int (bif arB nd s a b then sAg P + 1 else -1)) ∧ ∃ ld, (arB nd s a b = false ∧ c = scW D ad lev f P) ∨ (arB nd s a b = true ∧ adB P a.toNatClampNeg b.toNatClampNeg ∧ c = adX1 D ad lev f P fu fv a.toNatClampNeg b.toNatClampNeg ld) ∨ (arB nd s a b = true ∧ ¬ adB P a.toNatClampNeg b.toNatClampNeg ∧ c = adX2 D ad lev f P fu fv a.toNatClampNeg b.toNatClampNeg ld)) := by
  refine Ct.of (by decide +kernel) (Nat.le_of_ble_eq_true rfl) (fun X A hX M hr => ?_)
  subst hX
  refine G_aload_n (pc := 0) M dX6_add_0 rfl ?_
  refine G_iload_n (pc := 1) M dX6_add_1 rfl ?_
  refine G_iload_n (pc := 2) M dX6_add_2 rfl ?_
  refine G_iload_n (pc := 3) M dX6_add_3 rfl ?_
  refine G_callv (pc := 4) M [0, 1, 2] dX6_add_4 mv_X6_34 (c_noArc D _ (fun j => ad (pn [0, 1, 2] j)) _ _ f nd s a b rfl hf (by rw [hnd]; rfl)) rfl ⟨rfl, rfl, rfl, trivial⟩ rfl rfl rfl rfl (Nat.le_of_ble_eq_true rfl) (Nat.le_of_ble_eq_true rfl) (Nat.le_of_ble_eq_true rfl) ⟨Nat.zero_le _, Nat.zero_le _⟩ (fun v c1 hq hlen => ?_)
  obtain ⟨rfl, rfl⟩ := hq
  try dsimp only [sall, List.set, Option.toList, List.cons_append, List.nil_append]
  refine G_if_eq (pc := 7) M 12 dX6_add_7 (by decide) (fun h7 => ?_) (fun h7 => ?_)
  · have e5 : arB nd s a b = true := by simpa using bz0 (b := !arB nd s a b) h7
    have h6b : okN nd s a = true := by have := e5; simp only [arB, Bool.and_eq_true] at this; exact this.1.1
    have h15b : okN nd s b = true := by have := e5; simp only [arB, Bool.and_eq_true] at this; exact this.1.2
    have hs := okN_s h6b
    rw [e5]
    obtain ⟨i, k, -, -, hk, rfl⟩ := okN_of h6b hnd hn
    obtain ⟨i2, k2, -, -, hk2, rfl⟩ := okN_of h15b hnd hn
    rw [cl_nI (n := k) (by omega), cl_nI (n := k2) (by omega)]
    refine G_aload_n (pc := 12) M dX6_add_12 rfl ?_
    refine G_getf (pc := 13) M dX6_add_13 fl_X6_11 rfl (by first | rfl | assumption) ?_
    refine G_iload_n (pc := 16) M dX6_add_16 rfl ?_
    refine G_aaload (pc := 17) M dX6_add_17 rfl (vp3 hs) (hf hs) ?_
    refine G_iload_n (pc := 18) M dX6_add_18 rfl ?_
    refine G_iload_n (pc := 19) M dX6_add_19 rfl ?_
    refine G_callv (pc := 20) M [2, 3, 4, 5, 6, 7, 8, 9, 10, 11, 12, 13, 14, 15, 16, 17] dX6_add_20 mv_X6_38 (c_sAccept D _ (fun j => ad (pn [2, 3, 4, 5, 6, 7, 8, 9, 10, 11, 12, 13, 14, 15, 16, 17] j)) (sNn P) (sKk P) (sSt P) (sSd P) (sAg P) (sTk P) (sLo P) (sC P) (sTg P) (sFn P) (sFt P) (sFk P) (sLd P) (sZ P) (sTt P) (sTq P) (sNb P) (sPr P) (sMt P) (sS P) k k2 fu fv hn hst (by omega) (by omega) hfn hz hK) rfl ⟨rfl, rfl, rfl, rfl, rfl, rfl, rfl, rfl, rfl, rfl, rfl, rfl, rfl, rfl, rfl, rfl, trivial⟩ rfl rfl rfl rfl (Nat.le_of_ble_eq_true rfl) (Nat.le_of_ble_eq_true rfl) (Nat.le_of_ble_eq_true rfl) ⟨Nat.zero_le _, Nat.zero_le _⟩ (fun v c1 hq hlen => ?_)
    obtain ⟨rfl, ld, rfl⟩ := hq
    try dsimp only [sall, List.set, Option.toList, List.cons_append, List.nil_append]
    by_cases hd : dst (sNb P) (sNn P) (max k k2) (sSt P + 1) 0 (one (min k k2)) (one (min k k2)) = -2
    · rw [if_pos hd]
      try dsimp only [sall, List.set]
      exact G_iret M hr dX6_add_23 rfl ⟨rfl, ld, Or.inr (Or.inl ⟨rfl, hd, rfl⟩)⟩
    rw [if_neg hd]
    try dsimp only [sall, List.set]
    exact G_iret M hr dX6_add_23 rfl ⟨rfl, ld, Or.inr (Or.inr ⟨rfl, hd, rfl⟩)⟩
  · have e5 : arB nd s a b = false := by simpa only [Bool.not_eq_true'] using bz1 (b := !arB nd s a b) h7
    rw [e5]
    refine G_iconst (pc := 10) (v := -1) M dX6_add_10 (by decide +kernel) ?_
    exact G_iret M hr dX6_add_11 rfl ⟨rfl, sLd P, Or.inl ⟨rfl, rfl⟩⟩
end
section
--NORM
abbrev tkX (D : DD) (ad : Nat → Nat) (lev : Int32) (f : Nat → Option Nat) (P : SP) (a b : Nat) : List va_E := scX D ad lev f (sNn P) (sKk P) (sSt P) (sSd P) (sAg P) (sTk P) (sLo P) (sC P) (sTg P) (sFn P) (sFt P) (sFk P) (sLd P) (sZ P) (sTt P) (sTq P) (sNb P) (sPr P) (sMt P) (chgR (sS P) (min a b) (max a b) (arcKey (min a b) (max a b)) (-1) (lvK (sSd P) (arcKey (min a b) (max a b)) + 1))
theorem m1L : (-1 : Int32).toInt64 = -1 := by decide
theorem negm1 : (-(-1 : Int32)).toInt64 = -(-1 : Int32).toInt64 := by decide
theorem c_take (D : DD) (l : Launch) (ad : Nat → Nat) (lev : Int32) (f : Nat → Option Nat) (P : SP) (nd : Nat → Int32) (s a b : Int32) (hf : okS s = true → f s.toNatClampNeg = some (ad 2)) (hnd : nd s.toNatClampNeg = nI (sNn P)) (hn : sNn P ≤ 64) : Ct D l mi_X6_take [.ref (ad 0), .int s, .int a, .int b] ad (scW D ad lev f P) (fun v c => v = some (.int (bif arB nd s a b then nI (lvK (sSd P) (arcKey (min a.toNatClampNeg b.toNatClampNeg) (max a.toNatClampNeg b.toNatClampNeg))) else -1)) ∧ c = bif arB nd s a b then tkX D ad lev f P a.toNatClampNeg b.toNatClampNeg else scW D ad lev f P) := by
  refine Ct.of (by decide +kernel) (Nat.le_of_ble_eq_true rfl) (fun X A hX M hr => ?_)
  subst hX
  refine G_aload_n (pc := 0) M dX6_take_0 rfl ?_
  refine G_iload_n (pc := 1) M dX6_take_1 rfl ?_
  refine G_iload_n (pc := 2) M dX6_take_2 rfl ?_
  refine G_iload_n (pc := 3) M dX6_take_3 rfl ?_
  refine G_callv (pc := 4) M [0, 1, 2] dX6_take_4 mv_X6_34 (c_noArc D _ (fun j => ad (pn [0, 1, 2] j)) _ _ f nd s a b rfl hf (by rw [hnd]; rfl)) rfl ⟨rfl, rfl, rfl, trivial⟩ rfl rfl rfl rfl (Nat.le_of_ble_eq_true rfl) (Nat.le_of_ble_eq_true rfl) (Nat.le_of_ble_eq_true rfl) ⟨Nat.zero_le _, Nat.zero_le _⟩ (fun v c1 hq hlen => ?_)
  obtain ⟨rfl, rfl⟩ := hq
  try dsimp only [sall, List.set, Option.toList, List.cons_append, List.nil_append]
  refine G_if_eq (pc := 7) M 12 dX6_take_7 (by decide) (fun h7 => ?_) (fun h7 => ?_)
  · have e5 : arB nd s a b = true := by simpa using bz0 (b := !arB nd s a b) h7
    have h6b : okN nd s a = true := by have := e5; simp only [arB, Bool.and_eq_true] at this; exact this.1.1
    have h15b : okN nd s b = true := by have := e5; simp only [arB, Bool.and_eq_true] at this; exact this.1.2
    have hs := okN_s h6b
    rw [e5]
    obtain ⟨i, k, -, -, hk, rfl⟩ := okN_of h6b hnd hn
    obtain ⟨i2, k2, -, -, hk2, rfl⟩ := okN_of h15b hnd hn
    rw [cl_nI (n := k) (by omega), cl_nI (n := k2) (by omega)]
    simp only [cond_true, tkX]
    refine G_aload_n (pc := 12) M dX6_take_12 rfl ?_
    refine G_getf (pc := 13) M dX6_take_13 fl_X6_11 rfl (by first | rfl | assumption) ?_
    refine G_iload_n (pc := 16) M dX6_take_16 rfl ?_
    refine G_aaload (pc := 17) M dX6_take_17 rfl (vp3 hs) (hf hs) ?_
    refine G_getr (pc := 18) M dX6_take_18 fl_X6_42 rfl (by first | rfl | assumption) ?_
    refine G_iload_n (pc := 21) M dX6_take_21 rfl ?_
    refine G_iload_n (pc := 22) M dX6_take_22 rfl ?_
    refine G_mmin (pc := 23) M dX6_take_23 mm_X6_46 rfl (Nat.le_of_ble_eq_true rfl) (Nat.le_of_ble_eq_true rfl) (Nat.zero_le _) (Nat.zero_le _) ?_
    rw [mn_nI (by omega) (by omega)]
    refine G_iload_n (pc := 26) M dX6_take_26 rfl ?_
    refine G_iload_n (pc := 27) M dX6_take_27 rfl ?_
    refine G_mmax (pc := 28) M dX6_take_28 mm_X6_51 rfl (Nat.le_of_ble_eq_true rfl) (Nat.le_of_ble_eq_true rfl) (Nat.zero_le _) (Nat.zero_le _) ?_
    rw [mx_nI (by omega) (by omega)]
    refine G_iconst (pc := 31) (v := -1) M dX6_take_31 (by decide +kernel) ?_
    refine G_callv (pc := 32) M [16, 17] dX6_take_32 mv_X6_54 (c_changeC D _ (fun j => ad (pn [16, 17] j)) (sNn P) (sSd P) (sS P) (min k k2) (max k k2) (-1) negm1 (by omega) (by omega)) rfl ⟨rfl, rfl, trivial⟩ rfl rfl rfl rfl (Nat.le_of_ble_eq_true rfl) (Nat.le_of_ble_eq_true rfl) (Nat.le_of_ble_eq_true rfl) ⟨Nat.zero_le _, Nat.zero_le _⟩ (fun v c1 hq hlen => ?_)
    obtain ⟨rfl, rfl⟩ := hq
    try dsimp only [sall, List.set, Option.toList, List.cons_append, List.nil_append]
    rw [m1L]
    generalize lvK (sSd P) (arcKey (min k k2) (max k k2)) = L
    generalize chgR (sS P) (min k k2) (max k k2) (arcKey (min k k2) (max k k2)) (-1) (L + 1) = Z
    exact G_iret M hr dX6_take_35 (Eq.trans (b := 18) rfl rfl) ⟨rfl, rfl⟩
  · have e5 : arB nd s a b = false := by simpa only [Bool.not_eq_true'] using bz1 (b := !arB nd s a b) h7
    rw [e5]
    refine G_iconst (pc := 10) (v := -1) M dX6_take_10 (by decide +kernel) ?_
    exact G_iret M hr dX6_take_11 rfl ⟨rfl, rfl⟩
end
section
--NORM
/-! StreamCounts: merge, same -/
abbrev tw (D : DD) (ad : Nat → Nat) (lev : Int32) (f : Nat → Option Nat) (x1 x2 x3 y1 y2 y3 y4 : Value) (nn kk st : Nat) (sd : Int64) (ag : Int32) (tk lo : Int32) (C tg : Nat → Int32) (S : Nat → Int64) (n2 k2 s2 : Nat) (d2 : Int64) (ag2 tk2 lo2 : Int32) (E : Nat → Int32) (T : Nat → Int64) : List va_E :=
  [ob 6 [.ref (ad 1), .int lev], qa D 3 f, ob 4 [.ref (ad 3), x1, x2, x3, .ref (ad 6), .int (nI nn), .int (nI kk), .int (nI st), .long sd, .int ag], ob 0 [.ref (ad 4), .ref (ad 5), .int (nI nn), .int (nI kk), .int tk, .int lo], ia D 64 C, ia D 64 tg, ob 3 [.ref (ad 7), .int (nI nn), .long sd], la D 1920 S, ob 4 [.ref (ad 9), y1, y2, y3, .ref (ad 11), .int (nI n2), .int (nI k2), .int (nI s2), .long d2, .int ag2], ob 0 [.ref (ad 10), y4, .int (nI n2), .int (nI k2), .int tk2, .int lo2], ia D 64 E, ob 3 [.ref (ad 12), .int (nI n2), .long d2], la D 1920 T]
def sameB (nn kk st n2 k2 s2 : Nat) (sd d2 : Int64) : Bool := decide (nn = n2) && decide (kk = k2) && decide (st = s2) && decide (sd = d2)
theorem c_same2 (D : DD) (l : Launch) (ad : Nat → Nat) (lev : Int32) (f : Nat → Option Nat) (x1 x2 x3 y1 y2 y3 y4 : Value) (nn kk st : Nat) (sd : Int64) (ag : Int32) (tk lo : Int32) (C tg : Nat → Int32) (S : Nat → Int64) (n2 k2 s2 : Nat) (d2 : Int64) (ag2 tk2 lo2 : Int32) (E : Nat → Int32) (T : Nat → Int64) (s o : Int32) (hs : okS s = true) (ho : okS o = true) (hfs : f s.toNatClampNeg = some (ad 2)) (hfo : f o.toNatClampNeg = some (ad 8)) (hb : nn < 100 ∧ kk < 100 ∧ st < 100 ∧ n2 < 100 ∧ k2 < 100 ∧ s2 < 100) (hnn : nn ≤ 64) :
    Ct D l mi_X6_same [.ref (ad 0), .int s, .int o] ad (tw D ad lev f x1 x2 x3 y1 y2 y3 y4 nn kk st sd ag tk lo C tg S n2 k2 s2 d2 ag2 tk2 lo2 E T) (fun v c => v = some (.int (bif sameB nn kk st n2 k2 s2 sd d2 then bz (alkB S T (30 * nn)) else -3)) ∧ c = tw D ad lev f x1 x2 x3 y1 y2 y3 y4 nn kk st sd ag tk lo C tg S n2 k2 s2 d2 ag2 tk2 lo2 E T) := by
  refine Ct.of (by decide +kernel) (Nat.le_of_ble_eq_true rfl) (fun X A hX M hr => ?_)
  subst hX
  refine G_iload_n (pc := 0) M dX6_same_0 rfl ?_
  refine G_calls (pc := 1) M [] dX6_same_1 ms_X6_20 (c_noStream D _ (fun j => ad (pn [] j)) s) trivial rfl rfl rfl rfl (Nat.le_of_ble_eq_true rfl) (Nat.le_of_ble_eq_true rfl) (Nat.le_of_ble_eq_true rfl) ⟨Nat.zero_le _, Nat.zero_le _⟩ (fun v c1 hq hlen => ?_)
  obtain ⟨rfl, rfl⟩ := hq
  try dsimp only [sall, List.set, Option.toList, List.cons_append, List.nil_append]
  refine G_if_ne (pc := 4) M 14 dX6_same_4 (by decide) (fun h4 => ?_) (fun h4 => ?_)
  · exact absurd (by rw [hs]; rfl) h4
  · refine G_iload_n (pc := 7) M dX6_same_7 rfl ?_
    refine G_calls (pc := 8) M [] dX6_same_8 ms_X6_20 (c_noStream D _ (fun j => ad (pn [] j)) o) trivial rfl rfl rfl rfl (Nat.le_of_ble_eq_true rfl) (Nat.le_of_ble_eq_true rfl) (Nat.le_of_ble_eq_true rfl) ⟨Nat.zero_le _, Nat.zero_le _⟩ (fun v c1 hq hlen => ?_)
    obtain ⟨rfl, rfl⟩ := hq
    try dsimp only [sall, List.set, Option.toList, List.cons_append, List.nil_append]
    refine G_if_eq (pc := 11) M 16 dX6_same_11 (by decide) (fun h11 => ?_) (fun h11 => ?_)
    · refine G_aload_n (pc := 16) M dX6_same_16 rfl ?_
      refine G_getf (pc := 17) M dX6_same_17 fl_X6_11 rfl (by first | rfl | assumption) ?_
      refine G_iload_n (pc := 20) M dX6_same_20 rfl ?_
      refine G_aaload (pc := 21) M dX6_same_21 rfl (vp3 hs) (hfs) ?_
      refine G_astore_n (pc := 22) M dX6_same_22 (Nat.le_of_ble_eq_true rfl) ?_
      refine G_aload_n (pc := 23) M dX6_same_23 rfl ?_
      refine G_getf (pc := 24) M dX6_same_24 fl_X6_11 rfl (by first | rfl | assumption) ?_
      refine G_iload_n (pc := 27) M dX6_same_27 rfl ?_
      refine G_aaload (pc := 28) M dX6_same_28 rfl (vp3 ho) (hfo) ?_
      refine G_astore (pc := 29) M dX6_same_29 (Nat.le_of_ble_eq_true rfl) ?_
      refine G_aload_n (pc := 31) M dX6_same_31 rfl ?_
      refine G_aload (pc := 32) M dX6_same_32 rfl ?_
      refine G_callv (pc := 34) M [2, 8] dX6_same_34 mv_X6_60 (c_isApartFrom D _ (fun j => ad (pn [2, 8] j)) _ _ nn kk st n2 k2 s2 sd d2 hb rfl rfl rfl rfl rfl rfl rfl rfl) rfl ⟨rfl, rfl, trivial⟩ rfl rfl rfl rfl (Nat.le_of_ble_eq_true rfl) (Nat.le_of_ble_eq_true rfl) (Nat.le_of_ble_eq_true rfl) ⟨Nat.zero_le _, Nat.zero_le _⟩ (fun v c1 hq hlen => ?_)
      obtain ⟨rfl, rfl⟩ := hq
      try dsimp only [sall, List.set, Option.toList, List.cons_append, List.nil_append]
      refine G_if_eq (pc := 37) M 43 dX6_same_37 (by decide) (fun h37 => ?_) (fun h37 => ?_)
      · have e5 : sameB nn kk st n2 k2 s2 sd d2 = true := by simpa using bz0 (b := !sameB nn kk st n2 k2 s2 sd d2) h37
        rw [e5]
        refine G_aload_n (pc := 43) M dX6_same_43 rfl ?_
        refine G_getr (pc := 44) M dX6_same_44 fl_X6_42 rfl (by first | rfl | assumption) ?_
        refine G_aload (pc := 47) M dX6_same_47 rfl ?_
        refine G_getr (pc := 49) M dX6_same_49 fl_X6_42 rfl (by first | rfl | assumption) ?_
        refine G_callv (pc := 52) M [6, 7, 11, 12] dX6_same_52 mv_X6_174 (c_isAlike D _ (fun j => ad (pn [6, 7, 11, 12] j)) nn sd S T _ hnn rfl) rfl ⟨rfl, rfl, rfl, rfl, trivial⟩ rfl rfl rfl rfl (Nat.le_of_ble_eq_true rfl) (Nat.le_of_ble_eq_true rfl) (Nat.le_of_ble_eq_true rfl) ⟨Nat.zero_le _, Nat.zero_le _⟩ (fun v c1 hq hlen => ?_)
        obtain ⟨rfl, rfl⟩ := hq
        try dsimp only [sall, List.set, Option.toList, List.cons_append, List.nil_append]
        refine G_if_eq (pc := 55) M 62 dX6_same_55 (by decide) (fun h55 => ?_) (fun h55 => ?_)
        · have e6 := bz0 h55
          refine G_iconst (pc := 62) (v := 0) M dX6_same_62 (by decide +kernel) ?_
          exact G_iret M hr dX6_same_63 rfl ⟨by rw [e6]; rfl, rfl⟩
        · have e6 := bz1 h55
          refine G_iconst (pc := 58) (v := 1) M dX6_same_58 (by decide +kernel) ?_
          refine G_goto (pc := 59) M 63 dX6_same_59 (by decide) ?_
          exact G_iret M hr dX6_same_63 rfl ⟨by rw [e6]; rfl, rfl⟩
      · have e5 : sameB nn kk st n2 k2 s2 sd d2 = false := by simpa using bz1 (b := !sameB nn kk st n2 k2 s2 sd d2) h37
        rw [e5]
        refine G_bipush (pc := 40) (v := -3) M dX6_same_40 (by decide +kernel) ?_
        exact G_iret M hr dX6_same_42 rfl ⟨rfl, rfl⟩
    · exact absurd (by rw [ho]; rfl) h11
def mgQ (D : DD) (ad : Nat → Nat) (lev : Int32) (f : Nat → Option Nat) (x1 x2 x3 y1 y2 y3 y4 : Value) (nn kk st : Nat) (sd : Int64) (ag : Int32) (tk lo : Int32) (C : Nat → Int32) (S : Nat → Int64) (n2 k2 s2 : Nat) (d2 : Int64) (ag2 tk2 lo2 : Int32) (E : Nat → Int32) (T : Nat → Int64) : Option Value → List va_E → Prop := fun v c => ∃ tg,
  (sameB nn kk st n2 k2 s2 sd d2 = false ∧ v = some (.int (-3)) ∧ c = tw D ad lev f x1 x2 x3 y1 y2 y3 y4 nn kk st sd ag tk lo C tg S n2 k2 s2 d2 ag2 tk2 lo2 E T) ∨
  (sameB nn kk st n2 k2 s2 sd d2 = true ∧ pfull C E lo lo2 nn kk = true ∧ v = some (.int (-6)) ∧ c = tw D ad lev f x1 x2 x3 y1 y2 y3 y4 nn kk st sd ag tk lo C tg S n2 k2 s2 d2 ag2 tk2 lo2 E T) ∨
  (sameB nn kk st n2 k2 s2 sd d2 = true ∧ pfull C E lo lo2 nn kk = false ∧ v = some (.int (nI (cntP (lsD (sm2 C E) (pcut C E nn kk)) nn))) ∧ c = tw D ad lev f x1 x2 x3 y1 y2 y3 y4 nn kk st sd ag (nI (cntP (lsD (sm2 C E) (pcut C E nn kk)) nn)) (plost C E lo lo2 nn kk).toInt32 (fun j => if j < nn then lsD (sm2 C E) (pcut C E nn kk) j else C j) tg (addK S T (30 * nn)) n2 k2 s2 d2 ag2 tk2 lo2 E T)
theorem c_merge2 (D : DD) (l : Launch) (ad : Nat → Nat) (lev : Int32) (f : Nat → Option Nat) (x1 x2 x3 y1 y2 y3 y4 : Value) (nn kk st : Nat) (sd : Int64) (ag : Int32) (tk lo : Int32) (C tg : Nat → Int32) (S : Nat → Int64) (n2 k2 s2 : Nat) (d2 : Int64) (ag2 tk2 lo2 : Int32) (E : Nat → Int32) (T : Nat → Int64) (s o : Int32) (hs : okS s = true) (ho : okS o = true) (hso : ¬ s = o) (hfs : f s.toNatClampNeg = some (ad 2)) (hfo : f o.toNatClampNeg = some (ad 8)) (hb : nn < 100 ∧ kk < 100 ∧ st < 100 ∧ n2 < 100 ∧ k2 < 100 ∧ s2 < 100) (hnn : nn ≤ 64) (hkk : kk < 64) :
    Ct D l mi_X6_merge [.ref (ad 0), .int s, .int o] ad (tw D ad lev f x1 x2 x3 y1 y2 y3 y4 nn kk st sd ag tk lo C tg S n2 k2 s2 d2 ag2 tk2 lo2 E T) (mgQ D ad lev f x1 x2 x3 y1 y2 y3 y4 nn kk st sd ag tk lo C S n2 k2 s2 d2 ag2 tk2 lo2 E T) := by
  refine Ct.of (by decide +kernel) (Nat.le_of_ble_eq_true rfl) (fun X A hX M hr => ?_)
  subst hX
  have fin : ∀ (tk3 lo3 : Int32) (C3 tg3 : Nat → Int32) (Q : State → Prop), Q = GQ D X A ad 13 (fun v c => v = some (.int tk3) ∧ c = tw D ad lev f x1 x2 x3 y1 y2 y3 y4 nn kk st sd ag tk3 lo3 C3 tg3 (addK S T (30 * nn)) n2 k2 s2 d2 ag2 tk2 lo2 E T) → G D X A 0 0 Q ad 66 [some (.ref (ad 0)), some (.int s), some (.int o), some (.ref (ad 2)), some (.ref (ad 8))] [] (tw D ad lev f x1 x2 x3 y1 y2 y3 y4 nn kk st sd ag tk3 lo3 C3 tg3 S n2 k2 s2 d2 ag2 tk2 lo2 E T) := by
    intro tk3 lo3 C3 tg3 Q hQ
    subst hQ
    refine G_aload_n (pc := 66) M dX6_merge_66 rfl ?_
    refine G_getr (pc := 67) M dX6_merge_67 fl_X6_42 rfl (by first | rfl | assumption) ?_
    refine G_aload (pc := 70) M dX6_merge_70 rfl ?_
    refine G_getr (pc := 72) M dX6_merge_72 fl_X6_42 rfl (by first | rfl | assumption) ?_
    refine G_callv (pc := 75) M [6, 7, 11, 12] dX6_merge_75 mv_X6_74 (c_rPut D _ (fun j => ad (pn [6, 7, 11, 12] j)) nn sd S T _ hnn rfl) rfl ⟨rfl, rfl, rfl, rfl, trivial⟩ rfl rfl rfl rfl (Nat.le_of_ble_eq_true rfl) (Nat.le_of_ble_eq_true rfl) (Nat.le_of_ble_eq_true rfl) ⟨Nat.zero_le _, Nat.zero_le _⟩ (fun v c1 hq hlen => ?_)
    obtain ⟨rfl, rfl⟩ := hq
    try dsimp only [sall, List.set, Option.toList, List.cons_append, List.nil_append]
    refine G_aload_n (pc := 78) M dX6_merge_78 rfl ?_
    refine G_getr (pc := 79) M dX6_merge_79 fl_X6_64 rfl (by first | rfl | assumption) ?_
    refine G_getf (pc := 82) M dX6_merge_82 fl_X6_77 rfl (by first | rfl | assumption) ?_
    exact G_iret M hr dX6_merge_85 (Eq.trans (b := 13) rfl rfl) ⟨rfl, rfl⟩
  refine G_iload_n (pc := 0) M dX6_merge_0 rfl ?_
  refine G_calls (pc := 1) M [] dX6_merge_1 ms_X6_20 (c_noStream D _ (fun j => ad (pn [] j)) s) trivial rfl rfl rfl rfl (Nat.le_of_ble_eq_true rfl) (Nat.le_of_ble_eq_true rfl) (Nat.le_of_ble_eq_true rfl) ⟨Nat.zero_le _, Nat.zero_le _⟩ (fun v c1 hq hlen => ?_)
  obtain ⟨rfl, rfl⟩ := hq
  try dsimp only [sall, List.set, Option.toList, List.cons_append, List.nil_append]
  refine G_if_ne (pc := 4) M 19 dX6_merge_4 (by decide) (fun h4 => ?_) (fun h4 => ?_)
  · exact absurd (by rw [hs]; rfl) h4
  · refine G_iload_n (pc := 7) M dX6_merge_7 rfl ?_
    refine G_calls (pc := 8) M [] dX6_merge_8 ms_X6_20 (c_noStream D _ (fun j => ad (pn [] j)) o) trivial rfl rfl rfl rfl (Nat.le_of_ble_eq_true rfl) (Nat.le_of_ble_eq_true rfl) (Nat.le_of_ble_eq_true rfl) ⟨Nat.zero_le _, Nat.zero_le _⟩ (fun v c1 hq hlen => ?_)
    obtain ⟨rfl, rfl⟩ := hq
    try dsimp only [sall, List.set, Option.toList, List.cons_append, List.nil_append]
    refine G_if_ne (pc := 11) M 19 dX6_merge_11 (by decide) (fun h11 => ?_) (fun h11 => ?_)
    · exact absurd (by rw [ho]; rfl) h11
    · refine G_iload_n (pc := 14) M dX6_merge_14 rfl ?_
      refine G_iload_n (pc := 15) M dX6_merge_15 rfl ?_
      refine G_icmp_ne (pc := 16) M 21 dX6_merge_16 (by decide) (fun h16 => ?_) (fun h16 => ?_)
      · refine G_aload_n (pc := 21) M dX6_merge_21 rfl ?_
        refine G_getf (pc := 22) M dX6_merge_22 fl_X6_11 rfl (by first | rfl | assumption) ?_
        refine G_iload_n (pc := 25) M dX6_merge_25 rfl ?_
        refine G_aaload (pc := 26) M dX6_merge_26 rfl (vp3 hs) (hfs) ?_
        refine G_astore_n (pc := 27) M dX6_merge_27 (Nat.le_of_ble_eq_true rfl) ?_
        refine G_aload_n (pc := 28) M dX6_merge_28 rfl ?_
        refine G_getf (pc := 29) M dX6_merge_29 fl_X6_11 rfl (by first | rfl | assumption) ?_
        refine G_iload_n (pc := 32) M dX6_merge_32 rfl ?_
        refine G_aaload (pc := 33) M dX6_merge_33 rfl (vp3 ho) (hfo) ?_
        refine G_astore (pc := 34) M dX6_merge_34 (Nat.le_of_ble_eq_true rfl) ?_
        refine G_aload_n (pc := 36) M dX6_merge_36 rfl ?_
        refine G_aload (pc := 37) M dX6_merge_37 rfl ?_
        refine G_callv (pc := 39) M [2, 8] dX6_merge_39 mv_X6_60 (c_isApartFrom D _ (fun j => ad (pn [2, 8] j)) _ _ nn kk st n2 k2 s2 sd d2 hb rfl rfl rfl rfl rfl rfl rfl rfl) rfl ⟨rfl, rfl, trivial⟩ rfl rfl rfl rfl (Nat.le_of_ble_eq_true rfl) (Nat.le_of_ble_eq_true rfl) (Nat.le_of_ble_eq_true rfl) ⟨Nat.zero_le _, Nat.zero_le _⟩ (fun v c1 hq hlen => ?_)
        obtain ⟨rfl, rfl⟩ := hq
        try dsimp only [sall, List.set, Option.toList, List.cons_append, List.nil_append]
        refine G_if_eq (pc := 42) M 48 dX6_merge_42 (by decide) (fun h42 => ?_) (fun h42 => ?_)
        · have e5 : sameB nn kk st n2 k2 s2 sd d2 = true := by simpa using bz0 (b := !sameB nn kk st n2 k2 s2 sd d2) h42
          refine G_aload_n (pc := 48) M dX6_merge_48 rfl ?_
          refine G_getr (pc := 49) M dX6_merge_49 fl_X6_64 rfl (by first | rfl | assumption) ?_
          refine G_aload (pc := 52) M dX6_merge_52 rfl ?_
          refine G_getr (pc := 54) M dX6_merge_54 fl_X6_64 rfl (by first | rfl | assumption) ?_
          refine G_callv (pc := 57) M [3, 4, 5, 9, 10] dX6_merge_57 mv_X6_68 (c_putTogether D _ (fun j => ad (pn [3, 4, 5, 9, 10] j)) nn kk tk lo lo2 C E tg _ hnn hkk rfl rfl) rfl ⟨rfl, rfl, rfl, rfl, rfl, trivial⟩ rfl rfl rfl rfl (Nat.le_of_ble_eq_true rfl) (Nat.le_of_ble_eq_true rfl) (Nat.le_of_ble_eq_true rfl) ⟨Nat.zero_le _, Nat.zero_le _⟩ (fun v c1 hq hlen => ?_)
          try dsimp only [sall, List.set, Option.toList, List.cons_append, List.nil_append]
          obtain ⟨tg2, ⟨e6, rfl, rfl⟩ | ⟨e6, rfl, rfl⟩⟩ := hq
          · try dsimp only [sall, List.set, Option.toList, List.cons_append, List.nil_append]
            refine G_if_ne (pc := 60) M 66 dX6_merge_60 (by decide) (fun h60 => absurd rfl h60) (fun h60 => ?_)
            refine G_bipush (pc := 63) (v := -6) M dX6_merge_63 (by decide +kernel) ?_
            exact G_iret M hr dX6_merge_65 (Eq.trans (b := 13) rfl rfl) ⟨tg2, Or.inr (Or.inl ⟨e5, e6, rfl, rfl⟩)⟩
          · try dsimp only [sall, List.set, Option.toList, List.cons_append, List.nil_append]
            refine G_if_ne (pc := 60) M 66 dX6_merge_60 (by decide) (fun h60 => ?_) (fun h60 => absurd h60 (by decide))
            exact G_weak (fun v c q => ⟨tg2, Or.inr (Or.inr ⟨e5, e6, q.1, q.2⟩)⟩) (fin _ _ _ tg2 _ rfl)
        · have e5 : sameB nn kk st n2 k2 s2 sd d2 = false := by simpa using bz1 (b := !sameB nn kk st n2 k2 s2 sd d2) h42
          refine G_bipush (pc := 45) (v := -3) M dX6_merge_45 (by decide +kernel) ?_
          exact G_iret M hr dX6_merge_47 rfl ⟨tg, Or.inl ⟨e5, rfl, rfl⟩⟩
      · exact absurd (by simpa using h16) hso
end
