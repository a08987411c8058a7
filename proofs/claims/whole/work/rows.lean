section
-- ===== PART A: goes FIRST, ahead of the names: the tables' words, and 'selects' of the private methods out of them =====
/-- a private method of a class that the tables say can be made, by its rows of tables_1 -/
def lw_okq (q : MethodName × Nat) : Prop := (q.1.cls ≠ "java/lang/invoke/MethodHandle" ∧ q.1.cls ≠ "java/lang/invoke/VarHandle") ∧ Cond.instantiable q.1.cls q.2 ∈ tables_1 ∧ Cond.privateMethod q.1 ∈ tables_1 ∧ Cond.instanceMethod q.1 ∈ tables_1
theorem lw_p0 : lw_okq (⟨"StolenApples", "draftNights", "()Z"⟩, 7) := ⟨⟨by decide +kernel, by decide +kernel⟩, List.mem_of_getElem? (i := 13) (by decide +kernel), List.mem_of_getElem? (i := 241) (by decide +kernel), List.mem_of_getElem? (i := 242) (by decide +kernel)⟩
theorem lw_p1 : lw_okq (⟨"StolenApples", "toldBag", "(I)I"⟩, 7) := ⟨⟨by decide +kernel, by decide +kernel⟩, List.mem_of_getElem? (i := 13) (by decide +kernel), List.mem_of_getElem? (i := 570) (by decide +kernel), List.mem_of_getElem? (i := 571) (by decide +kernel)⟩
theorem lw_p2 : lw_okq (⟨"StolenApplesModel", "isThere", "(I)Z"⟩, 32) := ⟨⟨by decide +kernel, by decide +kernel⟩, List.mem_of_getElem? (i := 574) (by decide +kernel), List.mem_of_getElem? (i := 695) (by decide +kernel), List.mem_of_getElem? (i := 696) (by decide +kernel)⟩
theorem lw_p3 : lw_okq (⟨"StolenApplesModel", "faultOf", "()I"⟩, 32) := ⟨⟨by decide +kernel, by decide +kernel⟩, List.mem_of_getElem? (i := 574) (by decide +kernel), List.mem_of_getElem? (i := 715) (by decide +kernel), List.mem_of_getElem? (i := 716) (by decide +kernel)⟩
theorem lw_p4 : lw_okq (⟨"StolenApplesModel", "goNights", "()I"⟩, 32) := ⟨⟨by decide +kernel, by decide +kernel⟩, List.mem_of_getElem? (i := 574) (by decide +kernel), List.mem_of_getElem? (i := 726) (by decide +kernel), List.mem_of_getElem? (i := 727) (by decide +kernel)⟩
theorem lw_p5 : lw_okq (⟨"StolenApplesModel", "asNow", "()V"⟩, 32) := ⟨⟨by decide +kernel, by decide +kernel⟩, List.mem_of_getElem? (i := 574) (by decide +kernel), List.mem_of_getElem? (i := 730) (by decide +kernel), List.mem_of_getElem? (i := 731) (by decide +kernel)⟩
theorem lw_p6 : lw_okq (⟨"StolenApplesModel", "endNight", "()I"⟩, 32) := ⟨⟨by decide +kernel, by decide +kernel⟩, List.mem_of_getElem? (i := 574) (by decide +kernel), List.mem_of_getElem? (i := 734) (by decide +kernel), List.mem_of_getElem? (i := 735) (by decide +kernel)⟩
theorem lw_p7 : lw_okq (⟨"StolenApplesModel", "nobodyOut", "()V"⟩, 32) := ⟨⟨by decide +kernel, by decide +kernel⟩, List.mem_of_getElem? (i := 574) (by decide +kernel), List.mem_of_getElem? (i := 738) (by decide +kernel), List.mem_of_getElem? (i := 739) (by decide +kernel)⟩
theorem lw_p8 : lw_okq (⟨"StolenApplesModel", "act", "(II)I"⟩, 32) := ⟨⟨by decide +kernel, by decide +kernel⟩, List.mem_of_getElem? (i := 574) (by decide +kernel), List.mem_of_getElem? (i := 742) (by decide +kernel), List.mem_of_getElem? (i := 743) (by decide +kernel)⟩
theorem lw_p9 : lw_okq (⟨"StolenApplesModel", "whyNot", "(II)I"⟩, 32) := ⟨⟨by decide +kernel, by decide +kernel⟩, List.mem_of_getElem? (i := 574) (by decide +kernel), List.mem_of_getElem? (i := 746) (by decide +kernel), List.mem_of_getElem? (i := 747) (by decide +kernel)⟩
theorem lw_p10 : lw_okq (⟨"StolenApplesModel", "bar", "(II)I"⟩, 32) := ⟨⟨by decide +kernel, by decide +kernel⟩, List.mem_of_getElem? (i := 574) (by decide +kernel), List.mem_of_getElem? (i := 750) (by decide +kernel), List.mem_of_getElem? (i := 751) (by decide +kernel)⟩
theorem lw_p11 : lw_okq (⟨"StolenApplesModel", "rob", "(II)V"⟩, 32) := ⟨⟨by decide +kernel, by decide +kernel⟩, List.mem_of_getElem? (i := 574) (by decide +kernel), List.mem_of_getElem? (i := 754) (by decide +kernel), List.mem_of_getElem? (i := 755) (by decide +kernel)⟩
theorem lw_p12 : lw_okq (⟨"StolenApplesModel", "takes", "(II)I"⟩, 32) := ⟨⟨by decide +kernel, by decide +kernel⟩, List.mem_of_getElem? (i := 574) (by decide +kernel), List.mem_of_getElem? (i := 758) (by decide +kernel), List.mem_of_getElem? (i := 759) (by decide +kernel)⟩
theorem lw_p13 : lw_okq (⟨"StolenApplesModel", "whyNotCaught", "(I)I"⟩, 32) := ⟨⟨by decide +kernel, by decide +kernel⟩, List.mem_of_getElem? (i := 574) (by decide +kernel), List.mem_of_getElem? (i := 762) (by decide +kernel), List.mem_of_getElem? (i := 763) (by decide +kernel)⟩
theorem lw_p14 : lw_okq (⟨"StolenApplesModel", "caughtNow", "(I)V"⟩, 32) := ⟨⟨by decide +kernel, by decide +kernel⟩, List.mem_of_getElem? (i := 574) (by decide +kernel), List.mem_of_getElem? (i := 766) (by decide +kernel), List.mem_of_getElem? (i := 767) (by decide +kernel)⟩
theorem lw_p15 : lw_okq (⟨"StolenApplesModel", "barOfNights", "()I"⟩, 32) := ⟨⟨by decide +kernel, by decide +kernel⟩, List.mem_of_getElem? (i := 574) (by decide +kernel), List.mem_of_getElem? (i := 774) (by decide +kernel), List.mem_of_getElem? (i := 775) (by decide +kernel)⟩
def lw_privs_1 : List (MethodName × Nat) := [(⟨"StolenApples", "draftNights", "()Z"⟩, 7), (⟨"StolenApples", "toldBag", "(I)I"⟩, 7), (⟨"StolenApplesModel", "isThere", "(I)Z"⟩, 32), (⟨"StolenApplesModel", "faultOf", "()I"⟩, 32), (⟨"StolenApplesModel", "goNights", "()I"⟩, 32), (⟨"StolenApplesModel", "asNow", "()V"⟩, 32), (⟨"StolenApplesModel", "endNight", "()I"⟩, 32), (⟨"StolenApplesModel", "nobodyOut", "()V"⟩, 32), (⟨"StolenApplesModel", "act", "(II)I"⟩, 32), (⟨"StolenApplesModel", "whyNot", "(II)I"⟩, 32), (⟨"StolenApplesModel", "bar", "(II)I"⟩, 32), (⟨"StolenApplesModel", "rob", "(II)V"⟩, 32), (⟨"StolenApplesModel", "takes", "(II)I"⟩, 32), (⟨"StolenApplesModel", "whyNotCaught", "(I)I"⟩, 32), (⟨"StolenApplesModel", "caughtNow", "(I)V"⟩, 32), (⟨"StolenApplesModel", "barOfNights", "()I"⟩, 32)]
theorem lw_r1 : ∀ q ∈ lw_privs_1, lw_okq q := List.forall_mem_cons.mpr ⟨lw_p0, List.forall_mem_cons.mpr ⟨lw_p1, List.forall_mem_cons.mpr ⟨lw_p2, List.forall_mem_cons.mpr ⟨lw_p3, List.forall_mem_cons.mpr ⟨lw_p4, List.forall_mem_cons.mpr ⟨lw_p5, List.forall_mem_cons.mpr ⟨lw_p6, List.forall_mem_cons.mpr ⟨lw_p7, List.forall_mem_cons.mpr ⟨lw_p8, List.forall_mem_cons.mpr ⟨lw_p9, List.forall_mem_cons.mpr ⟨lw_p10, List.forall_mem_cons.mpr ⟨lw_p11, List.forall_mem_cons.mpr ⟨lw_p12, List.forall_mem_cons.mpr ⟨lw_p13, List.forall_mem_cons.mpr ⟨lw_p14, List.forall_mem_cons.mpr ⟨lw_p15, fun _ h => absurd h List.not_mem_nil⟩⟩⟩⟩⟩⟩⟩⟩⟩⟩⟩⟩⟩⟩⟩⟩
theorem lw_p16 : lw_okq (⟨"StolenApplesModel", "stateNow", "(II)I"⟩, 32) := ⟨⟨by decide +kernel, by decide +kernel⟩, List.mem_of_getElem? (i := 574) (by decide +kernel), List.mem_of_getElem? (i := 782) (by decide +kernel), List.mem_of_getElem? (i := 783) (by decide +kernel)⟩
theorem lw_p17 : lw_okq (⟨"StolenApplesModel", "mayRob", "(I)I"⟩, 32) := ⟨⟨by decide +kernel, by decide +kernel⟩, List.mem_of_getElem? (i := 574) (by decide +kernel), List.mem_of_getElem? (i := 802) (by decide +kernel), List.mem_of_getElem? (i := 803) (by decide +kernel)⟩
theorem lw_p18 : lw_okq (⟨"StolenApplesModel", "wanted", "(II)I"⟩, 32) := ⟨⟨by decide +kernel, by decide +kernel⟩, List.mem_of_getElem? (i := 574) (by decide +kernel), List.mem_of_getElem? (i := 810) (by decide +kernel), List.mem_of_getElem? (i := 811) (by decide +kernel)⟩
theorem lw_p19 : lw_okq (⟨"StolenApplesModel", "mostThefts", "(II)I"⟩, 32) := ⟨⟨by decide +kernel, by decide +kernel⟩, List.mem_of_getElem? (i := 574) (by decide +kernel), List.mem_of_getElem? (i := 814) (by decide +kernel), List.mem_of_getElem? (i := 815) (by decide +kernel)⟩
theorem lw_p20 : lw_okq (⟨"StolenApplesModel", "layChains", "(I)V"⟩, 32) := ⟨⟨by decide +kernel, by decide +kernel⟩, List.mem_of_getElem? (i := 574) (by decide +kernel), List.mem_of_getElem? (i := 827) (by decide +kernel), List.mem_of_getElem? (i := 828) (by decide +kernel)⟩
theorem lw_p21 : lw_okq (⟨"StolenApplesModel", "layBoots", "()V"⟩, 32) := ⟨⟨by decide +kernel, by decide +kernel⟩, List.mem_of_getElem? (i := 574) (by decide +kernel), List.mem_of_getElem? (i := 851) (by decide +kernel), List.mem_of_getElem? (i := 852) (by decide +kernel)⟩
theorem lw_p22 : lw_okq (⟨"StolenApplesModel", "tryBoots", "(I)V"⟩, 32) := ⟨⟨by decide +kernel, by decide +kernel⟩, List.mem_of_getElem? (i := 574) (by decide +kernel), List.mem_of_getElem? (i := 856) (by decide +kernel), List.mem_of_getElem? (i := 857) (by decide +kernel)⟩
theorem lw_p23 : lw_okq (⟨"StolenApplesModel", "worth", "(II)I"⟩, 32) := ⟨⟨by decide +kernel, by decide +kernel⟩, List.mem_of_getElem? (i := 574) (by decide +kernel), List.mem_of_getElem? (i := 869) (by decide +kernel), List.mem_of_getElem? (i := 870) (by decide +kernel)⟩
def lw_privs_2 : List (MethodName × Nat) := [(⟨"StolenApplesModel", "stateNow", "(II)I"⟩, 32), (⟨"StolenApplesModel", "mayRob", "(I)I"⟩, 32), (⟨"StolenApplesModel", "wanted", "(II)I"⟩, 32), (⟨"StolenApplesModel", "mostThefts", "(II)I"⟩, 32), (⟨"StolenApplesModel", "layChains", "(I)V"⟩, 32), (⟨"StolenApplesModel", "layBoots", "()V"⟩, 32), (⟨"StolenApplesModel", "tryBoots", "(I)V"⟩, 32), (⟨"StolenApplesModel", "worth", "(II)I"⟩, 32)]
theorem lw_r2 : ∀ q ∈ lw_privs_2, lw_okq q := List.forall_mem_cons.mpr ⟨lw_p16, List.forall_mem_cons.mpr ⟨lw_p17, List.forall_mem_cons.mpr ⟨lw_p18, List.forall_mem_cons.mpr ⟨lw_p19, List.forall_mem_cons.mpr ⟨lw_p20, List.forall_mem_cons.mpr ⟨lw_p21, List.forall_mem_cons.mpr ⟨lw_p22, List.forall_mem_cons.mpr ⟨lw_p23, fun _ h => absurd h List.not_mem_nil⟩⟩⟩⟩⟩⟩⟩⟩
def lw_privs : List (MethodName × Nat) := lw_privs_1 ++ (lw_privs_2)
def lw_tbl : List Cond := k2_sels lw_privs ++ tables_1
theorem lw_privs_ok : ∀ q ∈ lw_privs, lw_okq q := by
  show ∀ q ∈ lw_privs_1 ++ (lw_privs_2), lw_okq q
  exact List.forall_mem_append.mpr ⟨lw_r1, lw_r2⟩
def RX0 : String := "StolenApples$Land"
def TX0 : u_T := fun k => match k with
  | 0 => ("StolenApples$Land", "apples", "[I", true)
  | 1 => ("StolenApples$Land", "bags", "[I", true)
  | 2 => ("StolenApples$Land", "heaps", "[I", true)
  | 3 => ("StolenApples$Land", "robbed", "[I", true)
  | 4 => ("StolenApples$Land", "lastRobbed", "[I", true)
  | 5 => ("StolenApples$Land", "sightTrees", "[I", true)
  | 6 => ("StolenApples$Land", "sightApples", "[I", true)
  | 7 => ("StolenApples$Land", "sights", "I", false)
  | 8 => ("StolenApples$Land", "here", "I", false)
  | 9 => ("StolenApples$Land", "out", "I", false)
  | 10 => ("StolenApples$Land", "dogs", "I", false)
  | 11 => ("StolenApples$Land", "lamps", "I", false)
  | _ => ("StolenApples$Land", "frost", "I", false)
def tyX0 : Nat → FieldType := fun k => match k with
  | 0 => .array .int
  | 1 => .array .int
  | 2 => .array .int
  | 3 => .array .int
  | 4 => .array .int
  | 5 => .array .int
  | 6 => .array .int
  | 7 => .int
  | 8 => .int
  | 9 => .int
  | 10 => .int
  | 11 => .int
  | _ => .int
abbrev wsX00 : List Cond := u_ws RX0 TX0 13
theorem nmX0 : ∀ a, a < 13 → ∀ b, b < 13 → a ≠ b → (TX0 a).2.1 ≠ (TX0 b).2.1 := by decide +kernel
theorem tyX0_ok : ∀ k, k < 13 → parseFieldDescriptor (TX0 k).2.2.1 = some (tyX0 k) := by decide +kernel
abbrev cX0_init : ByteArray := prog_2_method_1_code
def yX0_init : MethodName := ⟨RX0, "<init>", "()V"⟩
abbrev cX0_become : ByteArray := prog_2_method_2_code
def yX0_become : MethodName := ⟨RX0, "become", "(LStolenApples$Land;)V"⟩
abbrev cX0_has : ByteArray := prog_2_method_3_code
def yX0_has : MethodName := ⟨RX0, "has", "(I)Z"⟩
abbrev cX0_hasTwo : ByteArray := prog_2_method_4_code
def yX0_hasTwo : MethodName := ⟨RX0, "hasTwo", "(II)Z"⟩
abbrev cX0_count : ByteArray := prog_2_method_5_code
def yX0_count : MethodName := ⟨RX0, "count", "()I"⟩
abbrev cX0_settle : ByteArray := prog_2_method_6_code
def yX0_settle : MethodName := ⟨RX0, "settle", "(III)V"⟩
abbrev cX0_leave : ByteArray := prog_2_method_7_code
def yX0_leave : MethodName := ⟨RX0, "leave", "(I)V"⟩
abbrev cX0_tell : ByteArray := prog_2_method_8_code
def yX0_tell : MethodName := ⟨RX0, "tell", "(II)I"⟩
abbrev cX0_load : ByteArray := prog_2_method_9_code
def yX0_load : MethodName := ⟨RX0, "load", "(II)I"⟩
abbrev cX0_robBar : ByteArray := prog_2_method_10_code
def yX0_robBar : MethodName := ⟨RX0, "robBar", "(II)I"⟩
abbrev cX0_isGuarded : ByteArray := prog_2_method_11_code
def yX0_isGuarded : MethodName := ⟨RX0, "isGuarded", "(I)Z"⟩
abbrev cX0_mayRob : ByteArray := prog_2_method_12_code
def yX0_mayRob : MethodName := ⟨RX0, "mayRob", "(II)Z"⟩
abbrev cX0_canRobNow : ByteArray := prog_2_method_13_code
def yX0_canRobNow : MethodName := ⟨RX0, "canRobNow", "(I)I"⟩
abbrev cX0_mayRobOf : ByteArray := prog_2_method_14_code
def yX0_mayRobOf : MethodName := ⟨RX0, "mayRobOf", "(I)I"⟩
abbrev cX0_thievesOf : ByteArray := prog_2_method_15_code
def yX0_thievesOf : MethodName := ⟨RX0, "thievesOf", "(I)I"⟩
abbrev cX0_catchBar : ByteArray := prog_2_method_16_code
def yX0_catchBar : MethodName := ⟨RX0, "catchBar", "(I)I"⟩
abbrev cX0_actBar : ByteArray := prog_2_method_17_code
def yX0_actBar : MethodName := ⟨RX0, "actBar", "(III)I"⟩
abbrev cX0_tryAct : ByteArray := prog_2_method_18_code
def yX0_tryAct : MethodName := ⟨RX0, "tryAct", "(III)I"⟩
abbrev cX0_rob : ByteArray := prog_2_method_19_code
def yX0_rob : MethodName := ⟨RX0, "rob", "(II)V"⟩
abbrev cX0_giveBack : ByteArray := prog_2_method_20_code
def yX0_giveBack : MethodName := ⟨RX0, "giveBack", "(II)V"⟩
abbrev cX0_endYear : ByteArray := prog_2_method_21_code
def yX0_endYear : MethodName := ⟨RX0, "endYear", "()V"⟩
abbrev cX0_runYear : ByteArray := prog_2_method_22_code
def yX0_runYear : MethodName := ⟨RX0, "runYear", "(II)I"⟩
abbrev cX0_bareTrees : ByteArray := prog_2_method_23_code
def yX0_bareTrees : MethodName := ⟨RX0, "bareTrees", "()I"⟩
abbrev cX0_robbedTrees : ByteArray := prog_2_method_24_code
def yX0_robbedTrees : MethodName := ⟨RX0, "robbedTrees", "()I"⟩
abbrev cX0_greatestHeap : ByteArray := prog_2_method_25_code
def yX0_greatestHeap : MethodName := ⟨RX0, "greatestHeap", "()I"⟩
abbrev cX0_smallerHeaps : ByteArray := prog_2_method_26_code
def yX0_smallerHeaps : MethodName := ⟨RX0, "smallerHeaps", "(I)I"⟩
abbrev cX0_heapsTogether : ByteArray := prog_2_method_27_code
def yX0_heapsTogether : MethodName := ⟨RX0, "heapsTogether", "()I"⟩
abbrev cX0_applesTogether : ByteArray := prog_2_method_28_code
def yX0_applesTogether : MethodName := ⟨RX0, "applesTogether", "()I"⟩
abbrev cX0_wanted : ByteArray := prog_2_method_29_code
def yX0_wanted : MethodName := ⟨RX0, "wanted", "(II)I"⟩
abbrev cX0_wantedTogether : ByteArray := prog_2_method_30_code
def yX0_wantedTogether : MethodName := ⟨RX0, "wantedTogether", "(I)I"⟩
abbrev cX0_addSight : ByteArray := prog_2_method_31_code
def yX0_addSight : MethodName := ⟨RX0, "addSight", "(II)Z"⟩
abbrev cX0_hasSightOf : ByteArray := prog_2_method_32_code
def yX0_hasSightOf : MethodName := ⟨RX0, "hasSightOf", "(I)Z"⟩
abbrev cX0_fitsSights : ByteArray := prog_2_method_33_code
def yX0_fitsSights : MethodName := ⟨RX0, "fitsSights", "(II)Z"⟩
abbrev cX0_holds : ByteArray := prog_2_method_34_code
def yX0_holds : MethodName := ⟨RX0, "holds", "(II)Z"⟩
abbrev cX0_drawnKind : ByteArray := prog_2_method_35_code
def yX0_drawnKind : MethodName := ⟨RX0, "drawnKind", "(I)I"⟩
def RX1 : String := "StolenApples$Nights"
def TX1 : u_T := fun k => match k with
  | 0 => ("StolenApples$Nights", "signs", "[I", true)
  | 1 => ("StolenApples$Nights", "length", "I", false)
  | 2 => ("StolenApples$Nights", "acts", "I", false)
  | _ => ("StolenApples$Nights", "why", "I", false)
def tyX1 : Nat → FieldType := fun k => match k with
  | 0 => .array .int
  | 1 => .int
  | 2 => .int
  | _ => .int
abbrev wsX10 : List Cond := u_ws RX1 TX1 4
theorem nmX1 : ∀ a, a < 4 → ∀ b, b < 4 → a ≠ b → (TX1 a).2.1 ≠ (TX1 b).2.1 := by decide +kernel
theorem tyX1_ok : ∀ k, k < 4 → parseFieldDescriptor (TX1 k).2.2.1 = some (tyX1 k) := by decide +kernel
abbrev cX1_init : ByteArray := prog_3_method_1_code
def yX1_init : MethodName := ⟨RX1, "<init>", "()V"⟩
abbrev cX1_write : ByteArray := prog_3_method_2_code
def yX1_write : MethodName := ⟨RX1, "write", "(I)Z"⟩
abbrev cX1_faultPlace : ByteArray := prog_3_method_3_code
def yX1_faultPlace : MethodName := ⟨RX1, "faultPlace", "()I"⟩
abbrev cX1_runOn : ByteArray := prog_3_method_4_code
def yX1_runOn : MethodName := ⟨RX1, "runOn", "(LStolenApples$Land;)Z"⟩
abbrev cX1_isLetter : ByteArray := prog_3_method_5_code
def yX1_isLetter : MethodName := ⟨RX1, "isLetter", "(I)Z"⟩
abbrev cX1_standsAlone : ByteArray := prog_3_method_6_code
def yX1_standsAlone : MethodName := ⟨RX1, "standsAlone", "(I)Z"⟩
abbrev cX1_endsAct : ByteArray := prog_3_method_7_code
def yX1_endsAct : MethodName := ⟨RX1, "endsAct", "(I)Z"⟩
def RX2 : String := "StolenApples$Paths"
def TX2 : u_T := fun k => match k with
  | 0 => ("StolenApples$Paths", "next", "[I", true)
  | _ => ("StolenApples$Paths", "ends", "[I", true)
def tyX2 : Nat → FieldType := fun k => match k with
  | 0 => .array .int
  | _ => .array .int
abbrev wsX20 : List Cond := u_ws RX2 TX2 2
theorem nmX2 : ∀ a, a < 2 → ∀ b, b < 2 → a ≠ b → (TX2 a).2.1 ≠ (TX2 b).2.1 := by decide +kernel
theorem tyX2_ok : ∀ k, k < 2 → parseFieldDescriptor (TX2 k).2.2.1 = some (tyX2 k) := by decide +kernel
abbrev cX2_init : ByteArray := prog_4_method_1_code
def yX2_init : MethodName := ⟨RX2, "<init>", "()V"⟩
abbrev cX2_longestChain : ByteArray := prog_4_method_2_code
def yX2_longestChain : MethodName := ⟨RX2, "longestChain", "(LStolenApples$Land;II)I"⟩
abbrev cX2_longestRound : ByteArray := prog_4_method_3_code
def yX2_longestRound : MethodName := ⟨RX2, "longestRound", "(LStolenApples$Land;)I"⟩
abbrev cX2_readNext : ByteArray := prog_4_method_4_code
def yX2_readNext : MethodName := ⟨RX2, "readNext", "(LStolenApples$Land;)V"⟩
abbrev cX2_followFrom : ByteArray := prog_4_method_5_code
def yX2_followFrom : MethodName := ⟨RX2, "followFrom", "(I)V"⟩
abbrev cX2_leadsTo : ByteArray := prog_4_method_6_code
def yX2_leadsTo : MethodName := ⟨RX2, "leadsTo", "(II)Z"⟩
abbrev cX2_longestEnding : ByteArray := prog_4_method_7_code
def yX2_longestEnding : MethodName := ⟨RX2, "longestEnding", "(I)I"⟩
def RX3 : String := "StolenApples$Rows"
def TX3 : u_T := fun k => match k with
  | 0 => ("StolenApples$Rows", "ways", "[I", true)
  | 1 => ("StolenApples$Rows", "left", "[I", true)
  | _ => ("StolenApples$Rows", "tally", "[I", true)
def tyX3 : Nat → FieldType := fun k => match k with
  | 0 => .array .int
  | 1 => .array .int
  | _ => .array .int
abbrev wsX30 : List Cond := u_ws RX3 TX3 3
theorem nmX3 : ∀ a, a < 3 → ∀ b, b < 3 → a ≠ b → (TX3 a).2.1 ≠ (TX3 b).2.1 := by decide +kernel
theorem tyX3_ok : ∀ k, k < 3 → parseFieldDescriptor (TX3 k).2.2.1 = some (tyX3 k) := by decide +kernel
abbrev cX3_init : ByteArray := prog_5_method_1_code
def yX3_init : MethodName := ⟨RX3, "<init>", "()V"⟩
abbrev cX3_countWithout : ByteArray := prog_5_method_2_code
def yX3_countWithout : MethodName := ⟨RX3, "countWithout", "(LStolenApples$Land;I)V"⟩
abbrev cX3_fillLeft : ByteArray := prog_5_method_3_code
def yX3_fillLeft : MethodName := ⟨RX3, "fillLeft", "(LStolenApples$Land;I)V"⟩
abbrev cX3_keepFitting : ByteArray := prog_5_method_4_code
def yX3_keepFitting : MethodName := ⟨RX3, "keepFitting", "(LStolenApples$Land;I)V"⟩
abbrev cX3_spread : ByteArray := prog_5_method_5_code
def yX3_spread : MethodName := ⟨RX3, "spread", "()V"⟩
abbrev cX3_total : ByteArray := prog_5_method_6_code
def yX3_total : MethodName := ⟨RX3, "total", "()I"⟩
abbrev cX3_waysWithin : ByteArray := prog_5_method_7_code
def yX3_waysWithin : MethodName := ⟨RX3, "waysWithin", "(I)I"⟩
abbrev cX3_outInSome : ByteArray := prog_5_method_8_code
def yX3_outInSome : MethodName := ⟨RX3, "outInSome", "()I"⟩
abbrev cX3_outInAll : ByteArray := prog_5_method_9_code
def yX3_outInAll : MethodName := ⟨RX3, "outInAll", "()I"⟩
abbrev cX3_mostLeftBy : ByteArray := prog_5_method_10_code
def yX3_mostLeftBy : MethodName := ⟨RX3, "mostLeftBy", "(LStolenApples$Land;I)I"⟩
def RX4 : String := "StolenApples$Turns"
def TX4 : u_T := fun k => match k with
  | 0 => ("StolenApples$Turns", "leads", "[I", true)
  | 1 => ("StolenApples$Turns", "lead", "I", false)
  | _ => ("StolenApples$Turns", "opening", "I", false)
def tyX4 : Nat → FieldType := fun k => match k with
  | 0 => .array .int
  | 1 => .int
  | _ => .int
abbrev wsX40 : List Cond := u_ws RX4 TX4 3
theorem nmX4 : ∀ a, a < 3 → ∀ b, b < 3 → a ≠ b → (TX4 a).2.1 ≠ (TX4 b).2.1 := by decide +kernel
theorem tyX4_ok : ∀ k, k < 3 → parseFieldDescriptor (TX4 k).2.2.1 = some (tyX4 k) := by decide +kernel
abbrev cX4_init : ByteArray := prog_6_method_1_code
def yX4_init : MethodName := ⟨RX4, "<init>", "()V"⟩
abbrev cX4_play : ByteArray := prog_6_method_2_code
def yX4_play : MethodName := ⟨RX4, "play", "(LStolenApples$Land;III)V"⟩
abbrev cX4_takeBest : ByteArray := prog_6_method_3_code
def yX4_takeBest : MethodName := ⟨RX4, "takeBest", "(LStolenApples$Land;II)V"⟩
def RX5 : String := "StolenApples"
def TX5 : u_T := fun k => match k with
  | 0 => ("StolenApples", "land", "LStolenApples$Land;", true)
  | 1 => ("StolenApples", "draft", "LStolenApples$Land;", true)
  | 2 => ("StolenApples", "images", "[LStolenApples$Land;", true)
  | 3 => ("StolenApples", "nights", "LStolenApples$Nights;", true)
  | 4 => ("StolenApples", "paths", "LStolenApples$Paths;", true)
  | 5 => ("StolenApples", "rows", "LStolenApples$Rows;", true)
  | _ => ("StolenApples", "turns", "LStolenApples$Turns;", true)
def tyX5 : Nat → FieldType := fun k => match k with
  | 0 => .object "StolenApples$Land"
  | 1 => .object "StolenApples$Land"
  | 2 => .array (.object "StolenApples$Land")
  | 3 => .object "StolenApples$Nights"
  | 4 => .object "StolenApples$Paths"
  | 5 => .object "StolenApples$Rows"
  | _ => .object "StolenApples$Turns"
abbrev wsX50 : List Cond := u_ws RX5 TX5 7
theorem nmX5 : ∀ a, a < 7 → ∀ b, b < 7 → a ≠ b → (TX5 a).2.1 ≠ (TX5 b).2.1 := by decide +kernel
theorem tyX5_ok : ∀ k, k < 7 → parseFieldDescriptor (TX5 k).2.2.1 = some (tyX5 k) := by decide +kernel
abbrev cX5_init : ByteArray := prog_1_method_1_code
def yX5_init : MethodName := ⟨RX5, "<init>", "()V"⟩
abbrev cX5_neighbour : ByteArray := prog_1_method_2_code
def yX5_neighbour : MethodName := ⟨RX5, "neighbour", "(III)I"⟩
abbrev cX5_move : ByteArray := prog_1_method_3_code
def yX5_move : MethodName := ⟨RX5, "move", "(I)I"⟩
abbrev cX5_frost : ByteArray := prog_1_method_4_code
def yX5_frost : MethodName := ⟨RX5, "frost", "(I)I"⟩
abbrev cX5_say : ByteArray := prog_1_method_5_code
def yX5_say : MethodName := ⟨RX5, "say", "(I)I"⟩
abbrev cX5_wipe : ByteArray := prog_1_method_6_code
def yX5_wipe : MethodName := ⟨RX5, "wipe", "()I"⟩
abbrev cX5_fault : ByteArray := prog_1_method_7_code
def yX5_fault : MethodName := ⟨RX5, "fault", "()I"⟩
abbrev cX5_judge : ByteArray := prog_1_method_8_code
def yX5_judge : MethodName := ⟨RX5, "judge", "(I)I"⟩
abbrev cX5_done : ByteArray := prog_1_method_9_code
def yX5_done : MethodName := ⟨RX5, "done", "()I"⟩
abbrev cX5_state : ByteArray := prog_1_method_10_code
def yX5_state : MethodName := ⟨RX5, "state", "(II)I"⟩
abbrev cX5_behind : ByteArray := prog_1_method_11_code
def yX5_behind : MethodName := ⟨RX5, "behind", "(II)I"⟩
abbrev cX5_trees : ByteArray := prog_1_method_12_code
def yX5_trees : MethodName := ⟨RX5, "trees", "(I)I"⟩
abbrev cX5_may : ByteArray := prog_1_method_13_code
def yX5_may : MethodName := ⟨RX5, "may", "(I)I"⟩
abbrev cX5_safe : ByteArray := prog_1_method_14_code
def yX5_safe : MethodName := ⟨RX5, "safe", "()I"⟩
abbrev cX5_stripped : ByteArray := prog_1_method_15_code
def yX5_stripped : MethodName := ⟨RX5, "stripped", "(I)I"⟩
abbrev cX5_thefts : ByteArray := prog_1_method_16_code
def yX5_thefts : MethodName := ⟨RX5, "thefts", "(II)I"⟩
abbrev cX5_round : ByteArray := prog_1_method_17_code
def yX5_round : MethodName := ⟨RX5, "round", "()I"⟩
abbrev cX5_chain : ByteArray := prog_1_method_18_code
def yX5_chain : MethodName := ⟨RX5, "chain", "(II)I"⟩
abbrev cX5_exchange : ByteArray := prog_1_method_19_code
def yX5_exchange : MethodName := ⟨RX5, "exchange", "(III)I"⟩
abbrev cX5_seen : ByteArray := prog_1_method_20_code
def yX5_seen : MethodName := ⟨RX5, "seen", "(II)I"⟩
abbrev cX5_forget : ByteArray := prog_1_method_21_code
def yX5_forget : MethodName := ⟨RX5, "forget", "()I"⟩
abbrev cX5_boots : ByteArray := prog_1_method_22_code
def yX5_boots : MethodName := ⟨RX5, "boots", "(I)I"⟩
abbrev cX5_look : ByteArray := prog_1_method_23_code
def yX5_look : MethodName := ⟨RX5, "look", "(I)I"⟩
abbrev cX5_duel : ByteArray := prog_1_method_24_code
def yX5_duel : MethodName := ⟨RX5, "duel", "(IIII)I"⟩
abbrev cX5_caught : ByteArray := prog_1_method_25_code
def yX5_caught : MethodName := ⟨RX5, "caught", "(IIIII)J"⟩
abbrev cX5_moons : ByteArray := prog_1_method_26_code
def yX5_moons : MethodName := ⟨RX5, "moons", "(II)I"⟩
abbrev cX5_year : ByteArray := prog_1_method_27_code
def yX5_year : MethodName := ⟨RX5, "year", "(III)I"⟩
abbrev cX5_image : ByteArray := prog_1_method_28_code
def yX5_image : MethodName := ⟨RX5, "image", "(I)I"⟩
abbrev cX5_restore : ByteArray := prog_1_method_29_code
def yX5_restore : MethodName := ⟨RX5, "restore", "(I)I"⟩
abbrev cX5_told : ByteArray := prog_1_method_30_code
def yX5_told : MethodName := ⟨RX5, "told", "(I)I"⟩
abbrev cX5_toldBag : ByteArray := prog_1_method_31_code
def yX5_toldBag : MethodName := ⟨RX5, "toldBag", "(I)I"⟩
abbrev cX5_draftNights : ByteArray := prog_1_method_32_code
def yX5_draftNights : MethodName := ⟨RX5, "draftNights", "()Z"⟩
abbrev cX5_within : ByteArray := prog_1_method_33_code
def yX5_within : MethodName := ⟨RX5, "within", "(III)Z"⟩
abbrev cX5_sharedWithTenths : ByteArray := prog_1_method_34_code
def yX5_sharedWithTenths : MethodName := ⟨RX5, "sharedWithTenths", "(I)I"⟩
abbrev cX5_mostThefts : ByteArray := prog_1_method_35_code
def yX5_mostThefts : MethodName := ⟨RX5, "mostThefts", "(LStolenApples$Land;II)I"⟩
def RX6 : String := "StolenApplesModel"
def TX6 : u_T := fun k => match k with
  | 0 => ("StolenApplesModel", "there", "I", false)
  | 1 => ("StolenApplesModel", "bag", "[I", true)
  | 2 => ("StolenApplesModel", "dogs", "I", false)
  | 3 => ("StolenApplesModel", "lamps", "I", false)
  | 4 => ("StolenApplesModel", "frost", "I", false)
  | 5 => ("StolenApplesModel", "sights", "I", false)
  | 6 => ("StolenApplesModel", "sight", "[I", true)
  | 7 => ("StolenApplesModel", "apples", "[I", true)
  | 8 => ("StolenApplesModel", "heap", "[I", true)
  | 9 => ("StolenApplesModel", "robbed", "[I", true)
  | 10 => ("StolenApplesModel", "lastOf", "[I", true)
  | 11 => ("StolenApplesModel", "outs", "I", false)
  | 12 => ("StolenApplesModel", "signs", "I", false)
  | 13 => ("StolenApplesModel", "pad", "[I", true)
  | 14 => ("StolenApplesModel", "tree", "[I", true)
  | 15 => ("StolenApplesModel", "pile", "[I", true)
  | 16 => ("StolenApplesModel", "stole", "[I", true)
  | 17 => ("StolenApplesModel", "from", "[I", true)
  | 18 => ("StolenApplesModel", "outNow", "I", false)
  | 19 => ("StolenApplesModel", "dogsNow", "I", false)
  | 20 => ("StolenApplesModel", "lampsNow", "I", false)
  | 21 => ("StolenApplesModel", "frostNow", "I", false)
  | 22 => ("StolenApplesModel", "reason", "I", false)
  | 23 => ("StolenApplesModel", "acts", "I", false)
  | 24 => ("StolenApplesModel", "ends", "[Z", true)
  | 25 => ("StolenApplesModel", "rows", "I", false)
  | 26 => ("StolenApplesModel", "some", "I", false)
  | 27 => ("StolenApplesModel", "every", "I", false)
  | 28 => ("StolenApplesModel", "left", "[I", true)
  | 29 => ("StolenApplesModel", "ahead", "[I", true)
  | 30 => ("StolenApplesModel", "image", "[I", true)
  | _ => ("StolenApplesModel", "isKept", "[Z", true)
def tyX6 : Nat → FieldType := fun k => match k with
  | 0 => .int
  | 1 => .array .int
  | 2 => .int
  | 3 => .int
  | 4 => .int
  | 5 => .int
  | 6 => .array .int
  | 7 => .array .int
  | 8 => .array .int
  | 9 => .array .int
  | 10 => .array .int
  | 11 => .int
  | 12 => .int
  | 13 => .array .int
  | 14 => .array .int
  | 15 => .array .int
  | 16 => .array .int
  | 17 => .array .int
  | 18 => .int
  | 19 => .int
  | 20 => .int
  | 21 => .int
  | 22 => .int
  | 23 => .int
  | 24 => .array .boolean
  | 25 => .int
  | 26 => .int
  | 27 => .int
  | 28 => .array .int
  | 29 => .array .int
  | 30 => .array .int
  | _ => .array .boolean
abbrev wsX60 : List Cond := u_ws RX6 TX6 32
theorem nmX6 : ∀ a, a < 32 → ∀ b, b < 32 → a ≠ b → (TX6 a).2.1 ≠ (TX6 b).2.1 := by decide +kernel
theorem tyX6_ok : ∀ k, k < 32 → parseFieldDescriptor (TX6 k).2.2.1 = some (tyX6 k) := by decide +kernel
abbrev cX6_init : ByteArray := prog_8_method_1_code
def yX6_init : MethodName := ⟨RX6, "<init>", "()V"⟩
abbrev cX6_in : ByteArray := prog_8_method_2_code
def yX6_in : MethodName := ⟨RX6, "in", "(III)Z"⟩
abbrev cX6_has : ByteArray := prog_8_method_3_code
def yX6_has : MethodName := ⟨RX6, "has", "(II)Z"⟩
abbrev cX6_bits : ByteArray := prog_8_method_4_code
def yX6_bits : MethodName := ⟨RX6, "bits", "(I)I"⟩
abbrev cX6_isThere : ByteArray := prog_8_method_5_code
def yX6_isThere : MethodName := ⟨RX6, "isThere", "(I)Z"⟩
abbrev cX6_neighbour : ByteArray := prog_8_method_6_code
def yX6_neighbour : MethodName := ⟨RX6, "neighbour", "(III)I"⟩
abbrev cX6_move : ByteArray := prog_8_method_7_code
def yX6_move : MethodName := ⟨RX6, "move", "(I)I"⟩
abbrev cX6_frost : ByteArray := prog_8_method_8_code
def yX6_frost : MethodName := ⟨RX6, "frost", "(I)I"⟩
abbrev cX6_say : ByteArray := prog_8_method_9_code
def yX6_say : MethodName := ⟨RX6, "say", "(I)I"⟩
abbrev cX6_wipe : ByteArray := prog_8_method_10_code
def yX6_wipe : MethodName := ⟨RX6, "wipe", "()I"⟩
abbrev cX6_isLetter : ByteArray := prog_8_method_11_code
def yX6_isLetter : MethodName := ⟨RX6, "isLetter", "(I)Z"⟩
abbrev cX6_faultOf : ByteArray := prog_8_method_12_code
def yX6_faultOf : MethodName := ⟨RX6, "faultOf", "()I"⟩
abbrev cX6_fault : ByteArray := prog_8_method_13_code
def yX6_fault : MethodName := ⟨RX6, "fault", "()I"⟩
abbrev cX6_asNow : ByteArray := prog_8_method_14_code
def yX6_asNow : MethodName := ⟨RX6, "asNow", "()V"⟩
abbrev cX6_bar : ByteArray := prog_8_method_15_code
def yX6_bar : MethodName := ⟨RX6, "bar", "(II)I"⟩
abbrev cX6_whyNot : ByteArray := prog_8_method_16_code
def yX6_whyNot : MethodName := ⟨RX6, "whyNot", "(II)I"⟩
abbrev cX6_takes : ByteArray := prog_8_method_17_code
def yX6_takes : MethodName := ⟨RX6, "takes", "(II)I"⟩
abbrev cX6_rob : ByteArray := prog_8_method_18_code
def yX6_rob : MethodName := ⟨RX6, "rob", "(II)V"⟩
abbrev cX6_whyNotCaught : ByteArray := prog_8_method_19_code
def yX6_whyNotCaught : MethodName := ⟨RX6, "whyNotCaught", "(I)I"⟩
abbrev cX6_caughtNow : ByteArray := prog_8_method_20_code
def yX6_caughtNow : MethodName := ⟨RX6, "caughtNow", "(I)V"⟩
abbrev cX6_nobodyOut : ByteArray := prog_8_method_21_code
def yX6_nobodyOut : MethodName := ⟨RX6, "nobodyOut", "()V"⟩
abbrev cX6_act : ByteArray := prog_8_method_22_code
def yX6_act : MethodName := ⟨RX6, "act", "(II)I"⟩
abbrev cX6_endNight : ByteArray := prog_8_method_23_code
def yX6_endNight : MethodName := ⟨RX6, "endNight", "()I"⟩
abbrev cX6_goNights : ByteArray := prog_8_method_24_code
def yX6_goNights : MethodName := ⟨RX6, "goNights", "()I"⟩
abbrev cX6_judge : ByteArray := prog_8_method_25_code
def yX6_judge : MethodName := ⟨RX6, "judge", "(I)I"⟩
abbrev cX6_barOfNights : ByteArray := prog_8_method_26_code
def yX6_barOfNights : MethodName := ⟨RX6, "barOfNights", "()I"⟩
abbrev cX6_done : ByteArray := prog_8_method_27_code
def yX6_done : MethodName := ⟨RX6, "done", "()I"⟩
abbrev cX6_stateNow : ByteArray := prog_8_method_28_code
def yX6_stateNow : MethodName := ⟨RX6, "stateNow", "(II)I"⟩
abbrev cX6_state : ByteArray := prog_8_method_29_code
def yX6_state : MethodName := ⟨RX6, "state", "(II)I"⟩
abbrev cX6_behind : ByteArray := prog_8_method_30_code
def yX6_behind : MethodName := ⟨RX6, "behind", "(II)I"⟩
abbrev cX6_trees : ByteArray := prog_8_method_31_code
def yX6_trees : MethodName := ⟨RX6, "trees", "(I)I"⟩
abbrev cX6_may : ByteArray := prog_8_method_32_code
def yX6_may : MethodName := ⟨RX6, "may", "(I)I"⟩
abbrev cX6_mayRob : ByteArray := prog_8_method_33_code
def yX6_mayRob : MethodName := ⟨RX6, "mayRob", "(I)I"⟩
abbrev cX6_safe : ByteArray := prog_8_method_34_code
def yX6_safe : MethodName := ⟨RX6, "safe", "()I"⟩
abbrev cX6_wanted : ByteArray := prog_8_method_35_code
def yX6_wanted : MethodName := ⟨RX6, "wanted", "(II)I"⟩
abbrev cX6_mostThefts : ByteArray := prog_8_method_36_code
def yX6_mostThefts : MethodName := ⟨RX6, "mostThefts", "(II)I"⟩
abbrev cX6_stripped : ByteArray := prog_8_method_37_code
def yX6_stripped : MethodName := ⟨RX6, "stripped", "(I)I"⟩
abbrev cX6_thefts : ByteArray := prog_8_method_38_code
def yX6_thefts : MethodName := ⟨RX6, "thefts", "(II)I"⟩
abbrev cX6_layChains : ByteArray := prog_8_method_39_code
def yX6_layChains : MethodName := ⟨RX6, "layChains", "(I)V"⟩
abbrev cX6_round : ByteArray := prog_8_method_40_code
def yX6_round : MethodName := ⟨RX6, "round", "()I"⟩
abbrev cX6_chain : ByteArray := prog_8_method_41_code
def yX6_chain : MethodName := ⟨RX6, "chain", "(II)I"⟩
abbrev cX6_exchange : ByteArray := prog_8_method_42_code
def yX6_exchange : MethodName := ⟨RX6, "exchange", "(III)I"⟩
abbrev cX6_seen : ByteArray := prog_8_method_43_code
def yX6_seen : MethodName := ⟨RX6, "seen", "(II)I"⟩
abbrev cX6_forget : ByteArray := prog_8_method_44_code
def yX6_forget : MethodName := ⟨RX6, "forget", "()I"⟩
abbrev cX6_layBoots : ByteArray := prog_8_method_45_code
def yX6_layBoots : MethodName := ⟨RX6, "layBoots", "()V"⟩
abbrev cX6_tryBoots : ByteArray := prog_8_method_46_code
def yX6_tryBoots : MethodName := ⟨RX6, "tryBoots", "(I)V"⟩
abbrev cX6_boots : ByteArray := prog_8_method_47_code
def yX6_boots : MethodName := ⟨RX6, "boots", "(I)I"⟩
abbrev cX6_look : ByteArray := prog_8_method_48_code
def yX6_look : MethodName := ⟨RX6, "look", "(I)I"⟩
abbrev cX6_worth : ByteArray := prog_8_method_49_code
def yX6_worth : MethodName := ⟨RX6, "worth", "(II)I"⟩
abbrev cX6_duel : ByteArray := prog_8_method_50_code
def yX6_duel : MethodName := ⟨RX6, "duel", "(IIII)I"⟩
abbrev cX6_caught : ByteArray := prog_8_method_51_code
def yX6_caught : MethodName := ⟨RX6, "caught", "(IIIII)J"⟩
abbrev cX6_moons : ByteArray := prog_8_method_52_code
def yX6_moons : MethodName := ⟨RX6, "moons", "(II)I"⟩
abbrev cX6_year : ByteArray := prog_8_method_53_code
def yX6_year : MethodName := ⟨RX6, "year", "(III)I"⟩
abbrev cX6_image : ByteArray := prog_8_method_54_code
def yX6_image : MethodName := ⟨RX6, "image", "(I)I"⟩
abbrev cX6_restore : ByteArray := prog_8_method_55_code
def yX6_restore : MethodName := ⟨RX6, "restore", "(I)I"⟩
abbrev cX6_told : ByteArray := prog_8_method_56_code
def yX6_told : MethodName := ⟨RX6, "told", "(I)I"⟩
def RJ6 : String := "java/lang/Integer"
def TJ6 : u_T := fun k => match k with
  | _ => ("", "", "", false)
def tyJ6 : Nat → FieldType := fun k => match k with
  | _ => .int
abbrev wsJ60 : List Cond := u_ws RJ6 TJ6 0
abbrev cJ6_bitCount_0f7a4 : ByteArray := prog_9_method_49_code
def yJ6_bitCount_0f7a4 : MethodName := ⟨RJ6, "bitCount", "(I)I"⟩
def RJ9 : String := "java/lang/Math"
def TJ9 : u_T := fun k => match k with
  | _ => ("", "", "", false)
def tyJ9 : Nat → FieldType := fun k => match k with
  | _ => .int
abbrev wsJ90 : List Cond := u_ws RJ9 TJ9 0
abbrev cJ9_max_7cf53 : ByteArray := prog_10_method_65_code
def yJ9_max_7cf53 : MethodName := ⟨RJ9, "max", "(II)I"⟩
abbrev cJ9_min_7cf53 : ByteArray := prog_10_method_69_code
def yJ9_min_7cf53 : MethodName := ⟨RJ9, "min", "(II)I"⟩
def RJ10 : String := "java/lang/System"
def TJ10 : u_T := fun k => match k with
  | _ => ("", "", "", false)
def tyJ10 : Nat → FieldType := fun k => match k with
  | _ => .int
abbrev wsJ100 : List Cond := u_ws RJ10 TJ10 0
def RJ7 : String := "java/util/Arrays"
def TJ7 : u_T := fun k => match k with
  | _ => ("", "", "", false)
def tyJ7 : Nat → FieldType := fun k => match k with
  | _ => .int
abbrev wsJ70 : List Cond := u_ws RJ7 TJ7 0
abbrev cJ7_fill_53178 : ByteArray := prog_12_method_103_code
def yJ7_fill_53178 : MethodName := ⟨RJ7, "fill", "([II)V"⟩
def RL : String := "StolenApplesLaw"
abbrev cL_law : ByteArray := code
def yL_law : MethodName := ⟨RL, "law", "([I)Z"⟩
abbrev vwCl : List vw_C := [(RX0, TX0, 13), (RX1, TX1, 4), (RX2, TX2, 2), (RX3, TX3, 3), (RX4, TX4, 3), (RX5, TX5, 7), (RX6, TX6, 32)]
/-- the words of the tables that a call hands on -/
def gtbl : List Cond := lw_tbl.filter goodWord
theorem gt_mem {w : Cond} (h : w ∈ tables_1) (hg : goodWord w = true) : w ∈ gtbl := List.mem_filter.mpr ⟨List.mem_append_right _ h, hg⟩
theorem gt_good : ∀ w ∈ gtbl, goodWord w = true := fun _ h => (List.mem_filter.mp h).2
theorem gt_tbl : ∀ w ∈ gtbl, w ∈ lw_tbl := fun _ h => (List.mem_filter.mp h).1
def nestL : List (String × Nat × MethodName × String) := [("StolenApples", (11 : Nat), ({ cls := "StolenApples$Land", name := "<init>", desc := "()V" } : Jvm.MethodName), "StolenApples"), ("StolenApples", (25 : Nat), ({ cls := "StolenApples$Nights", name := "<init>", desc := "()V" } : Jvm.MethodName), "StolenApples"), ("StolenApples", (32 : Nat), ({ cls := "StolenApples$Paths", name := "<init>", desc := "()V" } : Jvm.MethodName), "StolenApples"), ("StolenApples", (39 : Nat), ({ cls := "StolenApples$Rows", name := "<init>", desc := "()V" } : Jvm.MethodName), "StolenApples"), ("StolenApples", (46 : Nat), ({ cls := "StolenApples$Turns", name := "<init>", desc := "()V" } : Jvm.MethodName), "StolenApples"), ("StolenApples$Nights", (41 : Nat), ({ cls := "StolenApples", name := "within", desc := "(III)Z" } : Jvm.MethodName), "StolenApples"), ("StolenApples$Rows", (69 : Nat), ({ cls := "StolenApples", name := "within", desc := "(III)Z" } : Jvm.MethodName), "StolenApples")]
def NW (s : State) : Prop := (∀ q ∈ nestL, va_Nw (.methodLinkNest q.1 q.2.1 q.2.2.1 q.2.2.2) s) ∧ va_AO RX0 s
theorem iwX0 : ∀ w ∈ wsX00, w ∈ gtbl := by decide +kernel
theorem iwX1 : ∀ w ∈ wsX10, w ∈ gtbl := by decide +kernel
theorem iwX2 : ∀ w ∈ wsX20, w ∈ gtbl := by decide +kernel
theorem iwX3 : ∀ w ∈ wsX30, w ∈ gtbl := by decide +kernel
theorem iwX4 : ∀ w ∈ wsX40, w ∈ gtbl := by decide +kernel
theorem iwX5 : ∀ w ∈ wsX50, w ∈ gtbl := by decide +kernel
theorem iwX6 : ∀ w ∈ wsX60, w ∈ gtbl := by decide +kernel
end
section
/-! ===== my own machine picture: a world of logical cells, a store of ints, and the judgement AW ===== -/
abbrev SC : Type := (Nat × List (Option (Option Nat))) ⊕ ((Nat × Nat) ⊕ (Nat × (Nat → Option Nat)))
abbrev St : Type := Nat → Nat → Int32
abbrev N3 : Type := ClassId × ClassId × ClassId
abbrev LV : Type := List (Nat × Value)
def tys3 (N : N3) : List (ClassId × FieldType) := [(N.1, .int), (N.2.1, .boolean), (N.2.2, .object RX0)]
def vc (ad : Nat → Nat) (v : Value) : Value := match v with
  | .ref k => .ref (ad k)
  | v => v
theorem vc_int (ad : Nat → Nat) (x : Int32) : vc ad (.int x) = .int x := rfl
theorem vc_cat (ad : Nat → Nat) (v : Value) : (vc ad v).category = v.category := by cases v <;> rfl
def fv (ad : Nat → Nat) (r : Nat → Int32) (k : Nat) (f : Option (Option Nat)) : Value := match f with
  | none => .int (r k)
  | some q => va_rf (q.map ad)
def ce (N : N3) (ad : Nat → Nat) (r : Nat → Int32) (c : SC) : va_E := match c with
  | .inl o => .inr (o.1, o.2.mapIdx (fv ad r))
  | .inr (.inl a) => .inl (if a.1 = 0 then N.1 else N.2.1, a.2, .inl r)
  | .inr (.inr g) => .inl (N.2.2, g.1, .inr (.inr (.inr (.inr (fun k => (g.2 k).map ad)))))
def cw (N : N3) (ad : Nat → Nat) (S : List SC) (σ : St) : va_W := S.mapIdx (fun i c => (ad i, ce N ad (σ i) c))
theorem cw_at {N : N3} {ad : Nat → Nat} {S : List SC} {σ : St} {i : Nat} {c : SC} (h : S[i]? = some c) : (cw N ad S σ)[i]? = some (ad i, ce N ad (σ i) c) := by
  simp [cw, List.getElem?_mapIdx, h]
def up2 (σ : St) (c k : Nat) (v : Int32) : St := fun c' => if c' = c then upd (σ c) k v else σ c'
theorem cw_set {N : N3} {ad : Nat → Nat} {S : List SC} {σ : St} {i k : Nat} {v : Int32} {c : SC} {E : va_E} (h : S[i]? = some c) (hE : ce N ad (upd (σ i) k v) c = E) : (cw N ad S σ).set i (ad i, E) = cw N ad S (up2 σ i k v) := by
  apply List.ext_getElem?
  intro j
  by_cases hj : i = j
  · subst hj
    have hl : i < (cw N ad S σ).length := by simp [cw]; exact (List.getElem?_eq_some_iff.mp h).1
    rw [List.getElem?_set_self hl, cw_at h]
    simp [up2, hE]
  · rw [List.getElem?_set_ne hj]
    have : ¬ j = i := fun q => hj q.symm
    simp [cw, List.getElem?_mapIdx, up2, this]
theorem fv_set {ad : Nat → Nat} {r : Nat → Int32} {fr : List (Option (Option Nat))} {k : Nat} {v : Int32} (h : fr[k]? = some none) : (fr.mapIdx (fv ad r)).set k (.int v) = fr.mapIdx (fv ad (upd r k v)) := by
  apply List.ext_getElem?
  intro j
  by_cases hj : k = j
  · subst hj
    have hl : k < (fr.mapIdx (fv ad r)).length := by simp; exact (List.getElem?_eq_some_iff.mp h).1
    rw [List.getElem?_set_self hl]
    simp [List.getElem?_mapIdx, h, fv, upd]
  · rw [List.getElem?_set_ne hj]
    have : ¬ j = k := fun q => hj q.symm
    simp only [List.getElem?_mapIdx]
    cases fr[j]? with
    | none => rfl
    | some f => cases f <;> simp [fv, upd, this]
/-! methods -/
abbrev MI : Type := MethodName × ByteArray × Nat × Option FieldType
def mwords (M : MI) : List Cond := .code M.1 M.2.1 M.2.2.1 M.2.2.2 :: gtbl
def CX (M : MI) (p : Program) (s : State) (m : MethodId) (args : Array Value) (meth : Method) (c : Code) : Prop :=
  p.tables.exec = Jvm.exec ∧ c.code = M.2.1 ∧ c.maxLocals = M.2.2.1 ∧ s.vm.findClass M.1.cls = some m.cls ∧ (∀ w ∈ gtbl, w.before args s = true) ∧ meth.name = M.1.name ∧ NW s
def WS (D : va_G) (N : N3) (A : Nat → Prop) (s : State) (ad0 : Nat → Nat) (n0 : Nat) (ad : Nat → Nat) (S : List SC) (σ : St) (H : Heap) (locs : List Loc) : Prop :=
  n0 ≤ S.length ∧ (∀ k, k < n0 ∨ 777 ≤ k → ad k = ad0 k) ∧ va_P D vwCl (cw N ad S σ) H ∧ va_D A (cw N ad S σ) ∧ va_S A s.heap H locs
def RetIns (M : MI) (pc : Nat) (v : Option Value) : Prop := match v with
  | none => decode M.2.1 pc = .ok (.return_, 1) ∧ M.2.2.2 = none
  | some (.int x) => decode M.2.1 pc = .ok (.ireturn, 1) ∧ ∃ ty, M.2.2.2 = some ty ∧ narrow ty (.int x) = .int x
  | some (.long _) => decode M.2.1 pc = .ok (.lreturn, 1) ∧ M.2.2.2 = some .long
  | _ => False
abbrev QT : Type := Option Value → List SC → St → Prop
def RT (M : MI) (R : Room) (mc ms : Nat) (Q : QT) (p : Program) (l : Launch) (e : Env) (s : State) (m : MethodId) (args : Array Value) (below : List Frame) (meth : Method) (c : Code) (Z : State → Prop) (D : va_G) (N : N3) (A : Nat → Prop) (ad0 : Nat → Nat) (n0 : Nat) : Prop :=
  ∀ (v : Option Value) (S : List SC) (σ : St) (ad : Nat → Nat) (H : Heap) (locs : List Loc) (ls : Array Slot) (pc kc kn : Nat), Q v S σ → WS D N A s ad0 n0 ad S σ H locs → kc ≤ mc → kn ≤ ms → RetIns M pc v → W p l e R s m args below meth c H locs kc kn Z (F0 m pc ls (v.toList.map (vc ad)))
def conL (ad : Nat → Nat) (L : LV) : LV := L.map (fun q => (q.1, vc ad q.2))
abbrev EX : Type := State → (Nat → Prop) → (Nat → Nat) → Prop
def AW (M : MI) (X : EX) (R : Room) (mc ms : Nat) (Q : QT) (kc kn : Nat) (S : List SC) (σ : St) (pc : Nat) (L : LV) (st : List Value) : Prop :=
  ∀ (p : Program) (l : Launch) (e : Env) (s : State) (m : MethodId) (args : Array Value) (below : List Frame) (meth : Method) (c : Code) (Z : State → Prop) (D : va_G) (N : N3) (A : Nat → Prop) (ad0 : Nat → Nat) (n0 : Nat),
    CX M p s m args meth c → va_K D vwCl (tys3 N) s → (∀ q, s.heap.size ≤ q → A q) → X s A ad0 → RT M R mc ms Q p l e s m args below meth c Z D N A ad0 n0 →
    ∀ (ad : Nat → Nat) (H : Heap) (locs : List Loc) (ls : Array Slot), WS D N A s ad0 n0 ad S σ H locs → lv_has ls M.2.2.1 (conL ad L) →
      W p l e R s m args below meth c H locs kc kn Z (F0 m pc ls (st.map (vc ad)))
/-! locals -/
def lget (L : LV) (i : Nat) : Option Value := match L with
  | [] => none
  | q :: l => cond (Nat.beq q.1 i) (some q.2) (lget l i)
theorem lget_mem {L : LV} {i : Nat} {v : Value} (h : lget L i = some v) : (i, v) ∈ L := by
  induction L with
  | nil => simp [lget] at h
  | cons q l ih =>
    unfold lget at h
    cases hb : Nat.beq q.1 i with
    | true =>
      rw [hb] at h
      have h1 : q.1 = i := Nat.eq_of_beq_eq_true hb
      have h2 : q.2 = v := by simpa using h
      exact List.mem_cons.mpr (Or.inl (by rw [← h1, ← h2]))
    | false =>
      rw [hb] at h
      exact List.mem_cons_of_mem _ (ih (by simpa using h))
theorem lget_at {L : LV} {i nL : Nat} {v : Value} {ad : Nat → Nat} {ls : Array Slot} (hl : lv_has ls nL (conL ad L)) (h : lget L i = some v) : ls[i]? = some (.val (vc ad v)) :=
  hl.2.2 (i, vc ad v) (List.mem_map.mpr ⟨(i, v), lget_mem h, rfl⟩)
def lput1 (L : LV) (i : Nat) (v : Value) : LV := (i, v) :: L.filter (fun q => !(q.1 == i) && !(q.1 + 1 == i && q.2.category == 2))
def lput2 (L : LV) (i : Nat) (v : Value) : LV := (i, v) :: L.filter (fun q => !(q.1 == i) && (!(q.1 == i + 1) && !(q.1 + 1 == i && q.2.category == 2)))
theorem conL_put1 {ad : Nat → Nat} {L : LV} {i : Nat} {v w : Value} (hw : vc ad v = w) : (i, w) :: (conL ad L).filter (fun q => !(q.1 == i) && !(q.1 + 1 == i && q.2.category == 2)) = conL ad (lput1 L i v) := by
  subst hw
  simp only [conL, lput1, List.map_cons, List.filter_map]
  congr 2
  apply List.filter_congr
  intro q _
  simp [vc_cat]
theorem conL_put2 {ad : Nat → Nat} {L : LV} {i : Nat} {v w : Value} (hw : vc ad v = w) : (i, w) :: (conL ad L).filter (fun q => !(q.1 == i) && (!(q.1 == i + 1) && !(q.1 + 1 == i && q.2.category == 2))) = conL ad (lput2 L i v) := by
  subst hw
  simp only [conL, lput2, List.map_cons, List.filter_map]
  congr 2
  apply List.filter_congr
  intro q _
  simp [vc_cat]
/-! local instructions -/
def jrem (x y : Int32) : Int32 := x - x / y * y
def jremL (x y : Int64) : Int64 := x - x / y * y
def jushr (x y : Int32) : Int32 := (x.toUInt32 >>> (y.toUInt32 &&& Int32.toUInt32 31)).toInt32
abbrev TE : Type := Instr × Nat × Int32 × Int64
def cOK (own : String) (pc : Nat) (i : Instr) (v : Int32) (v2 : Int64) : Bool := match i with
  | .iconst n => Int32.ofInt n == v
  | .bipush n => (Int8.ofInt n).toInt32 == v
  | .sipush n => (Int16.ofInt n).toInt32 == v
  | .ldc k => decide (Cond.constant own k v ∈ tables_1)
  | .ldc_w k => decide (Cond.constant own k v ∈ tables_1)
  | .lconst n => Int64.ofNat n.val == v2
  | .ldc2_w k => decide (Cond.constantLong own k v2 ∈ tables_1)
  | .iinc _ n => Int32.ofInt n == v
  | .goto off => decide (0 ≤ (pc : Int) + off)
  | .if_icmp _ off => decide (0 ≤ (pc : Int) + off)
  | .ifCond _ off => decide (0 ≤ (pc : Int) + off)
  | .ifnonnull off => decide (0 ≤ (pc : Int) + off)
  | _ => true
def tOK (own : String) (bytes : ByteArray) (tab : List (Nat × TE)) : Bool := tab.all (fun q => decide (decode bytes q.1 = .ok (q.2.1, q.2.2.1)) && cOK own q.1 q.2.1 q.2.2.2.1 q.2.2.2.2)
def tget (tab : List (Nat × TE)) (pc : Nat) : Option TE := match tab with
  | [] => none
  | q :: l => cond (Nat.beq q.1 pc) (some q.2) (tget l pc)
theorem tget_mem {tab : List (Nat × TE)} {pc : Nat} {t : TE} (h : tget tab pc = some t) : (pc, t) ∈ tab := by
  induction tab with
  | nil => simp [tget] at h
  | cons q l ih =>
    unfold tget at h
    cases hb : Nat.beq q.1 pc with
    | true =>
      rw [hb] at h
      have h1 : q.1 = pc := Nat.eq_of_beq_eq_true hb
      have h2 : q.2 = t := by simpa using h
      exact List.mem_cons.mpr (Or.inl (by rw [← h1, ← h2]))
    | false =>
      rw [hb] at h
      exact List.mem_cons_of_mem _ (ih (by simpa using h))
theorem tok_at {own : String} {bytes : ByteArray} {tab : List (Nat × TE)} (hT : tOK own bytes tab = true) {pc : Nat} {t : TE} (h : tget tab pc = some t) : decode bytes pc = .ok (t.1, t.2.1) ∧ cOK own pc t.1 t.2.2.1 t.2.2.2 = true := by
  have h1 := List.all_eq_true.mp hT _ (tget_mem h)
  simp only [Bool.and_eq_true, decide_eq_true_eq] at h1
  exact h1
end
section
/-! ===== local instructions: one function, one law ===== -/
def chk {α : Type} (a b : Nat) (o : Option α) : Option α := cond (Nat.beq a b) o none
theorem chk_s {α : Type} {a b : Nat} {o : Option α} {y : α} (h : chk a b o = some y) : a = b ∧ o = some y := by
  unfold chk at h
  cases hb : Nat.beq a b with
  | true => rw [hb] at h; exact ⟨Nat.eq_of_beq_eq_true hb, h⟩
  | false => rw [hb] at h; cases h
def gI {α : Type} (o : Option Value) (f : Int32 → Option α) : Option α := match o with
  | some (.int x) => f x
  | _ => none
theorem gI_s {α : Type} {o : Option Value} {f : Int32 → Option α} {y : α} (h : gI o f = some y) : ∃ x, o = some (.int x) ∧ f x = some y := by
  unfold gI at h
  split at h
  · exact ⟨_, rfl, h⟩
  · cases h
def gL {α : Type} (o : Option Value) (f : Int64 → Option α) : Option α := match o with
  | some (.long x) => f x
  | _ => none
theorem gL_s {α : Type} {o : Option Value} {f : Int64 → Option α} {y : α} (h : gL o f = some y) : ∃ x, o = some (.long x) ∧ f x = some y := by
  unfold gL at h
  split at h
  · exact ⟨_, rfl, h⟩
  · cases h
def gR {α : Type} (o : Option Value) (f : Nat → Option α) : Option α := match o with
  | some (.ref x) => f x
  | _ => none
theorem gR_s {α : Type} {o : Option Value} {f : Nat → Option α} {y : α} (h : gR o f = some y) : ∃ x, o = some (.ref x) ∧ f x = some y := by
  unfold gR at h
  split at h
  · exact ⟨_, rfl, h⟩
  · cases h
def pI {α : Type} (st : List Value) (f : Int32 → List Value → Option α) : Option α := match st with
  | .int x :: st => f x st
  | _ => none
theorem pI_s {α : Type} {st : List Value} {f : Int32 → List Value → Option α} {y : α} (h : pI st f = some y) : ∃ x r, st = .int x :: r ∧ f x r = some y := by
  unfold pI at h
  split at h
  · exact ⟨_, _, rfl, h⟩
  · cases h
def pL {α : Type} (st : List Value) (f : Int64 → List Value → Option α) : Option α := match st with
  | .long x :: st => f x st
  | _ => none
theorem pL_s {α : Type} {st : List Value} {f : Int64 → List Value → Option α} {y : α} (h : pL st f = some y) : ∃ x r, st = .long x :: r ∧ f x r = some y := by
  unfold pL at h
  split at h
  · exact ⟨_, _, rfl, h⟩
  · cases h
def pR {α : Type} (st : List Value) (f : Nat → List Value → Option α) : Option α := match st with
  | .ref x :: st => f x st
  | _ => none
theorem pR_s {α : Type} {st : List Value} {f : Nat → List Value → Option α} {y : α} (h : pR st f = some y) : ∃ x r, st = .ref x :: r ∧ f x r = some y := by
  unfold pR at h
  split at h
  · exact ⟨_, _, rfl, h⟩
  · cases h
def pV {α : Type} (st : List Value) (f : Value → List Value → Option α) : Option α := match st with
  | v :: st => chk v.category 1 (f v st)
  | _ => none
theorem pV_s {α : Type} {st : List Value} {f : Value → List Value → Option α} {y : α} (h : pV st f = some y) : ∃ v r, st = v :: r ∧ v.category = 1 ∧ f v r = some y := by
  unfold pV at h
  split at h
  · obtain ⟨h1, h2⟩ := chk_s h
    exact ⟨_, _, rfl, h1, h2⟩
  · cases h
def ltb {α : Type} (a b : Nat) (o : Option α) : Option α := cond (Nat.blt a b) o none
theorem ltb_s {α : Type} {a b : Nat} {o : Option α} {y : α} (h : ltb a b o = some y) : a < b ∧ o = some y := by
  unfold ltb at h
  cases hb : Nat.blt a b with
  | true => rw [hb] at h; exact ⟨Nat.le_of_ble_eq_true hb, h⟩
  | false => rw [hb] at h; cases h
theorem cOK_l1 {own : String} {pc k : Nat} {v : Int32} {v2 : Int64} (h : cOK own pc (.ldc k) v v2 = true) : Cond.constant own k v ∈ tables_1 := by
  unfold cOK at h
  simpa only [decide_eq_true_eq] using h
theorem cOK_lw {own : String} {pc k : Nat} {v : Int32} {v2 : Int64} (h : cOK own pc (.ldc_w k) v v2 = true) : Cond.constant own k v ∈ tables_1 := by
  unfold cOK at h
  simpa only [decide_eq_true_eq] using h
theorem cOK_l2 {own : String} {pc k : Nat} {v : Int32} {v2 : Int64} (h : cOK own pc (.ldc2_w k) v v2 = true) : Cond.constantLong own k v2 ∈ tables_1 := by
  unfold cOK at h
  simpa only [decide_eq_true_eq] using h
def jmp (pc : Nat) (off : Int) : Nat := ((pc : Int) + off).toNat
theorem jmp_ok {pc : Nat} {off : Int} (h : decide (0 ≤ (pc : Int) + off) = true) : (pc : Int) + off = (jmp pc off : Int) := by
  have h1 : 0 ≤ (pc : Int) + off := by simpa using h
  unfold jmp
  omega
def lstep (nL pc : Nat) (i : Instr) (len : Nat) (v : Int32) (v2 : Int64) (L : LV) (st : List Value) : Option (Nat × LV × List Value) := match i with
  | .iconst n => chk len 1 (some (pc + 1, L, .int v :: st))
  | .bipush n => chk len 2 (some (pc + 2, L, .int v :: st))
  | .sipush n => chk len 3 (some (pc + 3, L, .int v :: st))
  | .ldc n => chk len 2 (some (pc + 2, L, .int v :: st))
  | .ldc_w n => chk len 3 (some (pc + 3, L, .int v :: st))
  | .lconst n => chk len 1 (some (pc + 1, L, .long v2 :: st))
  | .ldc2_w n => chk len 3 (some (pc + 3, L, .long v2 :: st))
  | .iload_n n => chk len 1 (gI (lget L n.val) (fun x => some (pc + 1, L, .int x :: st)))
  | .iload n => chk len 2 (gI (lget L n) (fun x => some (pc + 2, L, .int x :: st)))
  | .aload_n n => chk len 1 (gR (lget L n.val) (fun x => some (pc + 1, L, .ref x :: st)))
  | .aload n => chk len 2 (gR (lget L n) (fun x => some (pc + 2, L, .ref x :: st)))
  | .lload n => chk len 2 (gL (lget L n) (fun x => some (pc + 2, L, .long x :: st)))
  | .istore_n n => chk len 1 (pI st (fun x st => ltb n.val nL (some (pc + 1, lput1 L n.val (.int x), st))))
  | .istore n => chk len 2 (pI st (fun x st => ltb n nL (some (pc + 2, lput1 L n (.int x), st))))
  | .astore_n n => chk len 1 (pR st (fun x st => ltb n.val nL (some (pc + 1, lput1 L n.val (.ref x), st))))
  | .astore n => chk len 2 (pR st (fun x st => ltb n nL (some (pc + 2, lput1 L n (.ref x), st))))
  | .lstore n => chk len 2 (pL st (fun x st => ltb (n + 1) nL (some (pc + 2, lput2 L n (.long x), st))))
  | .iinc n z => chk len 3 (gI (lget L n) (fun x => ltb n nL (some (pc + 3, lput1 L n (.int (x + v)), st))))
  | .iadd => chk len 1 (pI st (fun y st => pI st (fun x st => some (pc + 1, L, .int (x + y) :: st))))
  | .isub => chk len 1 (pI st (fun y st => pI st (fun x st => some (pc + 1, L, .int (x - y) :: st))))
  | .imul => chk len 1 (pI st (fun y st => pI st (fun x st => some (pc + 1, L, .int (x * y) :: st))))
  | .iand => chk len 1 (pI st (fun y st => pI st (fun x st => some (pc + 1, L, .int (x &&& y) :: st))))
  | .ior => chk len 1 (pI st (fun y st => pI st (fun x st => some (pc + 1, L, .int (x ||| y) :: st))))
  | .ixor => chk len 1 (pI st (fun y st => pI st (fun x st => some (pc + 1, L, .int (x ^^^ y) :: st))))
  | .ishl => chk len 1 (pI st (fun y st => pI st (fun x st => some (pc + 1, L, .int (x <<< (y &&& 31)) :: st))))
  | .ishr => chk len 1 (pI st (fun y st => pI st (fun x st => some (pc + 1, L, .int (x >>> (y &&& 31)) :: st))))
  | .iushr => chk len 1 (pI st (fun y st => pI st (fun x st => some (pc + 1, L, .int (jushr x y) :: st))))
  | .ladd => chk len 1 (pL st (fun y st => pL st (fun x st => some (pc + 1, L, .long (x + y) :: st))))
  | .lsub => chk len 1 (pL st (fun y st => pL st (fun x st => some (pc + 1, L, .long (x - y) :: st))))
  | .lmul => chk len 1 (pL st (fun y st => pL st (fun x st => some (pc + 1, L, .long (x * y) :: st))))
  | .lcmp => chk len 1 (pL st (fun y st => pL st (fun x st => some (pc + 1, L, .int (lg_cmp x y) :: st))))
  | .i2l => chk len 1 (pI st (fun x st => some (pc + 1, L, .long x.toInt64 :: st)))
  | .dup => chk len 1 (pV st (fun x st => some (pc + 1, L, x :: x :: st)))
  | .pop => chk len 1 (pV st (fun x st => some (pc + 1, L, st)))
  | .dup2 => chk len 1 (pV st (fun x st => pV st (fun y st => some (pc + 1, L, x :: y :: x :: y :: st))))
  | .goto off => chk len 3 (some (jmp pc off, L, st))
  | .ifnonnull off => chk len 3 (match st with
    | .ref _ :: st => some (jmp pc off, L, st)
    | .null :: st => some (pc + 3, L, st)
    | _ => none)
  | _ => none
set_option maxHeartbeats 4000000 in
set_option maxRecDepth 10000 in
theorem aw_l1 {M : MI} {X : EX} {R : Room} {mc ms : Nat} {Q : QT} {kc kn : Nat} {S : List SC} {σ : St} {pc : Nat} {L : LV} {st : List Value} {i : Instr} {len pc2 : Nat} {v : Int32} {v2 : Int64} {L2 : LV} {st2 : List Value} (hd : decode M.2.1 pc = .ok (i, len)) (hc : cOK M.1.cls pc i v v2 = true) (h : lstep M.2.2.1 pc i len v v2 L st = some (pc2, L2, st2))
    (k : AW M X R mc ms Q kc kn S σ pc2 L2 st2) : AW M X R mc ms Q kc kn S σ pc L st := by
  intro p l e s m args below meth c Z D N A ad0 n0 hC hK hA hX hR ad H locs ls hW hl
  cases i with
  | iconst n =>
    have hh := chk_s h
    clear h
    obtain ⟨hlen, h⟩ := hh
    subst hlen
    cases h
    exact lv_iconst hC.1 hC.2.1 hd (by simpa [cOK] using hc) (k p l e s m args below meth c Z D N A ad0 n0 hC hK hA hX hR ad H locs ls hW hl)
  | bipush n =>
    have hh := chk_s h
    clear h
    obtain ⟨hlen, h⟩ := hh
    subst hlen
    cases h
    exact lv_bipush hC.1 hC.2.1 hd (by simpa [cOK] using hc) (k p l e s m args below meth c Z D N A ad0 n0 hC hK hA hX hR ad H locs ls hW hl)
  | sipush n =>
    have hh := chk_s h
    clear h
    obtain ⟨hlen, h⟩ := hh
    subst hlen
    cases h
    exact lv_sipush hC.1 hC.2.1 hd (by simpa [cOK] using hc) (k p l e s m args below meth c Z D N A ad0 n0 hC hK hA hX hR ad H locs ls hW hl)
  | ldc n =>
    have hh := chk_s h
    clear h
    obtain ⟨hlen, h⟩ := hh
    subst hlen
    cases h
    exact lv_ldc hC.1 hC.2.1 hC.2.2.2.1 (hC.2.2.2.2.1 _ (gt_mem (cOK_l1 hc) rfl)) hd (k p l e s m args below meth c Z D N A ad0 n0 hC hK hA hX hR ad H locs ls hW hl)
  | ldc_w n =>
    have hh := chk_s h
    clear h
    obtain ⟨hlen, h⟩ := hh
    subst hlen
    cases h
    exact lv_ldcw hC.1 hC.2.1 hC.2.2.2.1 (hC.2.2.2.2.1 _ (gt_mem (cOK_lw hc) rfl)) hd (k p l e s m args below meth c Z D N A ad0 n0 hC hK hA hX hR ad H locs ls hW hl)
  | lconst n =>
    have hh := chk_s h
    clear h
    obtain ⟨hlen, h⟩ := hh
    subst hlen
    cases h
    exact lv_lconst hC.1 hC.2.1 hd (by simpa [cOK] using hc) (k p l e s m args below meth c Z D N A ad0 n0 hC hK hA hX hR ad H locs ls hW hl)
  | ldc2_w n =>
    have hh := chk_s h
    clear h
    obtain ⟨hlen, h⟩ := hh
    subst hlen
    cases h
    exact lv_ldc2 hC.1 hC.2.1 hC.2.2.2.1 (hC.2.2.2.2.1 _ (gt_mem (cOK_l2 hc) rfl)) hd (k p l e s m args below meth c Z D N A ad0 n0 hC hK hA hX hR ad H locs ls hW hl)
  | iload_n n =>
    have hh := chk_s h
    clear h
    obtain ⟨hlen, h⟩ := hh
    subst hlen
    obtain ⟨x, hg, h1⟩ := gI_s h
    cases h1
    exact lv_iload_n hC.1 hC.2.1 hd rfl (lget_at hl hg) (k p l e s m args below meth c Z D N A ad0 n0 hC hK hA hX hR ad H locs ls hW hl)
  | iload n =>
    have hh := chk_s h
    clear h
    obtain ⟨hlen, h⟩ := hh
    subst hlen
    obtain ⟨x, hg, h1⟩ := gI_s h
    cases h1
    exact lv_iload hC.1 hC.2.1 hd (lget_at hl hg) (k p l e s m args below meth c Z D N A ad0 n0 hC hK hA hX hR ad H locs ls hW hl)
  | aload_n n =>
    have hh := chk_s h
    clear h
    obtain ⟨hlen, h⟩ := hh
    subst hlen
    obtain ⟨x, hg, h1⟩ := gR_s h
    cases h1
    exact lv_aload_n hC.1 hC.2.1 hd rfl (lget_at hl hg) (k p l e s m args below meth c Z D N A ad0 n0 hC hK hA hX hR ad H locs ls hW hl)
  | aload n =>
    have hh := chk_s h
    clear h
    obtain ⟨hlen, h⟩ := hh
    subst hlen
    obtain ⟨x, hg, h1⟩ := gR_s h
    cases h1
    exact lv_aload hC.1 hC.2.1 hd (lget_at hl hg) (k p l e s m args below meth c Z D N A ad0 n0 hC hK hA hX hR ad H locs ls hW hl)
  | lload n =>
    have hh := chk_s h
    clear h
    obtain ⟨hlen, h⟩ := hh
    subst hlen
    obtain ⟨x, hg, h1⟩ := gL_s h
    cases h1
    exact lv_lload hC.1 hC.2.1 hd (lget_at hl hg) (k p l e s m args below meth c Z D N A ad0 n0 hC hK hA hX hR ad H locs ls hW hl)
  | istore_n n =>
    have hh := chk_s h
    clear h
    obtain ⟨hlen, h⟩ := hh
    subst hlen
    obtain ⟨x, r, rfl, h1⟩ := pI_s h
    obtain ⟨hn, h2⟩ := ltb_s h1
    cases h2
    exact lv_istore_n hC.1 hC.2.1 hd rfl hl hn (conL_put1 (v := .int x) rfl) (fun ls hl => k p l e s m args below meth c Z D N A ad0 n0 hC hK hA hX hR ad H locs ls hW hl)
  | istore n =>
    have hh := chk_s h
    clear h
    obtain ⟨hlen, h⟩ := hh
    subst hlen
    obtain ⟨x, r, rfl, h1⟩ := pI_s h
    obtain ⟨hn, h2⟩ := ltb_s h1
    cases h2
    exact lv_istore hC.1 hC.2.1 hd hl hn (conL_put1 (v := .int x) rfl) (fun ls hl => k p l e s m args below meth c Z D N A ad0 n0 hC hK hA hX hR ad H locs ls hW hl)
  | astore_n n =>
    have hh := chk_s h
    clear h
    obtain ⟨hlen, h⟩ := hh
    subst hlen
    obtain ⟨x, r, rfl, h1⟩ := pR_s h
    obtain ⟨hn, h2⟩ := ltb_s h1
    cases h2
    exact lv_astore_n hC.1 hC.2.1 hd rfl hl hn (conL_put1 (v := .ref x) rfl) (fun ls hl => k p l e s m args below meth c Z D N A ad0 n0 hC hK hA hX hR ad H locs ls hW hl)
  | astore n =>
    have hh := chk_s h
    clear h
    obtain ⟨hlen, h⟩ := hh
    subst hlen
    obtain ⟨x, r, rfl, h1⟩ := pR_s h
    obtain ⟨hn, h2⟩ := ltb_s h1
    cases h2
    exact lv_astore hC.1 hC.2.1 hd hl hn (conL_put1 (v := .ref x) rfl) (fun ls hl => k p l e s m args below meth c Z D N A ad0 n0 hC hK hA hX hR ad H locs ls hW hl)
  | lstore n =>
    have hh := chk_s h
    clear h
    obtain ⟨hlen, h⟩ := hh
    subst hlen
    obtain ⟨x, r, rfl, h1⟩ := pL_s h
    obtain ⟨hn, h2⟩ := ltb_s h1
    cases h2
    exact lv_lstore hC.1 hC.2.1 hd hl hn (conL_put2 (v := .long x) rfl) (fun ls hl => k p l e s m args below meth c Z D N A ad0 n0 hC hK hA hX hR ad H locs ls hW hl)
  | iinc n z =>
    have hh := chk_s h
    clear h
    obtain ⟨hlen, h⟩ := hh
    subst hlen
    obtain ⟨x, hg, h1⟩ := gI_s h
    obtain ⟨hn, h2⟩ := ltb_s h1
    cases h2
    have hv : Int32.ofInt z = v := by simpa [cOK] using hc
    obtain ⟨j, hj⟩ := List.getElem?_of_mem (List.mem_map.mpr ⟨(n, Value.int x), lget_mem hg, rfl⟩ : (n, vc ad (.int x)) ∈ conL ad L)
    exact lv_iinc hC.1 hC.2.1 hd hl (k := j) hj (by rw [hv]) hn (conL_put1 (v := .int (x + v)) rfl) (fun ls hl => k p l e s m args below meth c Z D N A ad0 n0 hC hK hA hX hR ad H locs ls hW hl)
  | iadd =>
    have hh := chk_s h
    clear h
    obtain ⟨hlen, h⟩ := hh
    subst hlen
    obtain ⟨y, r, rfl, h1⟩ := pI_s h
    obtain ⟨x, r, rfl, h2⟩ := pI_s h1
    cases h2
    exact lv_iadd hC.1 hC.2.1 hd (k p l e s m args below meth c Z D N A ad0 n0 hC hK hA hX hR ad H locs ls hW hl)
  | isub =>
    have hh := chk_s h
    clear h
    obtain ⟨hlen, h⟩ := hh
    subst hlen
    obtain ⟨y, r, rfl, h1⟩ := pI_s h
    obtain ⟨x, r, rfl, h2⟩ := pI_s h1
    cases h2
    exact lv_isub hC.1 hC.2.1 hd (k p l e s m args below meth c Z D N A ad0 n0 hC hK hA hX hR ad H locs ls hW hl)
  | imul =>
    have hh := chk_s h
    clear h
    obtain ⟨hlen, h⟩ := hh
    subst hlen
    obtain ⟨y, r, rfl, h1⟩ := pI_s h
    obtain ⟨x, r, rfl, h2⟩ := pI_s h1
    cases h2
    exact lv_imul hC.1 hC.2.1 hd (k p l e s m args below meth c Z D N A ad0 n0 hC hK hA hX hR ad H locs ls hW hl)
  | iand =>
    have hh := chk_s h
    clear h
    obtain ⟨hlen, h⟩ := hh
    subst hlen
    obtain ⟨y, r, rfl, h1⟩ := pI_s h
    obtain ⟨x, r, rfl, h2⟩ := pI_s h1
    cases h2
    exact lv_iand hC.1 hC.2.1 hd (k p l e s m args below meth c Z D N A ad0 n0 hC hK hA hX hR ad H locs ls hW hl)
  | ior =>
    have hh := chk_s h
    clear h
    obtain ⟨hlen, h⟩ := hh
    subst hlen
    obtain ⟨y, r, rfl, h1⟩ := pI_s h
    obtain ⟨x, r, rfl, h2⟩ := pI_s h1
    cases h2
    exact lv_ior hC.1 hC.2.1 hd (k p l e s m args below meth c Z D N A ad0 n0 hC hK hA hX hR ad H locs ls hW hl)
  | ixor =>
    have hh := chk_s h
    clear h
    obtain ⟨hlen, h⟩ := hh
    subst hlen
    obtain ⟨y, r, rfl, h1⟩ := pI_s h
    obtain ⟨x, r, rfl, h2⟩ := pI_s h1
    cases h2
    exact lv_ixor hC.1 hC.2.1 hd (k p l e s m args below meth c Z D N A ad0 n0 hC hK hA hX hR ad H locs ls hW hl)
  | ishl =>
    have hh := chk_s h
    clear h
    obtain ⟨hlen, h⟩ := hh
    subst hlen
    obtain ⟨y, r, rfl, h1⟩ := pI_s h
    obtain ⟨x, r, rfl, h2⟩ := pI_s h1
    cases h2
    exact lv_ishl hC.1 hC.2.1 hd (k p l e s m args below meth c Z D N A ad0 n0 hC hK hA hX hR ad H locs ls hW hl)
  | ishr =>
    have hh := chk_s h
    clear h
    obtain ⟨hlen, h⟩ := hh
    subst hlen
    obtain ⟨y, r, rfl, h1⟩ := pI_s h
    obtain ⟨x, r, rfl, h2⟩ := pI_s h1
    cases h2
    exact lv_ishr hC.1 hC.2.1 hd (k p l e s m args below meth c Z D N A ad0 n0 hC hK hA hX hR ad H locs ls hW hl)
  | iushr =>
    have hh := chk_s h
    clear h
    obtain ⟨hlen, h⟩ := hh
    subst hlen
    obtain ⟨y, r, rfl, h1⟩ := pI_s h
    obtain ⟨x, r, rfl, h2⟩ := pI_s h1
    cases h2
    exact lv_iushr hC.1 hC.2.1 hd rfl (k p l e s m args below meth c Z D N A ad0 n0 hC hK hA hX hR ad H locs ls hW hl)
  | ladd =>
    have hh := chk_s h
    clear h
    obtain ⟨hlen, h⟩ := hh
    subst hlen
    obtain ⟨y, r, rfl, h1⟩ := pL_s h
    obtain ⟨x, r, rfl, h2⟩ := pL_s h1
    cases h2
    exact lv_ladd hC.1 hC.2.1 hd (k p l e s m args below meth c Z D N A ad0 n0 hC hK hA hX hR ad H locs ls hW hl)
  | lsub =>
    have hh := chk_s h
    clear h
    obtain ⟨hlen, h⟩ := hh
    subst hlen
    obtain ⟨y, r, rfl, h1⟩ := pL_s h
    obtain ⟨x, r, rfl, h2⟩ := pL_s h1
    cases h2
    exact lv_lsub hC.1 hC.2.1 hd (k p l e s m args below meth c Z D N A ad0 n0 hC hK hA hX hR ad H locs ls hW hl)
  | lmul =>
    have hh := chk_s h
    clear h
    obtain ⟨hlen, h⟩ := hh
    subst hlen
    obtain ⟨y, r, rfl, h1⟩ := pL_s h
    obtain ⟨x, r, rfl, h2⟩ := pL_s h1
    cases h2
    exact lv_lmul hC.1 hC.2.1 hd (k p l e s m args below meth c Z D N A ad0 n0 hC hK hA hX hR ad H locs ls hW hl)
  | lcmp =>
    have hh := chk_s h
    clear h
    obtain ⟨hlen, h⟩ := hh
    subst hlen
    obtain ⟨y, r, rfl, h1⟩ := pL_s h
    obtain ⟨x, r, rfl, h2⟩ := pL_s h1
    cases h2
    exact W.lcmp hC.1 hC.2.1 hd (k p l e s m args below meth c Z D N A ad0 n0 hC hK hA hX hR ad H locs ls hW hl)
  | i2l =>
    have hh := chk_s h
    clear h
    obtain ⟨hlen, h⟩ := hh
    subst hlen
    obtain ⟨x, r, rfl, h1⟩ := pI_s h
    cases h1
    exact lv_i2l hC.1 hC.2.1 hd rfl (k p l e s m args below meth c Z D N A ad0 n0 hC hK hA hX hR ad H locs ls hW hl)
  | dup =>
    have hh := chk_s h
    clear h
    obtain ⟨hlen, h⟩ := hh
    subst hlen
    obtain ⟨x, r, rfl, hv, h1⟩ := pV_s h
    cases h1
    exact lv_dup hC.1 hC.2.1 hd ((vc_cat ad x).trans hv) (k p l e s m args below meth c Z D N A ad0 n0 hC hK hA hX hR ad H locs ls hW hl)
  | pop =>
    have hh := chk_s h
    clear h
    obtain ⟨hlen, h⟩ := hh
    subst hlen
    obtain ⟨x, r, rfl, hv, h1⟩ := pV_s h
    cases h1
    exact lv_pop hC.1 hC.2.1 hd ((vc_cat ad x).trans hv) (k p l e s m args below meth c Z D N A ad0 n0 hC hK hA hX hR ad H locs ls hW hl)
  | dup2 =>
    have hh := chk_s h
    clear h
    obtain ⟨hlen, h⟩ := hh
    subst hlen
    obtain ⟨x, r, rfl, hv, h1⟩ := pV_s h
    obtain ⟨y, r, rfl, hw, h2⟩ := pV_s h1
    cases h2
    exact lv_dup2_11 hC.1 hC.2.1 hd ((vc_cat ad x).trans hv) ((vc_cat ad y).trans hw) (k p l e s m args below meth c Z D N A ad0 n0 hC hK hA hX hR ad H locs ls hW hl)
  | goto off =>
    have hh := chk_s h
    clear h
    obtain ⟨hlen, h⟩ := hh
    subst hlen
    cases h
    exact lv_goto hC.1 hC.2.1 hd (jmp_ok hc) (k p l e s m args below meth c Z D N A ad0 n0 hC hK hA hX hR ad H locs ls hW hl)
  | ifnonnull off =>
    have hh := chk_s h
    clear h
    obtain ⟨hlen, h⟩ := hh
    subst hlen
    split at h
    · cases h; exact lv_ifnonnull hC.1 hC.2.1 hd (jmp_ok hc) (k p l e s m args below meth c Z D N A ad0 n0 hC hK hA hX hR ad H locs ls hW hl)
    · cases h; exact lv_ifnonnullN hC.1 hC.2.1 hd (k p l e s m args below meth c Z D N A ad0 n0 hC hK hA hX hR ad H locs ls hW hl)
    · cases h
  | _ => exact absurd h (by simp [lstep])
def lrun (nL : Nat) (tab : List (Nat × TE)) (n pc : Nat) (L : LV) (st : List Value) : Option (Nat × LV × List Value) := match n with
  | 0 => some (pc, L, st)
  | n + 1 => match tget tab pc with
    | some t => match lstep nL pc t.1 t.2.1 t.2.2.1 t.2.2.2 L st with
      | some q => lrun nL tab n q.1 q.2.1 q.2.2
      | none => none
    | none => none
theorem aw_run {M : MI} {X : EX} {R : Room} {mc ms : Nat} {Q : QT} {kc kn : Nat} {S : List SC} {σ : St} {tab : List (Nat × TE)} (hT : tOK M.1.cls M.2.1 tab = true) (n : Nat) {pc2 : Nat} {L2 : LV} {st2 : List Value} : ∀ {pc : Nat} {L : LV} {st : List Value}, lrun M.2.2.1 tab n pc L st = some (pc2, L2, st2) → AW M X R mc ms Q kc kn S σ pc2 L2 st2 → AW M X R mc ms Q kc kn S σ pc L st := by
  induction n with
  | zero =>
    intro pc L st h k
    cases h
    exact k
  | succ n ih =>
    intro pc L st h k
    unfold lrun at h
    split at h
    · rename_i t ht
      split at h
      · rename_i q hq
        obtain ⟨hd, hc⟩ := tok_at hT ht
        exact aw_l1 hd hc hq (ih h k)
      · cases h
    · cases h
theorem aw_icmp_eq {M : MI} {X : EX} {R : Room} {mc ms : Nat} {Q : QT} {kc kn : Nat} {S : List SC} {σ : St} {pc : Nat} {L : LV} {st : List Value} {x y : Int32} {off : Int} {tab : List (Nat × TE)} {v : Int32} {v2 : Int64} (hT : tOK M.1.cls M.2.1 tab = true) (ht : tget tab pc = some (.if_icmp .eq off, 3, v, v2)) (tgt pc2 : Nat) (hj : jmp pc off = tgt) (hp : pc + 3 = pc2)
    (kt : x = y → AW M X R mc ms Q kc kn S σ tgt L st) (kf : ¬ x = y → AW M X R mc ms Q kc kn S σ pc2 L st) : AW M X R mc ms Q kc kn S σ pc L (.int y :: .int x :: st) := by
  subst hj; subst hp
  intro p l e s m args below meth c Z D N A ad0 n0 hC hK hA hX hR ad H locs ls hW hl
  exact lv_icmp_eq hC.1 hC.2.1 (tok_at hT ht).1 (jmp_ok (tok_at hT ht).2) (fun q => kt q p l e s m args below meth c Z D N A ad0 n0 hC hK hA hX hR ad H locs ls hW hl) (fun q => kf q p l e s m args below meth c Z D N A ad0 n0 hC hK hA hX hR ad H locs ls hW hl)
theorem aw_if_eq {M : MI} {X : EX} {R : Room} {mc ms : Nat} {Q : QT} {kc kn : Nat} {S : List SC} {σ : St} {pc : Nat} {L : LV} {st : List Value} {x : Int32} {off : Int} {tab : List (Nat × TE)} {v : Int32} {v2 : Int64} (hT : tOK M.1.cls M.2.1 tab = true) (ht : tget tab pc = some (.ifCond .eq off, 3, v, v2)) (tgt pc2 : Nat) (hj : jmp pc off = tgt) (hp : pc + 3 = pc2)
    (kt : x = 0 → AW M X R mc ms Q kc kn S σ tgt L st) (kf : ¬ x = 0 → AW M X R mc ms Q kc kn S σ pc2 L st) : AW M X R mc ms Q kc kn S σ pc L (.int x :: st) := by
  subst hj; subst hp
  intro p l e s m args below meth c Z D N A ad0 n0 hC hK hA hX hR ad H locs ls hW hl
  exact lv_if_eq hC.1 hC.2.1 (tok_at hT ht).1 (jmp_ok (tok_at hT ht).2) (fun q => kt q p l e s m args below meth c Z D N A ad0 n0 hC hK hA hX hR ad H locs ls hW hl) (fun q => kf q p l e s m args below meth c Z D N A ad0 n0 hC hK hA hX hR ad H locs ls hW hl)
theorem aw_icmp_ne {M : MI} {X : EX} {R : Room} {mc ms : Nat} {Q : QT} {kc kn : Nat} {S : List SC} {σ : St} {pc : Nat} {L : LV} {st : List Value} {x y : Int32} {off : Int} {tab : List (Nat × TE)} {v : Int32} {v2 : Int64} (hT : tOK M.1.cls M.2.1 tab = true) (ht : tget tab pc = some (.if_icmp .ne off, 3, v, v2)) (tgt pc2 : Nat) (hj : jmp pc off = tgt) (hp : pc + 3 = pc2)
    (kt : ¬ x = y → AW M X R mc ms Q kc kn S σ tgt L st) (kf : x = y → AW M X R mc ms Q kc kn S σ pc2 L st) : AW M X R mc ms Q kc kn S σ pc L (.int y :: .int x :: st) := by
  subst hj; subst hp
  intro p l e s m args below meth c Z D N A ad0 n0 hC hK hA hX hR ad H locs ls hW hl
  exact lv_icmp_ne hC.1 hC.2.1 (tok_at hT ht).1 (jmp_ok (tok_at hT ht).2) (fun q => kt q p l e s m args below meth c Z D N A ad0 n0 hC hK hA hX hR ad H locs ls hW hl) (fun q => kf q p l e s m args below meth c Z D N A ad0 n0 hC hK hA hX hR ad H locs ls hW hl)
theorem aw_if_ne {M : MI} {X : EX} {R : Room} {mc ms : Nat} {Q : QT} {kc kn : Nat} {S : List SC} {σ : St} {pc : Nat} {L : LV} {st : List Value} {x : Int32} {off : Int} {tab : List (Nat × TE)} {v : Int32} {v2 : Int64} (hT : tOK M.1.cls M.2.1 tab = true) (ht : tget tab pc = some (.ifCond .ne off, 3, v, v2)) (tgt pc2 : Nat) (hj : jmp pc off = tgt) (hp : pc + 3 = pc2)
    (kt : ¬ x = 0 → AW M X R mc ms Q kc kn S σ tgt L st) (kf : x = 0 → AW M X R mc ms Q kc kn S σ pc2 L st) : AW M X R mc ms Q kc kn S σ pc L (.int x :: st) := by
  subst hj; subst hp
  intro p l e s m args below meth c Z D N A ad0 n0 hC hK hA hX hR ad H locs ls hW hl
  exact lv_if_ne hC.1 hC.2.1 (tok_at hT ht).1 (jmp_ok (tok_at hT ht).2) (fun q => kt q p l e s m args below meth c Z D N A ad0 n0 hC hK hA hX hR ad H locs ls hW hl) (fun q => kf q p l e s m args below meth c Z D N A ad0 n0 hC hK hA hX hR ad H locs ls hW hl)
theorem aw_icmp_lt {M : MI} {X : EX} {R : Room} {mc ms : Nat} {Q : QT} {kc kn : Nat} {S : List SC} {σ : St} {pc : Nat} {L : LV} {st : List Value} {x y : Int32} {off : Int} {tab : List (Nat × TE)} {v : Int32} {v2 : Int64} (hT : tOK M.1.cls M.2.1 tab = true) (ht : tget tab pc = some (.if_icmp .lt off, 3, v, v2)) (tgt pc2 : Nat) (hj : jmp pc off = tgt) (hp : pc + 3 = pc2)
    (kt : x < y → AW M X R mc ms Q kc kn S σ tgt L st) (kf : ¬ x < y → AW M X R mc ms Q kc kn S σ pc2 L st) : AW M X R mc ms Q kc kn S σ pc L (.int y :: .int x :: st) := by
  subst hj; subst hp
  intro p l e s m args below meth c Z D N A ad0 n0 hC hK hA hX hR ad H locs ls hW hl
  exact lv_icmp_lt hC.1 hC.2.1 (tok_at hT ht).1 (jmp_ok (tok_at hT ht).2) (fun q => kt q p l e s m args below meth c Z D N A ad0 n0 hC hK hA hX hR ad H locs ls hW hl) (fun q => kf q p l e s m args below meth c Z D N A ad0 n0 hC hK hA hX hR ad H locs ls hW hl)
theorem aw_if_lt {M : MI} {X : EX} {R : Room} {mc ms : Nat} {Q : QT} {kc kn : Nat} {S : List SC} {σ : St} {pc : Nat} {L : LV} {st : List Value} {x : Int32} {off : Int} {tab : List (Nat × TE)} {v : Int32} {v2 : Int64} (hT : tOK M.1.cls M.2.1 tab = true) (ht : tget tab pc = some (.ifCond .lt off, 3, v, v2)) (tgt pc2 : Nat) (hj : jmp pc off = tgt) (hp : pc + 3 = pc2)
    (kt : x < 0 → AW M X R mc ms Q kc kn S σ tgt L st) (kf : ¬ x < 0 → AW M X R mc ms Q kc kn S σ pc2 L st) : AW M X R mc ms Q kc kn S σ pc L (.int x :: st) := by
  subst hj; subst hp
  intro p l e s m args below meth c Z D N A ad0 n0 hC hK hA hX hR ad H locs ls hW hl
  exact lv_if_lt hC.1 hC.2.1 (tok_at hT ht).1 (jmp_ok (tok_at hT ht).2) (fun q => kt q p l e s m args below meth c Z D N A ad0 n0 hC hK hA hX hR ad H locs ls hW hl) (fun q => kf q p l e s m args below meth c Z D N A ad0 n0 hC hK hA hX hR ad H locs ls hW hl)
theorem aw_icmp_ge {M : MI} {X : EX} {R : Room} {mc ms : Nat} {Q : QT} {kc kn : Nat} {S : List SC} {σ : St} {pc : Nat} {L : LV} {st : List Value} {x y : Int32} {off : Int} {tab : List (Nat × TE)} {v : Int32} {v2 : Int64} (hT : tOK M.1.cls M.2.1 tab = true) (ht : tget tab pc = some (.if_icmp .ge off, 3, v, v2)) (tgt pc2 : Nat) (hj : jmp pc off = tgt) (hp : pc + 3 = pc2)
    (kt : y ≤ x → AW M X R mc ms Q kc kn S σ tgt L st) (kf : ¬ y ≤ x → AW M X R mc ms Q kc kn S σ pc2 L st) : AW M X R mc ms Q kc kn S σ pc L (.int y :: .int x :: st) := by
  subst hj; subst hp
  intro p l e s m args below meth c Z D N A ad0 n0 hC hK hA hX hR ad H locs ls hW hl
  exact lv_icmp_ge hC.1 hC.2.1 (tok_at hT ht).1 (jmp_ok (tok_at hT ht).2) (fun q => kt q p l e s m args below meth c Z D N A ad0 n0 hC hK hA hX hR ad H locs ls hW hl) (fun q => kf q p l e s m args below meth c Z D N A ad0 n0 hC hK hA hX hR ad H locs ls hW hl)
theorem aw_if_ge {M : MI} {X : EX} {R : Room} {mc ms : Nat} {Q : QT} {kc kn : Nat} {S : List SC} {σ : St} {pc : Nat} {L : LV} {st : List Value} {x : Int32} {off : Int} {tab : List (Nat × TE)} {v : Int32} {v2 : Int64} (hT : tOK M.1.cls M.2.1 tab = true) (ht : tget tab pc = some (.ifCond .ge off, 3, v, v2)) (tgt pc2 : Nat) (hj : jmp pc off = tgt) (hp : pc + 3 = pc2)
    (kt : 0 ≤ x → AW M X R mc ms Q kc kn S σ tgt L st) (kf : ¬ 0 ≤ x → AW M X R mc ms Q kc kn S σ pc2 L st) : AW M X R mc ms Q kc kn S σ pc L (.int x :: st) := by
  subst hj; subst hp
  intro p l e s m args below meth c Z D N A ad0 n0 hC hK hA hX hR ad H locs ls hW hl
  exact lv_if_ge hC.1 hC.2.1 (tok_at hT ht).1 (jmp_ok (tok_at hT ht).2) (fun q => kt q p l e s m args below meth c Z D N A ad0 n0 hC hK hA hX hR ad H locs ls hW hl) (fun q => kf q p l e s m args below meth c Z D N A ad0 n0 hC hK hA hX hR ad H locs ls hW hl)
theorem aw_icmp_gt {M : MI} {X : EX} {R : Room} {mc ms : Nat} {Q : QT} {kc kn : Nat} {S : List SC} {σ : St} {pc : Nat} {L : LV} {st : List Value} {x y : Int32} {off : Int} {tab : List (Nat × TE)} {v : Int32} {v2 : Int64} (hT : tOK M.1.cls M.2.1 tab = true) (ht : tget tab pc = some (.if_icmp .gt off, 3, v, v2)) (tgt pc2 : Nat) (hj : jmp pc off = tgt) (hp : pc + 3 = pc2)
    (kt : y < x → AW M X R mc ms Q kc kn S σ tgt L st) (kf : ¬ y < x → AW M X R mc ms Q kc kn S σ pc2 L st) : AW M X R mc ms Q kc kn S σ pc L (.int y :: .int x :: st) := by
  subst hj; subst hp
  intro p l e s m args below meth c Z D N A ad0 n0 hC hK hA hX hR ad H locs ls hW hl
  exact lv_icmp_gt hC.1 hC.2.1 (tok_at hT ht).1 (jmp_ok (tok_at hT ht).2) (fun q => kt q p l e s m args below meth c Z D N A ad0 n0 hC hK hA hX hR ad H locs ls hW hl) (fun q => kf q p l e s m args below meth c Z D N A ad0 n0 hC hK hA hX hR ad H locs ls hW hl)
theorem aw_if_gt {M : MI} {X : EX} {R : Room} {mc ms : Nat} {Q : QT} {kc kn : Nat} {S : List SC} {σ : St} {pc : Nat} {L : LV} {st : List Value} {x : Int32} {off : Int} {tab : List (Nat × TE)} {v : Int32} {v2 : Int64} (hT : tOK M.1.cls M.2.1 tab = true) (ht : tget tab pc = some (.ifCond .gt off, 3, v, v2)) (tgt pc2 : Nat) (hj : jmp pc off = tgt) (hp : pc + 3 = pc2)
    (kt : 0 < x → AW M X R mc ms Q kc kn S σ tgt L st) (kf : ¬ 0 < x → AW M X R mc ms Q kc kn S σ pc2 L st) : AW M X R mc ms Q kc kn S σ pc L (.int x :: st) := by
  subst hj; subst hp
  intro p l e s m args below meth c Z D N A ad0 n0 hC hK hA hX hR ad H locs ls hW hl
  exact lv_if_gt hC.1 hC.2.1 (tok_at hT ht).1 (jmp_ok (tok_at hT ht).2) (fun q => kt q p l e s m args below meth c Z D N A ad0 n0 hC hK hA hX hR ad H locs ls hW hl) (fun q => kf q p l e s m args below meth c Z D N A ad0 n0 hC hK hA hX hR ad H locs ls hW hl)
theorem aw_icmp_le {M : MI} {X : EX} {R : Room} {mc ms : Nat} {Q : QT} {kc kn : Nat} {S : List SC} {σ : St} {pc : Nat} {L : LV} {st : List Value} {x y : Int32} {off : Int} {tab : List (Nat × TE)} {v : Int32} {v2 : Int64} (hT : tOK M.1.cls M.2.1 tab = true) (ht : tget tab pc = some (.if_icmp .le off, 3, v, v2)) (tgt pc2 : Nat) (hj : jmp pc off = tgt) (hp : pc + 3 = pc2)
    (kt : x ≤ y → AW M X R mc ms Q kc kn S σ tgt L st) (kf : ¬ x ≤ y → AW M X R mc ms Q kc kn S σ pc2 L st) : AW M X R mc ms Q kc kn S σ pc L (.int y :: .int x :: st) := by
  subst hj; subst hp
  intro p l e s m args below meth c Z D N A ad0 n0 hC hK hA hX hR ad H locs ls hW hl
  exact lv_icmp_le hC.1 hC.2.1 (tok_at hT ht).1 (jmp_ok (tok_at hT ht).2) (fun q => kt q p l e s m args below meth c Z D N A ad0 n0 hC hK hA hX hR ad H locs ls hW hl) (fun q => kf q p l e s m args below meth c Z D N A ad0 n0 hC hK hA hX hR ad H locs ls hW hl)
theorem aw_if_le {M : MI} {X : EX} {R : Room} {mc ms : Nat} {Q : QT} {kc kn : Nat} {S : List SC} {σ : St} {pc : Nat} {L : LV} {st : List Value} {x : Int32} {off : Int} {tab : List (Nat × TE)} {v : Int32} {v2 : Int64} (hT : tOK M.1.cls M.2.1 tab = true) (ht : tget tab pc = some (.ifCond .le off, 3, v, v2)) (tgt pc2 : Nat) (hj : jmp pc off = tgt) (hp : pc + 3 = pc2)
    (kt : x ≤ 0 → AW M X R mc ms Q kc kn S σ tgt L st) (kf : ¬ x ≤ 0 → AW M X R mc ms Q kc kn S σ pc2 L st) : AW M X R mc ms Q kc kn S σ pc L (.int x :: st) := by
  subst hj; subst hp
  intro p l e s m args below meth c Z D N A ad0 n0 hC hK hA hX hR ad H locs ls hW hl
  exact lv_if_le hC.1 hC.2.1 (tok_at hT ht).1 (jmp_ok (tok_at hT ht).2) (fun q => kt q p l e s m args below meth c Z D N A ad0 n0 hC hK hA hX hR ad H locs ls hW hl) (fun q => kf q p l e s m args below meth c Z D N A ad0 n0 hC hK hA hX hR ad H locs ls hW hl)
theorem aw_idiv {M : MI} {X : EX} {R : Room} {mc ms : Nat} {Q : QT} {kc kn : Nat} {S : List SC} {σ : St} {pc : Nat} {L : LV} {st : List Value} {x y : Int32} {tab : List (Nat × TE)} {v : Int32} {v2 : Int64} (hT : tOK M.1.cls M.2.1 tab = true) (ht : tget tab pc = some (.idiv, 1, v, v2)) (pc2 : Nat) (hp : pc + 1 = pc2) (hne : ¬ y = 0)
    (k : AW M X R mc ms Q kc kn S σ pc2 L (.int (x / y) :: st)) : AW M X R mc ms Q kc kn S σ pc L (.int y :: .int x :: st) := by
  subst hp
  intro p l e s m args below meth c Z D N A ad0 n0 hC hK hA hX hR ad H locs ls hW hl
  exact lv_idiv hC.1 hC.2.1 (tok_at hT ht).1 hne (k p l e s m args below meth c Z D N A ad0 n0 hC hK hA hX hR ad H locs ls hW hl)
theorem aw_irem {M : MI} {X : EX} {R : Room} {mc ms : Nat} {Q : QT} {kc kn : Nat} {S : List SC} {σ : St} {pc : Nat} {L : LV} {st : List Value} {x y : Int32} {tab : List (Nat × TE)} {v : Int32} {v2 : Int64} (hT : tOK M.1.cls M.2.1 tab = true) (ht : tget tab pc = some (.irem, 1, v, v2)) (pc2 : Nat) (hp : pc + 1 = pc2) (hne : ¬ y = 0)
    (k : AW M X R mc ms Q kc kn S σ pc2 L (.int (jrem x y) :: st)) : AW M X R mc ms Q kc kn S σ pc L (.int y :: .int x :: st) := by
  subst hp
  intro p l e s m args below meth c Z D N A ad0 n0 hC hK hA hX hR ad H locs ls hW hl
  exact lv_irem hC.1 hC.2.1 (tok_at hT ht).1 hne (k p l e s m args below meth c Z D N A ad0 n0 hC hK hA hX hR ad H locs ls hW hl)
theorem aw_ldiv {M : MI} {X : EX} {R : Room} {mc ms : Nat} {Q : QT} {kc kn : Nat} {S : List SC} {σ : St} {pc : Nat} {L : LV} {st : List Value} {x y : Int64} {tab : List (Nat × TE)} {v : Int32} {v2 : Int64} (hT : tOK M.1.cls M.2.1 tab = true) (ht : tget tab pc = some (.ldiv, 1, v, v2)) (pc2 : Nat) (hp : pc + 1 = pc2) (hne : ¬ y = 0)
    (k : AW M X R mc ms Q kc kn S σ pc2 L (.long (x / y) :: st)) : AW M X R mc ms Q kc kn S σ pc L (.long y :: .long x :: st) := by
  subst hp
  intro p l e s m args below meth c Z D N A ad0 n0 hC hK hA hX hR ad H locs ls hW hl
  exact lv_ldiv hC.1 hC.2.1 (tok_at hT ht).1 hne (k p l e s m args below meth c Z D N A ad0 n0 hC hK hA hX hR ad H locs ls hW hl)
theorem aw_lrem {M : MI} {X : EX} {R : Room} {mc ms : Nat} {Q : QT} {kc kn : Nat} {S : List SC} {σ : St} {pc : Nat} {L : LV} {st : List Value} {x y : Int64} {tab : List (Nat × TE)} {v : Int32} {v2 : Int64} (hT : tOK M.1.cls M.2.1 tab = true) (ht : tget tab pc = some (.lrem, 1, v, v2)) (pc2 : Nat) (hp : pc + 1 = pc2) (hne : ¬ y = 0)
    (k : AW M X R mc ms Q kc kn S σ pc2 L (.long (jremL x y) :: st)) : AW M X R mc ms Q kc kn S σ pc L (.long y :: .long x :: st) := by
  subst hp
  intro p l e s m args below meth c Z D N A ad0 n0 hC hK hA hX hR ad H locs ls hW hl
  exact lv_lrem hC.1 hC.2.1 (tok_at hT ht).1 hne (k p l e s m args below meth c Z D N A ad0 n0 hC hK hA hX hR ad H locs ls hW hl)
theorem aw_sub {M : MI} {X : EX} {R : Room} {mc ms : Nat} {Q : QT} {kc kn : Nat} {S : List SC} {σ : St} {pc : Nat} {L : LV} {st : List Value} {L2 : LV} (ks : List Nat) (hs : lv_pick L ks = L2) (k : AW M X R mc ms Q kc kn S σ pc L2 st) : AW M X R mc ms Q kc kn S σ pc L st := by
  intro p l e s m args below meth c Z D N A ad0 n0 hC hK hA hX hR ad H locs ls hW hl
  refine k p l e s m args below meth c Z D N A ad0 n0 hC hK hA hX hR ad H locs ls hW (lv_sub hl ks ?_)
  subst hs
  simp [lv_pick, conL, List.map_filterMap]
theorem aw_iret {M : MI} {X : EX} {R : Room} {mc ms : Nat} {Q : QT} {kc kn : Nat} {S : List SC} {σ : St} {pc : Nat} {L : LV} {st : List Value} {x : Int32} {tab : List (Nat × TE)} {v : Int32} {v2 : Int64} (hT : tOK M.1.cls M.2.1 tab = true) (ht : tget tab pc = some (.ireturn, 1, v, v2)) {ty : FieldType} (hr : M.2.2.2 = some ty) (hn : narrow ty (.int x) = .int x) (hc : kc ≤ mc) (hs : kn ≤ ms) (hq : Q (some (.int x)) S σ) : AW M X R mc ms Q kc kn S σ pc L [.int x] := by
  intro p l e s m args below meth c Z D N A ad0 n0 hC hK hA hX hR ad H locs ls hW hl
  exact hR (some (.int x)) S σ ad H locs ls pc kc kn hq hW hc hs ⟨(tok_at hT ht).1, ty, hr, hn⟩
theorem aw_lret {M : MI} {X : EX} {R : Room} {mc ms : Nat} {Q : QT} {kc kn : Nat} {S : List SC} {σ : St} {pc : Nat} {L : LV} {st : List Value} {x : Int64} {tab : List (Nat × TE)} {v : Int32} {v2 : Int64} (hT : tOK M.1.cls M.2.1 tab = true) (ht : tget tab pc = some (.lreturn, 1, v, v2)) (hr : M.2.2.2 = some .long) (hc : kc ≤ mc) (hs : kn ≤ ms) (hq : Q (some (.long x)) S σ) : AW M X R mc ms Q kc kn S σ pc L [.long x] := by
  intro p l e s m args below meth c Z D N A ad0 n0 hC hK hA hX hR ad H locs ls hW hl
  exact hR (some (.long x)) S σ ad H locs ls pc kc kn hq hW hc hs ⟨(tok_at hT ht).1, hr⟩
theorem aw_vret {M : MI} {X : EX} {R : Room} {mc ms : Nat} {Q : QT} {kc kn : Nat} {S : List SC} {σ : St} {pc : Nat} {L : LV} {st : List Value} {tab : List (Nat × TE)} {v : Int32} {v2 : Int64} (hT : tOK M.1.cls M.2.1 tab = true) (ht : tget tab pc = some (.return_, 1, v, v2)) (hr : M.2.2.2 = none) (hc : kc ≤ mc) (hs : kn ≤ ms) (hq : Q none S σ) : AW M X R mc ms Q kc kn S σ pc L [] := by
  intro p l e s m args below meth c Z D N A ad0 n0 hC hK hA hX hR ad H locs ls hW hl
  exact hR none S σ ad H locs ls pc kc kn hq hW hc hs ⟨(tok_at hT ht).1, hr⟩
end
section
/-! ===== fields, arrays ===== -/
theorem ws_P {D : va_G} {w1 w2 : va_W} {H : Heap} (h : w1 = w2) (hP : va_P D vwCl w1 H) : va_P D vwCl w2 H := h ▸ hP
theorem ws_D {A : Nat → Prop} {w1 w2 : va_W} (h : w1 = w2) (hP : va_D A w1) : va_D A w2 := h ▸ hP
def FL (own : String) (idx ci k : Nat) : Prop := ∃ (C : String) (T : u_T) (N : Nat), vwCl[ci]? = some (C, T, N) ∧ k < N ∧ (∀ w ∈ u_ws C T N, w ∈ gtbl) ∧ Cond.fieldLink own idx (T k).1 (T k).2.1 (T k).2.2.1 ∈ gtbl
def FP (own : String) (idx ci k : Nat) (ty : FieldType) (fin : Bool) : Prop := ∃ (C : String) (T : u_T) (N : Nat) (ty0 : Nat → FieldType), vwCl[ci]? = some (C, T, N) ∧ k < N ∧ (∀ w ∈ u_ws C T N, w ∈ gtbl) ∧ Cond.fieldLink own idx (T k).1 (T k).2.1 (T k).2.2.1 ∈ gtbl ∧ (∀ k, k < N → parseFieldDescriptor (T k).2.2.1 = some (ty0 k)) ∧ (∀ a, a < N → ∀ b, b < N → a ≠ b → (T a).2.1 ≠ (T b).2.1) ∧ (T k).2.2.2 = fin ∧ parseFieldDescriptor (T k).2.2.1 = some ty ∧ (fin = true → (T k).1 = own)
theorem aw_getI {M : MI} {X : EX} {R : Room} {mc ms : Nat} {Q : QT} {kc kn : Nat} {S : List SC} {σ : St} {pc : Nat} {L : LV} {st : List Value} {idx a ci k : Nat} {fr : List (Option (Option Nat))} {tab : List (Nat × TE)} {v0 : Int32} {v2 : Int64} (hT : tOK M.1.cls M.2.1 tab = true) (ht : tget tab pc = some (.getfield idx, 3, v0, v2)) (pc2 : Nat) (hp : pc + 3 = pc2) (hS : S[a]? = some (.inl (ci, fr))) (hk : fr[k]? = some none) (hF : FL M.1.cls idx ci k)
    (kk : AW M X R mc ms Q kc kn S σ pc2 L (.int (σ a k) :: st)) : AW M X R mc ms Q kc kn S σ pc L (.ref a :: st) := by
  subst hp
  intro p l e s m args below meth c Z D N A ad0 n0 hC hK hA hX hR ad H locs ls hW hl
  obtain ⟨C, T, n, f1, f2, f3, f4⟩ := hF
  exact va_get (v := .int (σ a k)) hC.1 hC.2.1 hC.2.2.2.2.1 f3 hC.2.2.2.1 hK hW.2.2.1 a (cw_at hS) f1 k f2 (hC.2.2.2.2.1 _ f4) (fun _ h => h) (by simp [List.getElem?_mapIdx, hk, fv]) (tok_at hT ht).1 (kk p l e s m args below meth c Z D N A ad0 n0 hC hK hA hX hR ad H locs ls hW hl)
theorem aw_getR {M : MI} {X : EX} {R : Room} {mc ms : Nat} {Q : QT} {kc kn : Nat} {S : List SC} {σ : St} {pc : Nat} {L : LV} {st : List Value} {idx a ci k b : Nat} {fr : List (Option (Option Nat))} {tab : List (Nat × TE)} {v0 : Int32} {v2 : Int64} (hT : tOK M.1.cls M.2.1 tab = true) (ht : tget tab pc = some (.getfield idx, 3, v0, v2)) (pc2 : Nat) (hp : pc + 3 = pc2) (hS : S[a]? = some (.inl (ci, fr))) (hk : fr[k]? = some (some (some b))) (hF : FL M.1.cls idx ci k)
    (kk : AW M X R mc ms Q kc kn S σ pc2 L (.ref b :: st)) : AW M X R mc ms Q kc kn S σ pc L (.ref a :: st) := by
  subst hp
  intro p l e s m args below meth c Z D N A ad0 n0 hC hK hA hX hR ad H locs ls hW hl
  obtain ⟨C, T, n, f1, f2, f3, f4⟩ := hF
  exact va_get (v := .ref (ad b)) hC.1 hC.2.1 hC.2.2.2.2.1 f3 hC.2.2.2.1 hK hW.2.2.1 a (cw_at hS) f1 k f2 (hC.2.2.2.2.1 _ f4) (fun _ h => h) (by simp [List.getElem?_mapIdx, hk, fv, va_rf]) (tok_at hT ht).1 (kk p l e s m args below meth c Z D N A ad0 n0 hC hK hA hX hR ad H locs ls hW hl)
theorem aw_putI {M : MI} {X : EX} {R : Room} {mc ms : Nat} {Q : QT} {kc kn : Nat} {S : List SC} {σ : St} {pc : Nat} {L : LV} {st : List Value} {idx a ci k : Nat} {x : Int32} {fr : List (Option (Option Nat))} {tab : List (Nat × TE)} {v0 : Int32} {v2 : Int64} (hT : tOK M.1.cls M.2.1 tab = true) (ht : tget tab pc = some (.putfield idx, 3, v0, v2)) (pc2 : Nat) (hp : pc + 3 = pc2) (hS : S[a]? = some (.inl (ci, fr))) (hk : fr[k]? = some none) (hF : FP M.1.cls idx ci k .int false)
    (kk : AW M X R mc ms Q kc kn S (up2 σ a k x) pc2 L st) : AW M X R mc ms Q kc kn S σ pc L (.int x :: .ref a :: st) := by
  subst hp
  intro p l e s m args below meth c Z D N A ad0 n0 hC hK hA hX hR ad H locs ls hW hl
  obtain ⟨C, T, n, ty0, f1, f2, f3, f4, f5, f6, f7, f8, -⟩ := hF
  have hl2 : k < (fr.mapIdx (fv ad (σ a))).length := by simp; exact (List.getElem?_eq_some_iff.mp hk).1
  refine va_put (v := .int x) hC.1 hC.2.1 hC.2.2.2.2.1 f3 ty0 f5 f6 hC.2.2.2.1 hK hW.2.2.1 hW.2.2.2.1 hW.2.2.2.2 a (cw_at hS) f1 k f2 (hC.2.2.2.2.1 _ f4) (fun _ h => h) f7 f8 rfl rfl hl2 (tok_at hT ht).1 (fun H1 locs1 hP hD hSS => ?_)
  have eq9 : (cw N ad S σ).set a (ad a, .inr (ci, (fr.mapIdx (fv ad (σ a))).set k (.int x))) = cw N ad S (up2 σ a k x) := by
    rw [fv_set hk]
    exact cw_set hS rfl
  exact kk p l e s m args below meth c Z D N A ad0 n0 hC hK hA hX hR ad H1 locs1 ls ⟨hW.1, hW.2.1, ws_P eq9 hP, ws_D eq9 hD, hSS⟩ hl
def jz (x : Int32) : Int32 := vp_nar .boolean x
def upC (σ : St) (c : Nat) (f : Nat → Int32) : St := fun c' => if c' = c then f else σ c'
theorem cw_setC {N : N3} {ad : Nat → Nat} {S : List SC} {σ : St} {i : Nat} {f : Nat → Int32} {c : SC} {E : va_E} (h : S[i]? = some c) (hE : ce N ad f c = E) : (cw N ad S σ).set i (ad i, E) = cw N ad S (upC σ i f) := by
  apply List.ext_getElem?
  intro j
  by_cases hj : i = j
  · subst hj
    have hl : i < (cw N ad S σ).length := by simp [cw]; exact (List.getElem?_eq_some_iff.mp h).1
    rw [List.getElem?_set_self hl, cw_at h]
    simp [upC, hE]
  · rw [List.getElem?_set_ne hj]
    have : ¬ j = i := fun q => hj q.symm
    simp [cw, List.getElem?_mapIdx, upC, this]
theorem aw_iald {M : MI} {X : EX} {R : Room} {mc ms : Nat} {Q : QT} {kc kn : Nat} {S : List SC} {σ : St} {pc : Nat} {L : LV} {st : List Value} {a n : Nat} {i : Int32} {tab : List (Nat × TE)} {v0 : Int32} {v2 : Int64} (hT : tOK M.1.cls M.2.1 tab = true) (ht : tget tab pc = some (.iaload, 1, v0, v2)) (pc2 : Nat) (hp : pc + 1 = pc2) (hS : S[a]? = some (.inr (.inl (0, n)))) (hi : vp_in i n)
    (kk : AW M X R mc ms Q kc kn S σ pc2 L (.int (σ a i.toNatClampNeg) :: st)) : AW M X R mc ms Q kc kn S σ pc L (.int i :: .ref a :: st) := by
  subst hp
  intro p l e s m args below meth c Z D N A ad0 n0 hC hK hA hX hR ad H locs ls hW hl
  exact va_iald hC.1 hC.2.1 hK hW.2.2.1 a 0 (cw_at hS) rfl hi (tok_at hT ht).1 (kk p l e s m args below meth c Z D N A ad0 n0 hC hK hA hX hR ad H locs ls hW hl)
theorem aw_zald {M : MI} {X : EX} {R : Room} {mc ms : Nat} {Q : QT} {kc kn : Nat} {S : List SC} {σ : St} {pc : Nat} {L : LV} {st : List Value} {a n : Nat} {i : Int32} {tab : List (Nat × TE)} {v0 : Int32} {v2 : Int64} (hT : tOK M.1.cls M.2.1 tab = true) (ht : tget tab pc = some (.baload, 1, v0, v2)) (pc2 : Nat) (hp : pc + 1 = pc2) (hS : S[a]? = some (.inr (.inl (1, n)))) (hi : vp_in i n)
    (kk : AW M X R mc ms Q kc kn S σ pc2 L (.int (σ a i.toNatClampNeg) :: st)) : AW M X R mc ms Q kc kn S σ pc L (.int i :: .ref a :: st) := by
  subst hp
  intro p l e s m args below meth c Z D N A ad0 n0 hC hK hA hX hR ad H locs ls hW hl
  exact va_zald hC.1 hC.2.1 hK hW.2.2.1 a 1 (cw_at hS) rfl hi (tok_at hT ht).1 (kk p l e s m args below meth c Z D N A ad0 n0 hC hK hA hX hR ad H locs ls hW hl)
theorem aw_iast {M : MI} {X : EX} {R : Room} {mc ms : Nat} {Q : QT} {kc kn : Nat} {S : List SC} {σ : St} {pc : Nat} {L : LV} {st : List Value} {a n : Nat} {i x : Int32} {tab : List (Nat × TE)} {v0 : Int32} {v2 : Int64} (hT : tOK M.1.cls M.2.1 tab = true) (ht : tget tab pc = some (.iastore, 1, v0, v2)) (pc2 : Nat) (hp : pc + 1 = pc2) (hS : S[a]? = some (.inr (.inl (0, n)))) (hi : vp_in i n)
    (kk : AW M X R mc ms Q kc kn S (up2 σ a i.toNatClampNeg x) pc2 L st) : AW M X R mc ms Q kc kn S σ pc L (.int x :: .int i :: .ref a :: st) := by
  subst hp
  intro p l e s m args below meth c Z D N A ad0 n0 hC hK hA hX hR ad H locs ls hW hl
  refine va_iast hC.1 hC.2.1 hK hW.2.2.1 hW.2.2.2.1 hW.2.2.2.2 a 0 (cw_at hS) rfl hi (tok_at hT ht).1 (fun H1 locs1 hP hD hSS => ?_)
  have eq9 := cw_set (N := N) (ad := ad) (σ := σ) (k := i.toNatClampNeg) (v := x) hS rfl
  exact kk p l e s m args below meth c Z D N A ad0 n0 hC hK hA hX hR ad H1 locs1 ls ⟨hW.1, hW.2.1, ws_P eq9 hP, ws_D eq9 hD, hSS⟩ hl
theorem aw_zast {M : MI} {X : EX} {R : Room} {mc ms : Nat} {Q : QT} {kc kn : Nat} {S : List SC} {σ : St} {pc : Nat} {L : LV} {st : List Value} {a n : Nat} {i x : Int32} {tab : List (Nat × TE)} {v0 : Int32} {v2 : Int64} (hT : tOK M.1.cls M.2.1 tab = true) (ht : tget tab pc = some (.bastore, 1, v0, v2)) (pc2 : Nat) (hp : pc + 1 = pc2) (hS : S[a]? = some (.inr (.inl (1, n)))) (hi : vp_in i n)
    (kk : AW M X R mc ms Q kc kn S (up2 σ a i.toNatClampNeg (jz x)) pc2 L st) : AW M X R mc ms Q kc kn S σ pc L (.int x :: .int i :: .ref a :: st) := by
  subst hp
  intro p l e s m args below meth c Z D N A ad0 n0 hC hK hA hX hR ad H locs ls hW hl
  refine va_zast hC.1 hC.2.1 hK hW.2.2.1 hW.2.2.2.1 hW.2.2.2.2 a 1 (cw_at hS) rfl hi (tok_at hT ht).1 (fun H1 locs1 hP hD hSS => ?_)
  have eq9 := cw_set (N := N) (ad := ad) (σ := σ) (k := i.toNatClampNeg) (v := (jz x)) hS rfl
  exact kk p l e s m args below meth c Z D N A ad0 n0 hC hK hA hX hR ad H1 locs1 ls ⟨hW.1, hW.2.1, ws_P eq9 hP, ws_D eq9 hD, hSS⟩ hl
theorem aw_alen {M : MI} {X : EX} {R : Room} {mc ms : Nat} {Q : QT} {kc kn : Nat} {S : List SC} {σ : St} {pc : Nat} {L : LV} {st : List Value} {a n t : Nat} {tab : List (Nat × TE)} {v0 : Int32} {v2 : Int64} (hT : tOK M.1.cls M.2.1 tab = true) (ht : tget tab pc = some (.arraylength, 1, v0, v2)) (pc2 : Nat) (hp : pc + 1 = pc2) (hS : S[a]? = some (.inr (.inl (0, n)))) {x : Int32} (hx : Int32.ofNat n = x)
    (kk : AW M X R mc ms Q kc kn S σ pc2 L (.int x :: st)) : AW M X R mc ms Q kc kn S σ pc L (.ref a :: st) := by
  subst hp
  intro p l e s m args below meth c Z D N A ad0 n0 hC hK hA hX hR ad H locs ls hW hl
  exact va_alen hC.1 hC.2.1 hK hW.2.2.1 a 0 (cw_at hS) rfl hx (tok_at hT ht).1 (kk p l e s m args below meth c Z D N A ad0 n0 hC hK hA hX hR ad H locs ls hW hl)
def rfv (r : Option Nat) : Value := match r with
  | none => .null
  | some b => .ref b
theorem aw_aald {M : MI} {X : EX} {R : Room} {mc ms : Nat} {Q : QT} {kc kn : Nat} {S : List SC} {σ : St} {pc : Nat} {L : LV} {st : List Value} {a n : Nat} {g : Nat → Option Nat} {i : Int32} {tab : List (Nat × TE)} {v0 : Int32} {v2 : Int64} (hT : tOK M.1.cls M.2.1 tab = true) (ht : tget tab pc = some (.aaload, 1, v0, v2)) (pc2 : Nat) (hp : pc + 1 = pc2) (hS : S[a]? = some (.inr (.inr (n, g)))) (hi : vp_in i n) {u : Value} (hu : rfv (g i.toNatClampNeg) = u)
    (kk : AW M X R mc ms Q kc kn S σ pc2 L (u :: st)) : AW M X R mc ms Q kc kn S σ pc L (.int i :: .ref a :: st) := by
  subst hp; subst hu
  intro p l e s m args below meth c Z D N A ad0 n0 hC hK hA hX hR ad H locs ls hW hl
  refine va_aldq hC.1 hC.2.1 hK hW.2.2.1 a 2 (cw_at hS) rfl hi (tok_at hT ht).1 ?_
  have h := kk p l e s m args below meth c Z D N A ad0 n0 hC hK hA hX hR ad H locs ls hW hl
  have e : vc ad (rfv (g i.toNatClampNeg)) = va_rf ((g i.toNatClampNeg).map ad) := by cases g i.toNatClampNeg <;> rfl
  rw [List.map_cons, e] at h
  exact h
theorem cw_setG {N : N3} {ad : Nat → Nat} {S : List SC} {σ : St} {i : Nat} {c : SC} {E : va_E} (hi : i < S.length) (hE : ce N ad (σ i) c = E) : (cw N ad S σ).set i (ad i, E) = cw N ad (S.set i c) σ := by
  apply List.ext_getElem?
  intro j
  by_cases hj : i = j
  · subst hj
    have hl : i < (cw N ad S σ).length := by simp [cw]; exact hi
    rw [List.getElem?_set_self hl]
    have h2 : (S.set i c)[i]? = some c := List.getElem?_set_self hi
    rw [cw_at h2, hE]
  · rw [List.getElem?_set_ne hj]
    simp [cw, List.getElem?_mapIdx, List.getElem?_set_ne hj]
theorem aw_aast {M : MI} {X : EX} {R : Room} {mc ms : Nat} {Q : QT} {kc kn : Nat} {S : List SC} {σ : St} {pc : Nat} {L : LV} {st : List Value} {a n b : Nat} {g : Nat → Option Nat} {fr : List (Option (Option Nat))} {i : Int32} {tab : List (Nat × TE)} {v0 : Int32} {v2 : Int64} (hT : tOK M.1.cls M.2.1 tab = true) (ht : tget tab pc = some (.aastore, 1, v0, v2)) (pc2 : Nat) (hp : pc + 1 = pc2) (hS : S[a]? = some (.inr (.inr (n, g)))) (hb : S[b]? = some (.inl (0, fr))) (hi : vp_in i n)
    (kk : AW M X R mc ms Q kc kn (S.set a (.inr (.inr (n, va_up g i.toNatClampNeg (some b))))) σ pc2 L st) : AW M X R mc ms Q kc kn S σ pc L (.ref b :: .int i :: .ref a :: st) := by
  subst hp
  intro p l e s m args below meth c Z D N A ad0 n0 hC hK hA hX hR ad H locs ls hW hl
  refine va_astq (r := (RX0, TX0, 13)) hC.1 hC.2.1 hK hW.2.2.1 hW.2.2.2.1 hW.2.2.2.2 a 2 b 0 (cw_at hS) rfl (cw_at hb) rfl hi (tok_at hT ht).1 (fun H1 locs1 hP hD hSS => ?_)
  have eq9 := cw_setG (N := N) (ad := ad) (σ := σ) (i := a) (c := .inr (.inr (n, va_up g i.toNatClampNeg (some b)))) (E := .inl (N.2.2, n, .inr (.inr (.inr (.inr (va_up (fun k => (g k).map ad) i.toNatClampNeg (some (ad b)))))))) (List.getElem?_eq_some_iff.mp hS).1 (by
    have hf : (fun k => (va_up g i.toNatClampNeg (some b) k).map ad) = va_up (fun k => (g k).map ad) i.toNatClampNeg (some (ad b)) := by
      funext k
      by_cases hk : k = i.toNatClampNeg <;> simp [va_up, hk]
    simp only [ce, hf])
  exact kk p l e s m args below meth c Z D N A ad0 n0 hC hK hA hX hR ad H1 locs1 ls ⟨by rw [List.length_set]; exact hW.1, hW.2.1, ws_P eq9 hP, ws_D eq9 hD, hSS⟩ hl
theorem aw_putF {M : MI} {X : EX} {R : Room} {mc ms : Nat} {Q : QT} {kc kn : Nat} {S : List SC} {σ : St} {pc : Nat} {L : LV} {st : List Value} {idx a ci k b : Nat} {ty : FieldType} {fr : List (Option (Option Nat))} {f0 : Option (Option Nat)} {tab : List (Nat × TE)} {v0 : Int32} {v2 : Int64} (hT : tOK M.1.cls M.2.1 tab = true) (ht : tget tab pc = some (.putfield idx, 3, v0, v2)) (pc2 : Nat) (hp : pc + 3 = pc2) (hS : S[a]? = some (.inl (ci, fr))) (hk : fr[k]? = some f0) (hF : FP M.1.cls idx ci k ty true) (hi : M.1.name = "<init>") (hn : ∀ z, narrow ty (.ref z) = .ref z ∧ fits ty (.ref z) = true)
    (kk : AW M X R mc ms Q kc kn (S.set a (.inl (ci, fr.set k (some (some b))))) σ pc2 L st) : AW M X R mc ms Q kc kn S σ pc L (.ref b :: .ref a :: st) := by
  subst hp
  intro p l e s m args below meth c Z D N A ad0 n0 hC hK hA hX hR ad H locs ls hW hl
  obtain ⟨C, T, n, ty0, f1, f2, f3, f4, f5, f6, f7, f8, f9⟩ := hF
  have hl2 : k < (fr.mapIdx (fv ad (σ a))).length := by simp; exact (List.getElem?_eq_some_iff.mp hk).1
  refine va_putF (v := .ref (ad b)) hC.1 hC.2.1 hC.2.2.2.2.1 f3 ty0 f5 f6 hC.2.2.2.1 hK hW.2.2.1 hW.2.2.2.1 hW.2.2.2.2 a (cw_at hS) f1 k f2 (hC.2.2.2.2.1 _ f4) (fun _ h => h) f7 (hC.2.2.2.2.2.1.trans hi) (f9 rfl) f8 (hn _).1 (hn _).2 hl2 (tok_at hT ht).1 (fun H1 locs1 hP hD hSS => ?_)
  have eq9 := cw_setG (N := N) (ad := ad) (σ := σ) (i := a) (c := .inl (ci, fr.set k (some (some b)))) (E := .inr (ci, (fr.mapIdx (fv ad (σ a))).set k (.ref (ad b)))) (List.getElem?_eq_some_iff.mp hS).1 (by
    simp only [ce]
    congr 2
    apply List.ext_getElem?
    intro j
    by_cases hj : k = j
    · subst hj
      rw [List.getElem?_set_self hl2, List.getElem?_mapIdx, List.getElem?_set_self (List.getElem?_eq_some_iff.mp hk).1]
      rfl
    · rw [List.getElem?_set_ne hj]
      simp [List.getElem?_mapIdx, List.getElem?_set_ne hj])
  exact kk p l e s m args below meth c Z D N A ad0 n0 hC hK hA hX hR ad H1 locs1 ls ⟨by rw [List.length_set]; exact hW.1, hW.2.1, ws_P eq9 hP, ws_D eq9 hD, hSS⟩ hl
theorem aw_copy {M : MI} {X : EX} {R : Room} {mc ms : Nat} {Q : QT} {kc kn : Nat} {S : List SC} {σ : St} {pc : Nat} {L : LV} {st : List Value} {idx a b na nb : Nat} {sp dp n : Int32} {tab : List (Nat × TE)} {v0 : Int32} {v2 : Int64} (hT : tOK M.1.cls M.2.1 tab = true) (ht : tget tab pc = some (.invokestatic idx, 3, v0, v2)) (pc2 : Nat) (hp : pc + 3 = pc2) (hlk : Cond.methodLink M.1.cls idx arraycopyName ∈ tables_1) (ha : S[a]? = some (.inr (.inl (0, na)))) (hb : S[b]? = some (.inr (.inl (0, nb)))) (h1 : ¬ sp < 0) (h2 : ¬ dp < 0) (h3 : ¬ n < 0) (h4 : sp.toNatClampNeg + n.toNatClampNeg ≤ na) (h5 : dp.toNatClampNeg + n.toNatClampNeg ≤ nb) (hfr : 1 ≤ R.frames) (hlo : (st.map fun v => v.category).sum + (nativeFrameWords "java/lang/System" "arraycopy" 5 + 11) ≤ R.locals)
    (kk : AW M X R mc ms Q kc kn S (upC σ b (va_cpy (σ a) (σ b) sp.toNatClampNeg dp.toNatClampNeg n.toNatClampNeg)) pc2 L st) : AW M X R mc ms Q kc kn S σ pc L (.int n :: .int dp :: .ref b :: .int sp :: .ref a :: st) := by
  subst hp
  intro p l e s m args below meth c Z D N A ad0 n0 hC hK hA hX hR ad H locs ls hW hl
  have hlo2 : ((st.map (vc ad)).map fun v => v.category).sum + (nativeFrameWords "java/lang/System" "arraycopy" 5 + 11) ≤ R.locals := by
    rw [List.map_map, show ((fun v : Value => v.category) ∘ vc ad) = (fun v => v.category) from funext (vc_cat ad)]
    exact hlo
  refine va_copyi (ty := .int) hC.1 hC.2.1 (hC.2.2.1.trans hl.1.symm) hC.2.2.2.1 (hC.2.2.2.2.1 _ (gt_mem hlk rfl)) (hC.2.2.2.2.1 _ (gt_mem (List.mem_of_getElem? (i := 250) (by decide +kernel)) rfl)) (hC.2.2.2.2.1 (.static arraycopyName) (by decide +kernel)) (hC.2.2.2.2.1 (.initialized "java/lang/System") (by decide +kernel)) hK hW.2.2.1 hW.2.2.2.1 hW.2.2.2.2 a b 0 0 (cw_at ha) (cw_at hb) rfl rfl rfl h1 h2 h3 h4 h5 (fun _ _ => rfl) hfr hlo2 (tok_at hT ht).1 (fun H1 locs1 hP hD hSS => ?_)
  have eq9 := cw_setC (N := N) (ad := ad) (σ := σ) (f := va_cpy (σ a) (σ b) sp.toNatClampNeg dp.toNatClampNeg n.toNatClampNeg) hb rfl
  exact kk p l e s m args below meth c Z D N A ad0 n0 hC hK hA hX hR ad H1 locs1 ls ⟨hW.1, hW.2.1, ws_P eq9 hP, ws_D eq9 hD, hSS⟩ hl
end
section
/-! ===== calls: a method's contract over the whole world ===== -/
def QC (D : va_G) (N : N3) (ad0 : Nat → Nat) (n0 : Nat) (A : Nat → Prop) (Q : QT) : Array Value → State → Outcome → State → Prop := fun _ st oc t =>
  (∃ (v : Option Value) (S : List SC) (σ : St) (ad : Nat → Nat), oc = .returned (v.map (vc ad)) ∧ Q v S σ ∧ n0 ≤ S.length ∧ (∀ k, k < n0 ∨ 777 ≤ k → ad k = ad0 k) ∧ va_P D vwCl (cw N ad S σ) t.heap ∧ va_D A (cw N ad S σ)) ∧ va_F A st t
def Pr (D : va_G) (N : N3) (ad : Nat → Nat) (S : List SC) (σ : St) (sz : Nat) (av : List Value) : Array Value → State → Prop := va_Pc (av.map (vc ad)) (fun U => U.heap.size = sz ∧ va_P D vwCl (cw N ad S σ) U.heap ∧ va_K D vwCl (tys3 N) U ∧ va_D (fun _ => True) (cw N ad S σ) ∧ NW U)
def Sp (M : MI) (rm : Room) (mc ms : Nat) (av : List Value) (S : List SC) (σ : St) (Q : QT) : Prop :=
  ∀ (l : Launch) (D : va_G) (N : N3) (ad : Nat → Nat) (sz : Nat), Met l M.1 (mwords M) rm (Pr D N ad S σ sz av) (QC D N ad S.length (va_A (cw N ad S σ) sz) Q) mc ms (va_A (cw N ad S σ) sz)
theorem lv_args_con (ad : Nat → Nat) (av : List Value) : ∀ i, lv_args i (av.map (vc ad)) = conL ad (lv_args i av) := by
  induction av with
  | nil => intro i; rfl
  | cons v vs ih =>
    intro i
    show (i, vc ad v) :: lv_args (if (vc ad v).category = 2 then i + 2 else i + 1) (vs.map (vc ad)) = (i, vc ad v) :: conL ad (lv_args (if v.category = 2 then i + 2 else i + 1) vs)
    rw [vc_cat, ih]
theorem lg_sl_con (ad : Nat → Nat) (av : List Value) : (lg_sl (av.map (vc ad))).length = (lg_sl av).length := by
  induction av with
  | nil => rfl
  | cons v vs ih =>
    simp only [lg_sl, List.map_cons, List.flatMap_cons, List.length_append] at ih ⊢
    rw [ih, vc_cat]
    by_cases h : v.category = 2 <;> simp [h]
theorem NW.warm {s U : State} (hW : s.WarmedH U.vm) (h : NW s) : NW U := ⟨fun q hq => va_Nw.warmM hW (h.1 q hq), va_AO.moved hW.alike h.2⟩
theorem Sp.of {M : MI} {rm : Room} {mc ms : Nat} {av : List Value} {S : List SC} {σ : St} {Q : QT} (hy : plainName M.1.cls = true) (hlen : (lg_sl av).length ≤ M.2.2.1) (h : AW M (fun _ _ _ => True) rm mc ms Q 0 0 S σ 0 (lv_args 0 av) []) : Sp M rm mc ms av S σ Q := by
  intro l D N ad sz
  refine Met.ofW (cc := M.2.1) (maxL := M.2.2.1) (ret := M.2.2.2) hy rfl ?_
  intro p e s m args below meth c s₁ B hml hv
  obtain ⟨rfl, hsz, hP, hK, hD0, hN⟩ := hv
  subst hsz
  have hts := atoms_spec (ws := mwords M) B.pre
  have hl := lv_entry (av.map (vc ad)) (n := M.2.2.1) (by rw [lg_sl_con]; exact hlen)
  rw [lg_entry_eq]
  rw [lv_args_con] at hl
  refine h p l e s m _ below meth c _ D N (va_A (cw N ad S σ) s.heap.size) ad S.length ⟨B.exec, B.bytes, hml, findClass_of_methodNamed B.named, fun w hw => hts w (List.mem_cons_of_mem _ hw), (name_of_methodNamed B.named B.method).1, hN⟩ hK (fun q h => Or.inr h) trivial ?_ ad s.heap [] _ ⟨Nat.le_refl _, fun _ _ => rfl, hP, hD0.self, va_S.rf⟩ hl
  intro v S' σ' ad' H locs ls pc kc kn hq hW hc hs hr
  have hlocks := B.notSynchronized
  refine W.widen hc hs ?_
  match v, hr, hq with
  | none, hr, hq =>
    refine W.vret B.exec B.bytes (B.returns.trans hr.2) (fun t ht hWt => ⟨⟨none, S', σ', ad', rfl, hq, hW.1, hW.2.1, by rw [ht]; exact hW.2.2.1, hW.2.2.2.1⟩, hW.2.2.2.2.F ht⟩) hW.2.2.2.2.2.2 hr.1
  | some (.int x), hr, hq =>
    obtain ⟨h1, ty, h2, h3⟩ := hr
    refine W.zret B.exec B.bytes (B.returns.trans h2) h3 (fun t ht hWt => ⟨⟨some (.int x), S', σ', ad', rfl, hq, hW.1, hW.2.1, by rw [ht]; exact hW.2.2.1, hW.2.2.2.1⟩, hW.2.2.2.2.F ht⟩) hW.2.2.2.2.2.2 h1
  | some (.long x), hr, hq =>
    refine W.lret B.exec B.bytes (B.returns.trans hr.2) (fun t ht hWt => ⟨⟨some (.long x), S', σ', ad', rfl, hq, hW.1, hW.2.1, by rw [ht]; exact hW.2.2.1, hW.2.2.2.1⟩, hW.2.2.2.2.F ht⟩) hW.2.2.2.2.2.2 hr.1
  | some (.float _), hr, _ => exact hr.elim
  | some (.double _), hr, _ => exact hr.elim
  | some .null, hr, _ => exact hr.elim
  | some (.ref _), hr, _ => exact hr.elim
  | some (.retAddr _), hr, _ => exact hr.elim
theorem after {p : Program} {l : Launch} {e : Env} {R : Room} {s : State} {m : MethodId} {args : Array Value} {below : List Frame} {meth : Method} {c : Code} {H : Heap} {locs : List Loc} {kc kn mc' ms' : Nat} {Z : State → Prop} {pc : Nat} {ls : Array Slot} {D : va_G} {N : N3} {A : Nat → Prop} {ad0 ad : Nat → Nat} {n0 : Nat} {S : List SC} {σ : St} {st0 rest : List Value} {Q' : QT} {a' : Array Value}
    (hr : va_Run p l e R s m args below meth c H locs kc kn mc' ms' (F0 m pc ls st0) (rest.map (vc ad)) (QC D N ad S.length (va_A (cw N ad S σ) H.size) Q' a') (va_A (cw N ad S σ) H.size))
    (hA : ∀ q, s.heap.size ≤ q → A q) (hW : WS D N A s ad0 n0 ad S σ H locs)
    (kk : ∀ (v : Option Value) (S' : List SC) (σ' : St) (ad' : Nat → Nat) (H1 : Heap) (locs1 : List Loc), Q' v S' σ' → S.length ≤ S'.length → (∀ k, k < S.length ∨ 777 ≤ k → ad' k = ad k) → WS D N A s ad0 n0 ad' S' σ' H1 locs1 → W p l e R s m args below meth c H1 locs1 (kc + mc') (kn + ms') Z (F0 m (pc + 3) ls ((v.map (vc ad')).toList ++ rest.map (vc ad)))) :
    W p l e R s m args below meth c H locs kc kn Z (F0 m pc ls st0) := by
  intro T hT X
  obtain ⟨v1, st₀, t, T', L, h0, X', hL, e1, e2, ⟨⟨v, S', σ', ad', hv, hq, hn, had, hP, hD⟩, hz, hk⟩, stp⟩ := hr T hT X
  cases hv
  rw [h0] at hz hk
  have hF : ∀ q, va_A (cw N ad S σ) H.size q → A q := by
    rintro q (⟨k, ee, h⟩ | h)
    · exact hW.2.2.2.1.2 k (q, ee) h
    · exact hA q (Nat.le_trans hW.2.2.2.2.1 h)
  have hS := hW.2.2.2.2
  obtain ⟨t2, a1, b1⟩ := kk v S' σ' ad' T'.heap (locs ++ L) hq hn had
    ⟨Nat.le_trans hW.1 hn, fun k h => (had k (h.imp_left (fun h => Nat.lt_of_lt_of_le h hW.1))).trans (hW.2.1 k h), by rw [e1]; exact hP, hD.weaken (fun _ q _ h => hF q.1 h),
      Nat.le_trans hS.1 (by rw [e1]; exact hz), fun q h1 h2 => by rw [e1, hk q (Nat.lt_of_lt_of_le h1 hS.1) (fun z => h2 (hF q z))]; exact hS.2.1 q h1 h2, fun q hq => by
        rcases List.mem_append.mp hq with h | h
        · exact hS.2.2 q h
        · exact hF _ (hL q h)⟩ T' rfl X'
  exact ⟨t2, stp t2 a1, b1⟩
def vok (n : Nat) (v : Value) : Bool := match v with
  | .ref k => Nat.blt k n || Nat.ble 777 k
  | _ => true
theorem vok_eq {n : Nat} {v : Value} {ad ad' : Nat → Nat} (h : vok n v = true) (ha : ∀ k, k < n ∨ 777 ≤ k → ad' k = ad k) : vc ad' v = vc ad v := by
  cases v with
  | ref k =>
    show Value.ref (ad' k) = Value.ref (ad k)
    simp only [vok, Bool.or_eq_true] at h
    rw [ha k (h.imp Nat.le_of_ble_eq_true Nat.le_of_ble_eq_true)]
  | _ => rfl
theorem vokL_eq {n : Nat} {L : LV} {ad ad' : Nat → Nat} (h : L.all (fun q => vok n q.2) = true) (ha : ∀ k, k < n ∨ 777 ≤ k → ad' k = ad k) : conL ad' L = conL ad L := by
  apply List.map_congr_left
  intro q hq
  rw [vok_eq (List.all_eq_true.mp h q hq) ha]
theorem vokS_eq {n : Nat} {st : List Value} {ad ad' : Nat → Nat} (h : st.all (vok n) = true) (ha : ∀ k, k < n ∨ 777 ≤ k → ad' k = ad k) : st.map (vc ad') = st.map (vc ad) := by
  apply List.map_congr_left
  intro q hq
  exact vok_eq (List.all_eq_true.mp h q hq) ha
theorem mw_good {M : MI} (hc : Cond.code M.1 M.2.1 M.2.2.1 M.2.2.2 ∈ gtbl) : GoodIn gtbl (mwords M) := by
  intro w hw
  rcases List.mem_cons.mp hw with rfl | hw
  · exact ⟨hc, good_of_word (gt_good _ hc)⟩
  · exact ⟨hw, good_of_word (gt_good _ hw)⟩
theorem Pr.blind {D : va_G} {N : N3} {ad : Nat → Nat} {S : List SC} {σ : St} {sz : Nat} {av : List Value} : FrameBlind (Pr D N ad S σ sz av) := by
  intro a U g mk q
  obtain ⟨q0, q1, qP, qK, qD, qN⟩ := q
  exact ⟨q0, q1, qP, va_K.moved (u := U) (U := U.calling g mk a) (Vm.Alike.refl U.vm) qK, qD, ⟨fun w hw => va_Nw.same rfl (u := U) (U := U.calling g mk a) rfl (qN.1 w hw), va_AO.moved (u := U) (U := U.calling g mk a) (Vm.Alike.refl U.vm) qN.2⟩⟩
/-- a method's own words -/
def MV (M : MI) (n : Nat) : Prop := Cond.instanceMethod M.1 ∈ gtbl ∧ Cond.selects M.1.cls M.1 M.1 ∈ gtbl ∧ Cond.initialized M.1.cls ∈ gtbl ∧ Cond.code M.1 M.2.1 M.2.2.1 M.2.2.2 ∈ gtbl ∧ M.1.cls ≠ "java/lang/invoke/MethodHandle" ∧ M.1.cls ≠ "java/lang/invoke/VarHandle" ∧ (parseMethodDescriptor M.1.desc).map (fun d => d.parameters.length) = some n
def MSt (M : MI) (n : Nat) : Prop := Cond.static M.1 ∈ gtbl ∧ Cond.initialized M.1.cls ∈ gtbl ∧ Cond.code M.1 M.2.1 M.2.2.1 M.2.2.2 ∈ gtbl ∧ M.1.cls ≠ "java/lang/invoke/MethodHandle" ∧ M.1.cls ≠ "java/lang/invoke/VarHandle" ∧ (parseMethodDescriptor M.1.desc).map (fun d => d.parameters.length) = some n
def MIn (M : MI) (n : Nat) : Prop := Cond.instanceMethod M.1 ∈ gtbl ∧ Cond.initialized M.1.cls ∈ gtbl ∧ Cond.code M.1 M.2.1 M.2.2.1 M.2.2.2 ∈ gtbl ∧ M.1.name = "<init>" ∧ M.2.2.2 = none ∧ M.1.cls ≠ "java/lang/invoke/MethodHandle" ∧ M.1.cls ≠ "java/lang/invoke/VarHandle" ∧ (parseMethodDescriptor M.1.desc).map (fun d => d.parameters.length) = some n
def LK (own : String) (idx : Nat) (y : MethodName) : Prop := Cond.methodLink own idx y ∈ gtbl
def rmOK (rm R : Room) (M : MI) (mc ms kc kn : Nat) : Prop := rm.cells = mc ∧ rm.slots = ms ∧ (rm.frames + 1 ≤ R.frames ∧ 8 + (M.2.2.1 + 11) + rm.locals ≤ R.locals) ∧ (kc + mc ≤ R.cells ∧ kn + ms ≤ R.slots)
theorem stk_eq (ad : Nat → Nat) (av rest : List Value) : (av.reverse ++ rest).map (vc ad) = (av.map (vc ad)).reverse ++ rest.map (vc ad) := by simp
theorem cat_eq (ad : Nat → Nat) (rest : List Value) : ((rest.map (vc ad)).map fun v => v.category).sum = (rest.map fun v => v.category).sum := by
  rw [List.map_map, show ((fun v : Value => v.category) ∘ vc ad) = (fun v => v.category) from funext (vc_cat ad)]
theorem aw_callV {M : MI} {X : EX} {R : Room} {mc ms : Nat} {Q : QT} {kc kn : Nat} {S : List SC} {σ : St} {pc : Nat} {L : LV} {st : List Value} {idx n mc' ms' : Nat} {M' : MI} {rm : Room} {av rest : List Value} {Q' : QT} {tab : List (Nat × TE)} {v0 : Int32} {v2 : Int64} (hT : tOK M.1.cls M.2.1 tab = true) (ht : tget tab pc = some (.invokevirtual idx, 3, v0, v2)) (pc2 : Nat) (hp : pc + 3 = pc2) {a ci : Nat} {fr : List (Option (Option Nat))} (hst : st = av.reverse ++ .ref a :: rest) (hk : LK M.1.cls idx M'.1) (hM : MV M' n) (hn : av.length = n) (hS : S[a]? = some (.inl (ci, fr))) (hcl : ∃ T k, vwCl[ci]? = some (M'.1.cls, T, k)) (hsp : Sp M' rm mc' ms' (.ref a :: av) S σ Q')
    (hrm : rmOK rm R M' mc' ms' kc kn) (hcat : (rest.map fun v => v.category).sum ≤ 8) (nv : Nat) (hnv : nv ≤ S.length) (hv : (L.all (fun q => vok nv q.2) && rest.all (vok nv)) = true)
    (kk : ∀ (v : Option Value) (S' : List SC) (σ' : St), Q' v S' σ' → AW M X R mc ms Q (kc + mc') (kn + ms') S' σ' pc2 L (v.toList ++ rest)) : AW M X R mc ms Q kc kn S σ pc L st := by
  subst hst; subst hp
  simp only [Bool.and_eq_true] at hv
  intro p l e s m args below meth c Z D N A ad0 n0 hC hK hA hX hR ad H locs ls hW hl
  have hPr : ∀ U : State, U.heap = H → s.WarmedH U.vm → Pr D N ad S σ H.size (.ref a :: av) (((.ref a :: av)).map (vc ad)).toArray U := fun U hU hWU => ⟨rfl, by rw [hU], by rw [hU]; exact hW.2.2.1, va_K.moved hWU.alike hK, hW.2.2.2.1.weaken (fun _ _ _ _ => trivial), NW.warm hWU hC.2.2.2.2.2.2⟩
  obtain ⟨m1, m2, m3, m4, m5, m6, m7⟩ := hM
  obtain ⟨T0, k0, hcl⟩ := hcl
  have hG : GoodIn gtbl (wsV M.1.cls idx M'.1.cls M'.1 (mwords M')) := by
    intro w hw
    rcases List.mem_append.mp hw with h | h
    · simp only [List.mem_cons, List.not_mem_nil, or_false] at h
      rcases h with rfl | rfl | rfl | rfl
      · exact ⟨hk, good_of_word (gt_good _ hk)⟩
      · exact ⟨m1, good_of_word (gt_good _ m1)⟩
      · exact ⟨m2, good_of_word (gt_good _ m2)⟩
      · exact ⟨m3, good_of_word (gt_good _ m3)⟩
    · exact mw_good m4 w h
  have hrun := va_runV (p := p) (l := l) (e := e) (below := below) (meth := meth) (locs := locs) (cells := kc) (slots := kn) (g := F0 m pc ls ((av.reverse ++ .ref a :: rest).map (vc ad))) (As := av.map (vc ad)) (rest := rest.map (vc ad)) (b := ad a) (nL := M.2.2.1) (Ts := gtbl) ⟨hC.1, hC.2.1, hC.2.2.1, hC.2.2.2.1, hC.2.2.2.2.1⟩ (hsp l D N ad H.size) (cwV n hC.2.2.2.2.1 hG rfl hrm.1 hrm.2.1 ⟨rfl, m5, m6, m7⟩ hrm.2.2.1) ⟨Pr.blind, va_recv hK hW.2.2.1 hcl (cw_at hS), hPr⟩ rfl (by rw [List.length_map]; exact hn) hl.1 (stk_eq ad av (.ref a :: rest)) (lv_room (by rw [cat_eq]; exact hcat)) (tok_at hT ht).1 hrm.2.2.2
  refine after (ad := ad) (S := S) (σ := σ) (rest := rest) hrun hA hW (fun v S' σ' ad' H1 locs1 hq hn' had hW' => ?_)
  have had' : ∀ k, k < nv ∨ 777 ≤ k → ad' k = ad k := fun k h => had k (h.imp_left (fun h => Nat.lt_of_lt_of_le h hnv))
  have hl' : lv_has ls M.2.2.1 (conL ad' L) := by rw [vokL_eq hv.1 had']; exact hl
  have h := kk v S' σ' hq p l e s m args below meth c Z D N A ad0 n0 hC hK hA hX hR ad' H1 locs1 ls hW' hl'
  have eq9 : (v.toList ++ rest).map (vc ad') = (v.map (vc ad')).toList ++ rest.map (vc ad) := by
    rw [List.map_append, vokS_eq hv.2 had']
    cases v <;> rfl
  rw [eq9] at h
  exact h
theorem aw_callS {M : MI} {X : EX} {R : Room} {mc ms : Nat} {Q : QT} {kc kn : Nat} {S : List SC} {σ : St} {pc : Nat} {L : LV} {st : List Value} {idx n mc' ms' : Nat} {M' : MI} {rm : Room} {av rest : List Value} {Q' : QT} {tab : List (Nat × TE)} {v0 : Int32} {v2 : Int64} (hT : tOK M.1.cls M.2.1 tab = true) (ht : tget tab pc = some (.invokestatic idx, 3, v0, v2)) (pc2 : Nat) (hp : pc + 3 = pc2) (hst : st = av.reverse ++ rest) (hk : LK M.1.cls idx M'.1) (hM : MSt M' n) (hn : av.length = n) (hsp : Sp M' rm mc' ms' av S σ Q')
    (hrm : rmOK rm R M' mc' ms' kc kn) (hcat : (rest.map fun v => v.category).sum ≤ 8) (nv : Nat) (hnv : nv ≤ S.length) (hv : (L.all (fun q => vok nv q.2) && rest.all (vok nv)) = true)
    (kk : ∀ (v : Option Value) (S' : List SC) (σ' : St), Q' v S' σ' → AW M X R mc ms Q (kc + mc') (kn + ms') S' σ' pc2 L (v.toList ++ rest)) : AW M X R mc ms Q kc kn S σ pc L st := by
  subst hst; subst hp
  simp only [Bool.and_eq_true] at hv
  intro p l e s m args below meth c Z D N A ad0 n0 hC hK hA hX hR ad H locs ls hW hl
  have hPr : ∀ U : State, U.heap = H → s.WarmedH U.vm → Pr D N ad S σ H.size av ((av).map (vc ad)).toArray U := fun U hU hWU => ⟨rfl, by rw [hU], by rw [hU]; exact hW.2.2.1, va_K.moved hWU.alike hK, hW.2.2.2.1.weaken (fun _ _ _ _ => trivial), NW.warm hWU hC.2.2.2.2.2.2⟩
  obtain ⟨m1, m3, m4, m5, m6, m7⟩ := hM
  have hG : GoodIn gtbl (va_wsS M.1.cls idx M'.1 (mwords M')) := by
    intro w hw
    rcases List.mem_append.mp hw with h | h
    · simp only [List.mem_cons, List.not_mem_nil, or_false] at h
      rcases h with rfl | rfl | rfl
      · exact ⟨hk, good_of_word (gt_good _ hk)⟩
      · exact ⟨m1, good_of_word (gt_good _ m1)⟩
      · exact ⟨m3, good_of_word (gt_good _ m3)⟩
    · exact mw_good m4 w h
  have hrun := va_runS (p := p) (l := l) (e := e) (below := below) (meth := meth) (locs := locs) (cells := kc) (slots := kn) (g := F0 m pc ls ((av.reverse ++ rest).map (vc ad))) (As := av.map (vc ad)) (rest := rest.map (vc ad)) (nL := M.2.2.1) (Ts := gtbl) ⟨hC.1, hC.2.1, hC.2.2.1, hC.2.2.2.1, hC.2.2.2.2.1⟩ (hsp l D N ad H.size) (va_cwS n hC.2.2.2.2.1 hG rfl hrm.1 hrm.2.1 ⟨m5, m6, m7⟩ hrm.2.2.1) ⟨Pr.blind, hPr⟩ rfl (by rw [List.length_map]; exact hn) hl.1 (stk_eq ad av rest) (lv_room (by rw [cat_eq]; exact hcat)) (tok_at hT ht).1 hrm.2.2.2
  refine after (ad := ad) (S := S) (σ := σ) (rest := rest) hrun hA hW (fun v S' σ' ad' H1 locs1 hq hn' had hW' => ?_)
  have had' : ∀ k, k < nv ∨ 777 ≤ k → ad' k = ad k := fun k h => had k (h.imp_left (fun h => Nat.lt_of_lt_of_le h hnv))
  have hl' : lv_has ls M.2.2.1 (conL ad' L) := by rw [vokL_eq hv.1 had']; exact hl
  have h := kk v S' σ' hq p l e s m args below meth c Z D N A ad0 n0 hC hK hA hX hR ad' H1 locs1 ls hW' hl'
  have eq9 : (v.toList ++ rest).map (vc ad') = (v.map (vc ad')).toList ++ rest.map (vc ad) := by
    rw [List.map_append, vokS_eq hv.2 had']
    cases v <;> rfl
  rw [eq9] at h
  exact h
theorem aw_callSN {M : MI} {X : EX} {R : Room} {mc ms : Nat} {Q : QT} {kc kn : Nat} {S : List SC} {σ : St} {pc : Nat} {L : LV} {st : List Value} {idx n mc' ms' : Nat} {M' : MI} {rm : Room} {av rest : List Value} {Q' : QT} {tab : List (Nat × TE)} {v0 : Int32} {v2 : Int64} (hT : tOK M.1.cls M.2.1 tab = true) (ht : tget tab pc = some (.invokestatic idx, 3, v0, v2)) (pc2 : Nat) (hp : pc + 3 = pc2) {host : String} (hst : st = av.reverse ++ rest) (hk : (M.1.cls, idx, M'.1, host) ∈ nestL) (hM : MSt M' n) (hn : av.length = n) (hsp : Sp M' rm mc' ms' av S σ Q')
    (hrm : rmOK rm R M' mc' ms' kc kn) (hcat : (rest.map fun v => v.category).sum ≤ 8) (nv : Nat) (hnv : nv ≤ S.length) (hv : (L.all (fun q => vok nv q.2) && rest.all (vok nv)) = true)
    (kk : ∀ (v : Option Value) (S' : List SC) (σ' : St), Q' v S' σ' → AW M X R mc ms Q (kc + mc') (kn + ms') S' σ' pc2 L (v.toList ++ rest)) : AW M X R mc ms Q kc kn S σ pc L st := by
  subst hst; subst hp
  simp only [Bool.and_eq_true] at hv
  intro p l e s m args below meth c Z D N A ad0 n0 hC hK hA hX hR ad H locs ls hW hl
  have hPr : ∀ U : State, U.heap = H → s.WarmedH U.vm → Pr D N ad S σ H.size av ((av).map (vc ad)).toArray U := fun U hU hWU => ⟨rfl, by rw [hU], by rw [hU]; exact hW.2.2.1, va_K.moved hWU.alike hK, hW.2.2.2.1.weaken (fun _ _ _ _ => trivial), NW.warm hWU hC.2.2.2.2.2.2⟩
  obtain ⟨m1, m3, m4, m5, m6, m7⟩ := hM
  have hrun := va_runSN (p := p) (l := l) (e := e) (below := below) (meth := meth) (locs := locs) (cells := kc) (slots := kn) (g := F0 m pc ls ((av.reverse ++ rest).map (vc ad))) (As := av.map (vc ad)) (rest := rest.map (vc ad)) (nL := M.2.2.1) (Ts := gtbl) ⟨hC.1, hC.2.1, hC.2.2.1, hC.2.2.2.1, hC.2.2.2.2.1⟩ (hsp l D N ad H.size) ⟨va_cnB n hC.2.2.2.2.1 (mw_good m4) rfl hrm.1 hrm.2.1 (hC.2.2.2.2.2.2.1 _ hk) (hC.2.2.2.2.1 _ m3) ⟨m5, m6, m7⟩ hrm.2.2.1, hC.2.2.2.2.1 _ m1, trivial⟩ ⟨Pr.blind, hPr⟩ rfl (by rw [List.length_map]; exact hn) hl.1 (stk_eq ad av rest) (lv_room (by rw [cat_eq]; exact hcat)) (tok_at hT ht).1 hrm.2.2.2
  refine after (ad := ad) (S := S) (σ := σ) (rest := rest) hrun hA hW (fun v S' σ' ad' H1 locs1 hq hn' had hW' => ?_)
  have had' : ∀ k, k < nv ∨ 777 ≤ k → ad' k = ad k := fun k h => had k (h.imp_left (fun h => Nat.lt_of_lt_of_le h hnv))
  have hl' : lv_has ls M.2.2.1 (conL ad' L) := by rw [vokL_eq hv.1 had']; exact hl
  have h := kk v S' σ' hq p l e s m args below meth c Z D N A ad0 n0 hC hK hA hX hR ad' H1 locs1 ls hW' hl'
  have eq9 : (v.toList ++ rest).map (vc ad') = (v.map (vc ad')).toList ++ rest.map (vc ad) := by
    rw [List.map_append, vokS_eq hv.2 had']
    cases v <;> rfl
  rw [eq9] at h
  exact h
theorem aw_callI {M : MI} {X : EX} {R : Room} {mc ms : Nat} {Q : QT} {kc kn : Nat} {S : List SC} {σ : St} {pc : Nat} {L : LV} {st : List Value} {idx n mc' ms' : Nat} {M' : MI} {rm : Room} {av rest : List Value} {Q' : QT} {tab : List (Nat × TE)} {v0 : Int32} {v2 : Int64} (hT : tOK M.1.cls M.2.1 tab = true) (ht : tget tab pc = some (.invokespecial idx, 3, v0, v2)) (pc2 : Nat) (hp : pc + 3 = pc2) {a : Nat} (hst : st = av.reverse ++ .ref a :: rest) (hk : LK M.1.cls idx M'.1) (hM : MIn M' n) (hn : av.length = n) (hsp : Sp M' rm mc' ms' (.ref a :: av) S σ Q')
    (hrm : rmOK rm R M' mc' ms' kc kn) (hcat : (rest.map fun v => v.category).sum ≤ 8) (nv : Nat) (hnv : nv ≤ S.length) (hv : (L.all (fun q => vok nv q.2) && rest.all (vok nv)) = true)
    (kk : ∀ (v : Option Value) (S' : List SC) (σ' : St), Q' v S' σ' → AW M X R mc ms Q (kc + mc') (kn + ms') S' σ' pc2 L (v.toList ++ rest)) : AW M X R mc ms Q kc kn S σ pc L st := by
  subst hst; subst hp
  simp only [Bool.and_eq_true] at hv
  intro p l e s m args below meth c Z D N A ad0 n0 hC hK hA hX hR ad H locs ls hW hl
  have hPr : ∀ U : State, U.heap = H → s.WarmedH U.vm → Pr D N ad S σ H.size (.ref a :: av) (((.ref a :: av)).map (vc ad)).toArray U := fun U hU hWU => ⟨rfl, by rw [hU], by rw [hU]; exact hW.2.2.1, va_K.moved hWU.alike hK, hW.2.2.2.1.weaken (fun _ _ _ _ => trivial), NW.warm hWU hC.2.2.2.2.2.2⟩
  obtain ⟨⟨y1, y2, y3, y4⟩⟩ := show Nonempty MI from ⟨M'⟩
  obtain ⟨m1, m3, m4, m0, mr, m5, m6, m7⟩ := hM
  have hrun := va_runI (p := p) (l := l) (e := e) (below := below) (meth := meth) (locs := locs) (cells := kc) (slots := kn) (g := F0 m pc ls ((av.reverse ++ .ref a :: rest).map (vc ad))) (As := av.map (vc ad)) (rest := rest.map (vc ad)) (b := ad a) (nL := M.2.2.1) (Ts := gtbl) ⟨hC.1, hC.2.1, hC.2.2.1, hC.2.2.2.1, hC.2.2.2.2.1⟩ (hsp l D N ad H.size) (cwI n hC.2.2.2.2.1 (mw_good m4) (by rw [mwords, mr]) hrm.1 hrm.2.1 (hC.2.2.2.2.1 _ m3) (hC.2.2.2.2.1 _ hk) (hC.2.2.2.2.1 _ m1) m0 ⟨m5, m6, m7⟩ hrm.2.2.1) ⟨Pr.blind, hPr⟩ rfl (by rw [List.length_map]; exact hn) hl.1 (stk_eq ad av (.ref a :: rest)) (lv_room (by rw [cat_eq]; exact hcat)) (tok_at hT ht).1 hrm.2.2.2
  refine after (ad := ad) (S := S) (σ := σ) (rest := rest) hrun hA hW (fun v S' σ' ad' H1 locs1 hq hn' had hW' => ?_)
  have had' : ∀ k, k < nv ∨ 777 ≤ k → ad' k = ad k := fun k h => had k (h.imp_left (fun h => Nat.lt_of_lt_of_le h hnv))
  have hl' : lv_has ls M.2.2.1 (conL ad' L) := by rw [vokL_eq hv.1 had']; exact hl
  have h := kk v S' σ' hq p l e s m args below meth c Z D N A ad0 n0 hC hK hA hX hR ad' H1 locs1 ls hW' hl'
  have eq9 : (v.toList ++ rest).map (vc ad') = (v.map (vc ad')).toList ++ rest.map (vc ad) := by
    rw [List.map_append, vokS_eq hv.2 had']
    cases v <;> rfl
  rw [eq9] at h
  exact h
theorem aw_callIN {M : MI} {X : EX} {R : Room} {mc ms : Nat} {Q : QT} {kc kn : Nat} {S : List SC} {σ : St} {pc : Nat} {L : LV} {st : List Value} {idx n mc' ms' : Nat} {M' : MI} {rm : Room} {av rest : List Value} {Q' : QT} {tab : List (Nat × TE)} {v0 : Int32} {v2 : Int64} (hT : tOK M.1.cls M.2.1 tab = true) (ht : tget tab pc = some (.invokespecial idx, 3, v0, v2)) (pc2 : Nat) (hp : pc + 3 = pc2) {a : Nat} {host : String} (hst : st = av.reverse ++ .ref a :: rest) (hk : (M.1.cls, idx, M'.1, host) ∈ nestL) (hM : MIn M' n) (hn : av.length = n) (hsp : Sp M' rm mc' ms' (.ref a :: av) S σ Q')
    (hrm : rmOK rm R M' mc' ms' kc kn) (hcat : (rest.map fun v => v.category).sum ≤ 8) (nv : Nat) (hnv : nv ≤ S.length) (hv : (L.all (fun q => vok nv q.2) && rest.all (vok nv)) = true)
    (kk : ∀ (v : Option Value) (S' : List SC) (σ' : St), Q' v S' σ' → AW M X R mc ms Q (kc + mc') (kn + ms') S' σ' pc2 L (v.toList ++ rest)) : AW M X R mc ms Q kc kn S σ pc L st := by
  subst hst; subst hp
  simp only [Bool.and_eq_true] at hv
  intro p l e s m args below meth c Z D N A ad0 n0 hC hK hA hX hR ad H locs ls hW hl
  have hPr : ∀ U : State, U.heap = H → s.WarmedH U.vm → Pr D N ad S σ H.size (.ref a :: av) (((.ref a :: av)).map (vc ad)).toArray U := fun U hU hWU => ⟨rfl, by rw [hU], by rw [hU]; exact hW.2.2.1, va_K.moved hWU.alike hK, hW.2.2.2.1.weaken (fun _ _ _ _ => trivial), NW.warm hWU hC.2.2.2.2.2.2⟩
  obtain ⟨m1, m3, m4, m0, mr, m5, m6, m7⟩ := hM
  have hrun := va_runIN (p := p) (l := l) (e := e) (below := below) (meth := meth) (locs := locs) (cells := kc) (slots := kn) (g := F0 m pc ls ((av.reverse ++ .ref a :: rest).map (vc ad))) (As := av.map (vc ad)) (rest := rest.map (vc ad)) (b := ad a) (nL := M.2.2.1) (Ts := gtbl) ⟨hC.1, hC.2.1, hC.2.2.1, hC.2.2.2.1, hC.2.2.2.2.1⟩ (hsp l D N ad H.size) ⟨va_cnB n hC.2.2.2.2.1 (mw_good m4) (by rw [mwords, mr]) hrm.1 hrm.2.1 (hC.2.2.2.2.2.2.1 _ hk) (hC.2.2.2.2.1 _ m3) ⟨m5, m6, m7⟩ hrm.2.2.1, m0, hC.2.2.2.2.1 _ m1⟩ ⟨Pr.blind, hPr⟩ rfl (by rw [List.length_map]; exact hn) hl.1 (stk_eq ad av (.ref a :: rest)) (lv_room (by rw [cat_eq]; exact hcat)) (tok_at hT ht).1 hrm.2.2.2
  refine after (ad := ad) (S := S) (σ := σ) (rest := rest) hrun hA hW (fun v S' σ' ad' H1 locs1 hq hn' had hW' => ?_)
  have had' : ∀ k, k < nv ∨ 777 ≤ k → ad' k = ad k := fun k h => had k (h.imp_left (fun h => Nat.lt_of_lt_of_le h hnv))
  have hl' : lv_has ls M.2.2.1 (conL ad' L) := by rw [vokL_eq hv.1 had']; exact hl
  have h := kk v S' σ' hq p l e s m args below meth c Z D N A ad0 n0 hC hK hA hX hR ad' H1 locs1 ls hW' hl'
  have eq9 : (v.toList ++ rest).map (vc ad') = (v.map (vc ad')).toList ++ rest.map (vc ad) := by
    rw [List.map_append, vokS_eq hv.2 had']
    cases v <;> rfl
  rw [eq9] at h
  exact h
end
section
/-! ===== new cells ===== -/
def cok (n : Nat) (c : SC) : Prop := match c with
  | .inl o => ∀ k, some (some k) ∈ o.2 → k < n
  | .inr (.inl _) => True
  | .inr (.inr g) => ∀ j k, g.2 j = some k → k < n
def sokP (S : List SC) (n : Nat) : Prop := ∀ c ∈ S, cok n c
theorem cok_mono {n n' : Nat} {c : SC} (h : cok n c) (hn : n ≤ n') : cok n' c := by
  match c, h with
  | .inl o, h => exact fun k hk => Nat.lt_of_lt_of_le (h k hk) hn
  | .inr (.inl _), _ => trivial
  | .inr (.inr g), h => exact fun j k hk => Nat.lt_of_lt_of_le (h j k hk) hn
theorem sokP_push {S : List SC} {c : SC} (h : sokP S S.length) (hc : cok S.length c) : sokP (S ++ [c]) (S ++ [c]).length := by
  intro d hd
  have hle : S.length ≤ (S ++ [c]).length := by simp
  rcases List.mem_append.mp hd with h1 | h1
  · exact cok_mono (h d h1) hle
  · rw [List.mem_singleton.mp h1]; exact cok_mono hc hle
theorem ce_ad {N : N3} {ad ad' : Nat → Nat} {r : Nat → Int32} {n : Nat} {c : SC} (h : cok n c) (ha : ∀ k, k < n → ad' k = ad k) : ce N ad' r c = ce N ad r c := by
  match c, h with
  | .inl o, h =>
    simp only [ce]
    congr 2
    apply List.ext_getElem?
    intro j
    simp only [List.getElem?_mapIdx]
    cases hj : o.2[j]? with
    | none => rfl
    | some f =>
      match f with
      | none => rfl
      | some none => rfl
      | some (some k) => simp [fv, ha k (h k (List.mem_of_getElem? hj))]
  | .inr (.inl _), _ => rfl
  | .inr (.inr g), h =>
    have hf : (fun k => (g.2 k).map ad') = (fun k => (g.2 k).map ad) := by
      funext j
      cases hj : g.2 j with
      | none => rfl
      | some k => simp [ha k (h j k hj)]
    simp only [ce, hf]
theorem cw_push {N : N3} {ad : Nat → Nat} {S : List SC} {σ : St} {q : Nat} {c : SC} (h : sokP S S.length) (hc : cok S.length c) : cw N (va_up ad S.length q) (S ++ [c]) (upC σ S.length (fun _ => 0)) = cw N ad S σ ++ [(q, ce N ad (fun _ => 0) c)] := by
  have ha : ∀ k, k < S.length → va_up ad S.length q k = ad k := fun k hk => by simp [va_up, Nat.ne_of_lt hk]
  apply List.ext_getElem?
  intro j
  by_cases hj : j < S.length
  · have h1 : S[j]? = some S[j] := List.getElem?_eq_getElem hj
    have h2 : (S ++ [c])[j]? = some S[j] := by rw [List.getElem?_append_left hj]; exact h1
    rw [cw_at h2, List.getElem?_append_left (by simp [cw]; exact hj), cw_at h1, ce_ad (h _ (List.getElem_mem hj)) ha, ha j hj]
    simp [upC, Nat.ne_of_lt hj]
  · by_cases hj2 : j = S.length
    · subst hj2
      have h2 : (S ++ [c])[S.length]? = some c := by simp
      rw [cw_at h2, List.getElem?_append_right (by simp [cw]), ce_ad hc ha]
      simp [cw, upC, va_up]
    · have h1 : (cw N (va_up ad S.length q) (S ++ [c]) (upC σ S.length fun _ => 0)).length ≤ j := by simp [cw]; omega
      have h2 : (cw N ad S σ ++ [(q, ce N ad (fun _ => 0) c)]).length ≤ j := by simp [cw]; omega
      rw [List.getElem?_eq_none h1, List.getElem?_eq_none h2]
theorem ad_push {ad ad0 : Nat → Nat} {n0 n q : Nat} (h : ∀ k, k < n0 ∨ 777 ≤ k → ad k = ad0 k) (hn : n0 ≤ n) (hn2 : n < 777) : ∀ k, k < n0 ∨ 777 ≤ k → va_up ad n q k = ad0 k := by
  intro k hk
  have : ¬ k = n := by omega
  simp [va_up, this, h k hk]
theorem cls_I {D : va_G} {N : N3} {s : State} {cA : ClassId} {t : List (ClassId × FieldType)} (hK : va_K D vwCl (tys3 N) s) (h : va_K D vwCl (t ++ [(cA, .int)]) s) : cA = N.1 := by
  have h1 := (h.2 t.length (cA, .int) (by simp)).2
  have h2 := (hK.2 0 (N.1, .int) rfl).2
  exact Option.some.inj (h1.symm.trans h2)
theorem cls_Z {D : va_G} {N : N3} {s : State} {cA : ClassId} {t : List (ClassId × FieldType)} (hK : va_K D vwCl (tys3 N) s) (h : va_K D vwCl (t ++ [(cA, .boolean)]) s) : cA = N.2.1 := by
  have h1 := (h.2 t.length (cA, .boolean) (by simp)).2
  have h2 := (hK.2 1 (N.2.1, .boolean) rfl).2
  exact Option.some.inj (h1.symm.trans h2)
theorem cls_L {D : va_G} {N : N3} {s : State} {cA : ClassId} {t : List (ClassId × FieldType)} (hK : va_K D vwCl (tys3 N) s) (h : va_K D vwCl (t ++ [(cA, .object RX0)]) s) : cA = N.2.2 := by
  obtain ⟨_, _, _, _, _, h1⟩ := (h.2 t.length (cA, .object RX0) (by simp)).2
  obtain ⟨_, _, _, _, _, h2⟩ := (hK.2 2 (N.2.2, .object RX0) rfl).2
  exact Option.some.inj (h1.symm.trans h2)
theorem gt_int : Cond.arrayClass .int ∈ gtbl := by decide +kernel
theorem gt_boolean : Cond.arrayClass .boolean ∈ gtbl := by decide +kernel
theorem aw_new {M : MI} {X : EX} {R : Room} {mc ms : Nat} {Q : QT} {kc kn : Nat} {S : List SC} {σ : St} {pc : Nat} {L : LV} {st : List Value} {idx ci n : Nat} {C : String} {T : u_T} {ty0 : Nat → FieldType} {fr : List (Option (Option Nat))} {tab : List (Nat × TE)} {v0 : Int32} {v2 : Int64} (hT : tOK M.1.cls M.2.1 tab = true) (ht : tget tab pc = some (.new idx, 3, v0, v2)) (pc2 : Nat) (hp : pc + 3 = pc2) (hcl : vwCl[ci]? = some (C, T, n)) (hin : ∀ w ∈ u_ws C T n, w ∈ gtbl) (hty : ∀ k, k < n → parseFieldDescriptor (T k).2.2.1 = some (ty0 k)) (hlk : Cond.classLink M.1.cls idx C ∈ gtbl) (hins : Cond.instantiable C n ∈ gtbl) (hini : Cond.initialized C ∈ gtbl)
    (hfr : ∀ j, j < n → defaultValue (ty0 j) = vp_V (fr.mapIdx (fv id (fun _ => 0))) j) (hnull : ∀ k, some (some k) ∉ fr) (nv : Nat) (hnv : nv ≤ S.length) (hv : (L.all (fun q => vok nv q.2) && st.all (vok nv)) = true) (hso : sokP S S.length) (hlen : S.length < 777) (hroom : kc + 1 ≤ R.cells ∧ kn + n ≤ R.slots)
    (kk : AW M X R mc ms Q (kc + 1) (kn + n) (S ++ [.inl (ci, fr)]) (upC σ S.length (fun _ => 0)) pc2 L (.ref S.length :: st)) : AW M X R mc ms Q kc kn S σ pc L st := by
  subst hp
  intro p l e s m args below meth c Z D N A ad0 n0 hC hK hA hX hR ad H locs ls hW hl
  have hfr2 : ∀ ad : Nat → Nat, fr.mapIdx (fv ad (fun _ => 0)) = fr.mapIdx (fv id (fun _ => 0)) := by
    intro ad
    apply List.ext_getElem?
    intro j
    simp only [List.getElem?_mapIdx]
    cases hj : fr[j]? with
    | none => rfl
    | some f =>
      match f with
      | none => rfl
      | some none => rfl
      | some (some k) => exact absurd (List.mem_of_getElem? hj) (hnull k)
  refine va_new (ci := ci) (fs := fr.mapIdx (fv ad (fun _ => 0))) hC.1 hC.2.1 hC.2.2.2.2.1 hin ty0 hty hC.2.2.2.1 (hC.2.2.2.2.1 _ hlk) (hC.2.2.2.2.1 _ hins) (hC.2.2.2.2.1 _ hini) hK hW.2.2.1 hW.2.2.2.1 hW.2.2.2.2 hA hcl (fun j hj => by rw [hfr2 ad]; exact hfr j hj) hroom.1 hroom.2 (tok_at hT ht).1 (fun q H1 hP hD hSS => ?_)
  have hN := hv
  simp only [Bool.and_eq_true] at hN
  have hvk : ∀ z : Nat, ∀ k, k < nv ∨ 777 ≤ k → va_up ad S.length z k = ad k := fun z k h => by
    have : ¬ k = S.length := by omega
    simp [va_up, this]
  have eq9 := cw_push (N := N) (ad := ad) (σ := σ) (q := q) (c := .inl (ci, fr)) hso (fun k hk => absurd hk (hnull k))
  have h := kk p l e s m args below meth c Z D N A ad0 n0 hC hK hA hX hR (va_up ad S.length q) H1 locs ls ⟨by have := hW.1; simp; omega, ad_push hW.2.1 hW.1 hlen, ws_P (by rw [eq9]; rfl) hP, ws_D (by rw [eq9]; rfl) hD, hSS⟩ (by rw [vokL_eq hN.1 (hvk q)]; exact hl)
  rw [List.map_cons, vokS_eq hN.2 (hvk q)] at h
  have h9 : vc (va_up ad S.length q) (.ref S.length) = .ref q := by simp [vc, va_up]
  rw [h9] at h
  exact h
theorem aw_newaI {M : MI} {X : EX} {R : Room} {mc ms : Nat} {Q : QT} {kc kn : Nat} {S : List SC} {σ : St} {pc : Nat} {L : LV} {st : List Value} {n : Int32} {k : Nat} {tab : List (Nat × TE)} {v0 : Int32} {v2 : Int64} (hT : tOK M.1.cls M.2.1 tab = true) (ht : tget tab pc = some (.newarray .int, 2, v0, v2)) (pc2 : Nat) (hp : pc + 2 = pc2) (hn : ¬ n < 0) (hk : n.toNatClampNeg = k) (hkb : k ≤ 1000) (nv : Nat) (hnv : nv ≤ S.length) (hv : (L.all (fun q => vok nv q.2) && st.all (vok nv)) = true) (hso : sokP S S.length) (hlen : S.length < 777) (hroom : kc + 1 ≤ R.cells ∧ kn + k ≤ R.slots)
    (kk : AW M X R mc ms Q (kc + 1) (kn + k) (S ++ [.inr (.inl (0, k))]) (upC σ S.length (fun _ => 0)) pc2 L (.ref S.length :: st)) : AW M X R mc ms Q kc kn S σ pc L (.int n :: st) := by
  subst hp
  intro p l e s m args below meth c Z D N A ad0 n0 hC hK hA hX hR ad H locs ls hW hl
  have harr : (Cond.arrayClass .int).before args s = true := hC.2.2.2.2.1 _ gt_int
  have hbt : k * componentBytes .int ≤ 536870912 := by simp only [componentBytes]; omega
  have hcl : ∀ cA : ClassId, vp_cell cA (k, .inl (fun _ => 0)) = arrV cA k (fun _ => defaultValue .int) := fun cA => rfl
  refine va_newa (atype := .int) (ty := .int) (a0 := (k, .inl (fun _ => 0))) hC.1 hC.2.1 harr rfl hK hW.2.2.1 hW.2.2.2.1 hW.2.2.2.2 hA hcl hn hk hbt hroom.1 hroom.2 (tok_at hT ht).1 (fun q cA H1 hK1 hP hD hSS => ?_)
  have hcA := cls_I hK hK1
  subst hcA
  have hN := hv
  simp only [Bool.and_eq_true] at hN
  have hvk : ∀ z : Nat, ∀ k, k < nv ∨ 777 ≤ k → va_up ad S.length z k = ad k := fun z k h => by
    have : ¬ k = S.length := by omega
    simp [va_up, this]
  have eq9 := cw_push (N := N) (ad := ad) (σ := σ) (q := q) (c := .inr (.inl (0, k))) hso trivial
  have h := kk p l e s m args below meth c Z D N A ad0 n0 hC hK hA hX hR (va_up ad S.length q) H1 locs ls ⟨by have := hW.1; simp; omega, ad_push hW.2.1 hW.1 hlen, ws_P (by rw [eq9]; rfl) hP, ws_D (by rw [eq9]; rfl) hD, hSS⟩ (by rw [vokL_eq hN.1 (hvk q)]; exact hl)
  rw [List.map_cons, vokS_eq hN.2 (hvk q)] at h
  have h9 : vc (va_up ad S.length q) (.ref S.length) = .ref q := by simp [vc, va_up]
  rw [h9] at h
  exact h
theorem aw_newaZ {M : MI} {X : EX} {R : Room} {mc ms : Nat} {Q : QT} {kc kn : Nat} {S : List SC} {σ : St} {pc : Nat} {L : LV} {st : List Value} {n : Int32} {k : Nat} {tab : List (Nat × TE)} {v0 : Int32} {v2 : Int64} (hT : tOK M.1.cls M.2.1 tab = true) (ht : tget tab pc = some (.newarray .boolean, 2, v0, v2)) (pc2 : Nat) (hp : pc + 2 = pc2) (hn : ¬ n < 0) (hk : n.toNatClampNeg = k) (hkb : k ≤ 1000) (nv : Nat) (hnv : nv ≤ S.length) (hv : (L.all (fun q => vok nv q.2) && st.all (vok nv)) = true) (hso : sokP S S.length) (hlen : S.length < 777) (hroom : kc + 1 ≤ R.cells ∧ kn + k ≤ R.slots)
    (kk : AW M X R mc ms Q (kc + 1) (kn + k) (S ++ [.inr (.inl (1, k))]) (upC σ S.length (fun _ => 0)) pc2 L (.ref S.length :: st)) : AW M X R mc ms Q kc kn S σ pc L (.int n :: st) := by
  subst hp
  intro p l e s m args below meth c Z D N A ad0 n0 hC hK hA hX hR ad H locs ls hW hl
  have harr : (Cond.arrayClass .boolean).before args s = true := hC.2.2.2.2.1 _ gt_boolean
  have hbt : k * componentBytes .boolean ≤ 536870912 := by simp only [componentBytes]; omega
  have hcl : ∀ cA : ClassId, vp_cell cA (k, .inl (fun _ => 0)) = arrV cA k (fun _ => defaultValue .boolean) := fun cA => rfl
  refine va_newa (atype := .boolean) (ty := .boolean) (a0 := (k, .inl (fun _ => 0))) hC.1 hC.2.1 harr rfl hK hW.2.2.1 hW.2.2.2.1 hW.2.2.2.2 hA hcl hn hk hbt hroom.1 hroom.2 (tok_at hT ht).1 (fun q cA H1 hK1 hP hD hSS => ?_)
  have hcA := cls_Z hK hK1
  subst hcA
  have hN := hv
  simp only [Bool.and_eq_true] at hN
  have hvk : ∀ z : Nat, ∀ k, k < nv ∨ 777 ≤ k → va_up ad S.length z k = ad k := fun z k h => by
    have : ¬ k = S.length := by omega
    simp [va_up, this]
  have eq9 := cw_push (N := N) (ad := ad) (σ := σ) (q := q) (c := .inr (.inl (1, k))) hso trivial
  have h := kk p l e s m args below meth c Z D N A ad0 n0 hC hK hA hX hR (va_up ad S.length q) H1 locs ls ⟨by have := hW.1; simp; omega, ad_push hW.2.1 hW.1 hlen, ws_P (by rw [eq9]; rfl) hP, ws_D (by rw [eq9]; rfl) hD, hSS⟩ (by rw [vokL_eq hN.1 (hvk q)]; exact hl)
  rw [List.map_cons, vokS_eq hN.2 (hvk q)] at h
  have h9 : vc (va_up ad S.length q) (.ref S.length) = .ref q := by simp [vc, va_up]
  rw [h9] at h
  exact h
theorem aw_newq {M : MI} {X : EX} {R : Room} {mc ms : Nat} {Q : QT} {kc kn : Nat} {S : List SC} {σ : St} {pc : Nat} {L : LV} {st : List Value} {idx : Nat} {n : Int32} {k : Nat} {tab : List (Nat × TE)} {v0 : Int32} {v2 : Int64} (hT : tOK M.1.cls M.2.1 tab = true) (ht : tget tab pc = some (.anewarray idx, 3, v0, v2)) (pc2 : Nat) (hp : pc + 3 = pc2) (hlk : Cond.classLink M.1.cls idx RX0 ∈ gtbl) (hn : ¬ n < 0) (hk : n.toNatClampNeg = k) (hkb : k ≤ 1000) (nv : Nat) (hnv : nv ≤ S.length) (hv : (L.all (fun q => vok nv q.2) && st.all (vok nv)) = true) (hso : sokP S S.length) (hlen : S.length < 777) (hroom : kc + 1 ≤ R.cells ∧ kn + k ≤ R.slots)
    (kk : AW M X R mc ms Q (kc + 1) (kn + k) (S ++ [.inr (.inr (k, fun _ => none))]) (upC σ S.length (fun _ => 0)) pc2 L (.ref S.length :: st)) : AW M X R mc ms Q kc kn S σ pc L (.int n :: st) := by
  subst hp
  intro p l e s m args below meth c Z D N A ad0 n0 hC hK hA hX hR ad H locs ls hW hl
  refine va_newq (C := RX0) hC.1 hC.2.1 hC.2.2.2.1 (hC.2.2.2.2.1 _ hlk) hC.2.2.2.2.2.2.2 hK hW.2.2.1 hW.2.2.2.1 hW.2.2.2.2 hA hn hk (by omega) hroom.1 hroom.2 (tok_at hT ht).1 (fun q cA H1 hK1 hP hD hSS => ?_)
  have hcA := cls_L hK hK1
  subst hcA
  have hN := hv
  simp only [Bool.and_eq_true] at hN
  have hvk : ∀ z : Nat, ∀ k, k < nv ∨ 777 ≤ k → va_up ad S.length z k = ad k := fun z k h => by
    have : ¬ k = S.length := by omega
    simp [va_up, this]
  have eq9 := cw_push (N := N) (ad := ad) (σ := σ) (q := q) (c := .inr (.inr (k, fun _ => none))) hso (fun j k h => by cases h)
  have h := kk p l e s m args below meth c Z D N A ad0 n0 hC hK hA hX hR (va_up ad S.length q) H1 locs ls ⟨by have := hW.1; simp; omega, ad_push hW.2.1 hW.1 hlen, ws_P (by rw [eq9]; rfl) hP, ws_D (by rw [eq9]; rfl) hD, hSS⟩ (by rw [vokL_eq hN.1 (hvk q)]; exact hl)
  rw [List.map_cons, vokS_eq hN.2 (hvk q)] at h
  have h9 : vc (va_up ad S.length q) (.ref S.length) = .ref q := by simp [vc, va_up]
  rw [h9] at h
  exact h
theorem aw_objInit {M : MI} {X : EX} {R : Room} {mc ms : Nat} {Q : QT} {kc kn : Nat} {S : List SC} {σ : St} {pc : Nat} {L : LV} {st : List Value} {idx a : Nat} {tab : List (Nat × TE)} {v0 : Int32} {v2 : Int64} (hT : tOK M.1.cls M.2.1 tab = true) (ht : tget tab pc = some (.invokespecial idx, 3, v0, v2)) (pc2 : Nat) (hp : pc + 3 = pc2) (hk : LK M.1.cls idx objectInit) (hfr : 1 ≤ R.frames) (hlo : (st.map fun v => v.category).sum + 12 ≤ R.locals)
    (kk : AW M X R mc ms Q kc kn S σ pc2 L st) : AW M X R mc ms Q kc kn S σ pc L (.ref a :: st) := by
  subst hp
  intro p l e s m args below meth c Z D N A ad0 n0 hC hK hA hX hR ad H locs ls hW hl
  exact W.objInit (idx := idx) hC.1 hC.2.1 hC.2.2.2.1 (hC.2.2.2.2.1 _ hk) (hC.2.2.2.2.1 (.instanceMethod objectInit) (by decide +kernel)) (hC.2.2.2.2.1 (.code objectInit ⟨#[0xb1]⟩ 1 none) (by decide +kernel)) rfl (hl.1.trans hC.2.2.1.symm) rfl (tok_at hT ht).1 hfr (by rw [cat_eq]; simpa [JFrame.monitorRoom] using hlo) (kk p l e s m args below meth c Z D N A ad0 n0 hC hK hA hX hR ad H locs ls hW hl)
theorem aw_table {M : MI} {X : EX} {R : Room} {mc ms : Nat} {Q : QT} {kc kn : Nat} {S : List SC} {σ : St} {pc : Nat} {L : LV} {st : List Value} {dflt lo hi off : Int} {offs : Array Int} {len : Nat} {x : Int32} {tab : List (Nat × TE)} {v0 : Int32} {v2 : Int64} (hT : tOK M.1.cls M.2.1 tab = true) (ht : tget tab pc = some (.tableswitch dflt lo hi offs, len, v0, v2)) (h1 : ¬ x.toInt < lo) (h2 : ¬ hi < x.toInt) (ho : offs[(x.toInt - lo).toNat]? = some off) (tgt : Nat) (hj : (pc : Int) + off = (tgt : Int))
    (kk : AW M X R mc ms Q kc kn S σ tgt L st) : AW M X R mc ms Q kc kn S σ pc L (.int x :: st) := by
  intro p l e s m args below meth c Z D N A ad0 n0 hC hK hA hX hR ad H locs ls hW hl
  exact lv_tableIn hC.1 hC.2.1 (tok_at hT ht).1 h1 h2 ho hj (kk p l e s m args below meth c Z D N A ad0 n0 hC hK hA hX hR ad H locs ls hW hl)
theorem aw_tableD {M : MI} {X : EX} {R : Room} {mc ms : Nat} {Q : QT} {kc kn : Nat} {S : List SC} {σ : St} {pc : Nat} {L : LV} {st : List Value} {dflt lo hi : Int} {offs : Array Int} {len : Nat} {x : Int32} {tab : List (Nat × TE)} {v0 : Int32} {v2 : Int64} (hT : tOK M.1.cls M.2.1 tab = true) (ht : tget tab pc = some (.tableswitch dflt lo hi offs, len, v0, v2)) (h1 : x.toInt < lo ∨ hi < x.toInt) (tgt : Nat) (hj : (pc : Int) + dflt = (tgt : Int))
    (kk : AW M X R mc ms Q kc kn S σ tgt L st) : AW M X R mc ms Q kc kn S σ pc L (.int x :: st) := by
  intro p l e s m args below meth c Z D N A ad0 n0 hC hK hA hX hR ad H locs ls hW hl
  exact lv_tableOut hC.1 hC.2.1 (tok_at hT ht).1 h1 hj (kk p l e s m args below meth c Z D N A ad0 n0 hC hK hA hX hR ad H locs ls hW hl)
theorem aw_lookup {M : MI} {X : EX} {R : Room} {mc ms : Nat} {Q : QT} {kc kn : Nat} {S : List SC} {σ : St} {pc : Nat} {L : LV} {st : List Value} {dflt off : Int} {ps : Array (Int × Int)} {len : Nat} {x : Int32} {tab : List (Nat × TE)} {v0 : Int32} {v2 : Int64} (hT : tOK M.1.cls M.2.1 tab = true) (ht : tget tab pc = some (.lookupswitch dflt ps, len, v0, v2)) (hp : (ps.toList.zip (ps.toList.drop 1)).all (fun (a, next) => a.1 < next.1) = true) (ho : Op.lookupswitch.offset ps.toList dflt x.toInt = off) (tgt : Nat) (hj : (pc : Int) + off = (tgt : Int))
    (kk : AW M X R mc ms Q kc kn S σ tgt L st) : AW M X R mc ms Q kc kn S σ pc L (.int x :: st) := by
  intro p l e s m args below meth c Z D N A ad0 n0 hC hK hA hX hR ad H locs ls hW hl
  exact lv_lookup hC.1 hC.2.1 (tok_at hT ht).1 hp ho hj (kk p l e s m args below meth c Z D N A ad0 n0 hC hK hA hX hR ad H locs ls hW hl)
/-! the law's own script, at the logical address 777 -/
def XS (b n : Nat) (xs : Nat → Int32) : EX := fun s A ad0 => ad0 777 = b ∧ va_X b n xs s s.heap ∧ b < s.heap.size ∧ ¬ A b
theorem aw_sld {M : MI} {b n : Nat} {xs : Nat → Int32} {R : Room} {mc ms : Nat} {Q : QT} {kc kn : Nat} {S : List SC} {σ : St} {pc : Nat} {L : LV} {st : List Value} {i : Int32} {tab : List (Nat × TE)} {v0 : Int32} {v2 : Int64} (hT : tOK M.1.cls M.2.1 tab = true) (ht : tget tab pc = some (.iaload, 1, v0, v2)) (pc2 : Nat) (hp : pc + 1 = pc2) (hi : vp_in i n)
    (kk : AW M (XS b n xs) R mc ms Q kc kn S σ pc2 L (.int (xs i.toNatClampNeg) :: st)) : AW M (XS b n xs) R mc ms Q kc kn S σ pc L (.int i :: .ref 777 :: st) := by
  subst hp
  intro p l e s m args below meth c Z D N A ad0 n0 hC hK hA hX hR ad H locs ls hW hl
  have hb9 : ad 777 = b := (hW.2.1 777 (Or.inr (Nat.le_refl _))).trans hX.1
  have h := va_sld (pc := pc) (ls := ls) (rest := st.map (vc ad)) (p := p) (l := l) (e := e) (R := R) (m := m) (args := args) (below := below) (meth := meth) (c := c) (cells := kc) (slots := kn) (Q := Z) hC.1 hC.2.1 hX.2.1 hX.2.2.1 hX.2.2.2 hW.2.2.2.2 hi (tok_at hT ht).1 (kk p l e s m args below meth c Z D N A ad0 n0 hC hK hA hX hR ad H locs ls hW hl)
  rw [← hb9] at h
  exact h
theorem aw_slen {M : MI} {b n : Nat} {xs : Nat → Int32} {R : Room} {mc ms : Nat} {Q : QT} {kc kn : Nat} {S : List SC} {σ : St} {pc : Nat} {L : LV} {st : List Value} {tab : List (Nat × TE)} {v0 : Int32} {v2 : Int64} (hT : tOK M.1.cls M.2.1 tab = true) (ht : tget tab pc = some (.arraylength, 1, v0, v2)) (pc2 : Nat) (hp : pc + 1 = pc2)
    (kk : AW M (XS b n xs) R mc ms Q kc kn S σ pc2 L (.int (Int32.ofNat n) :: st)) : AW M (XS b n xs) R mc ms Q kc kn S σ pc L (.ref 777 :: st) := by
  subst hp
  intro p l e s m args below meth c Z D N A ad0 n0 hC hK hA hX hR ad H locs ls hW hl
  have hb9 : ad 777 = b := (hW.2.1 777 (Or.inr (Nat.le_refl _))).trans hX.1
  have h := va_slen (pc := pc) (ls := ls) (rest := st.map (vc ad)) (p := p) (l := l) (e := e) (R := R) (m := m) (args := args) (below := below) (meth := meth) (c := c) (cells := kc) (slots := kn) (Q := Z) hC.1 hC.2.1 hX.2.1 hX.2.2.1 hX.2.2.2 hW.2.2.2.2 (tok_at hT ht).1 (kk p l e s m args below meth c Z D N A ad0 n0 hC hK hA hX hR ad H locs ls hW hl)
  rw [← hb9] at h
  exact h
end
