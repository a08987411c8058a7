-- ===== PART A: goes FIRST, ahead of the names: the tables' words, and 'selects' of the private methods out of them =====
/-- a private method of a class that the tables say can be made, by its rows of tables_1 -/
def lw_okq (q : MethodName × Nat) : Prop := (q.1.cls ≠ "java/lang/invoke/MethodHandle" ∧ q.1.cls ≠ "java/lang/invoke/VarHandle") ∧ Cond.instantiable q.1.cls q.2 ∈ tables_1 ∧ Cond.privateMethod q.1 ∈ tables_1 ∧ Cond.instanceMethod q.1 ∈ tables_1
theorem lw_p0 : lw_okq (⟨"StolenApples", "draftNights", "()Z"⟩, 7) := ⟨⟨by decide +kernel, by decide +kernel⟩, List.mem_of_getElem? (i := 13) (by decide +kernel), List.mem_of_getElem? (i := 241) (by decide +kernel), List.mem_of_getElem? (i := 242) (by decide +kernel)⟩
theorem lw_p1 : lw_okq (⟨"StolenApples", "toldBag", "(I)I"⟩, 7) := ⟨⟨by decide +kernel, by decide +kernel⟩, List.mem_of_getElem? (i := 13) (by decide +kernel), List.mem_of_getElem? (i := 570) (by decide +kernel), List.mem_of_getElem? (i := 571) (by decide +kernel)⟩
theorem lw_p2 : lw_okq (⟨"StolenApplesModel", "isThere", "(I)Z"⟩, 32) := ⟨⟨by decide +kernel, by decide +kernel⟩, List.mem_of_getElem? (i := 574) (by decide +kernel), List.mem_of_getElem? (i := 695) (by decide +kernel), List.mem_of_getElem? (i := 696) (by decide +kernel)⟩
theorem lw_p3 : lw_okq (⟨"StolenApplesModel", "faultOf", "()I"⟩, 32) := ⟨⟨by decide +kernel, by decide +kernel⟩, List.mem_of_getElem? (i := 574) (by decide +kernel), List.mem_of_getElem? (i := 715) (by decide +kernel), List.mem_of_getElem? (i := 716) (by decide +kernel)⟩
theorem lw_p4 : lw_okq (⟨"StolenApplesModel", "goNights", "()I"⟩, 32) := ⟨⟨by decide +kernel, by decide +kernel⟩, List.mem_of_getElem? (i := 574) (by decide +kernel), List.mem_of_getElem? (i := 726) (by decide +kernel), List.mem_of_getElem? (i := 727) (by decide +kernel)⟩
theorem lw_p5 : lw_okq (⟨"StolenApplesModel", "asNow", "()V"⟩, 32) := ⟨⟨by decide +kernel, by decide +kernel⟩, List.mem_of_getElem? (i := 574) (by decide +kernel), List.mem_of_getElem? (i := 730) (by decide +kernel), List.mem_of_getElem? (i := 731) (by decide +kernel)⟩
theorem lw_p6 : lw_okq (⟨"StolenApplesModel", "endNight", "()I"⟩, 32) := ⟨⟨by decide +kernel, by decide +kernel⟩, List.mem_of_getElem? (i := 574) (by decide +kernel), List.mem_of_getElem? (i := 734) (by decide +kernel), List.mem_of_getElem? (i := 735) (by decide +kernel)⟩
theorem lw_p7 : lw_okq (⟨"StolenApplesModel", "nobodyOut", "()V"⟩, 32) := ⟨⟨by decide +kernel, by decide +kernel⟩, List.mem_of_getElem? (i := 574) (by decide +kernel), List.mem_of_getElem? (i := 738) (by decide +kernel), List.mem_of_getElem? (i := 739) (by decide +kernel)⟩
theorem lw_p8 : lw_okq (⟨"StolenApplesModel", "act", "(II)I"⟩, 32) := ⟨⟨by decide +kernel, by decide +kernel⟩, List.mem_of_getElem? (i := 574) (by decide +kernel), List.mem_of_getElem? (i := 742) (by decide +kernel), List.mem_of_getElem? (i := 743) (by decide +kernel)⟩
theorem lw_p9 : lw_okq (⟨"StolenApplesModel", "whyNot", "(II)I"⟩, 32) := ⟨⟨by decide +kernel, by decide +kernel⟩, List.mem_of_getElem? (i := 574) (by decide +kernel), List.mem_of_getElem? (i := 746) (by decide +kernel), List.mem_of_getElem? (i := 747) (by decide +kernel)⟩
theorem lw_p10 : lw_okq (⟨"StolenApplesModel", "bar", "(II)I"⟩, 32) := ⟨⟨by decide +kernel, by decide +kernel⟩, List.mem_of_getElem? (i := 574) (by decide +kernel), List.mem_of_getElem? (i := 750) (by decide +kernel), List.mem_of_getElem? (i := 751) (by decide +kernel)⟩
theorem lw_p11 : lw_okq (⟨"StolenApplesModel", "rob", "(II)V"⟩, 32) := ⟨⟨by decide +kernel, by decide +kernel⟩, List.mem_of_getElem? (i := 574) (by decide +kernel), List.mem_of_getElem? (i := 754) (by decide +kernel), List.mem_of_getElem? (i := 755) (by decide +kernel)⟩
theorem lw_p12 : lw_okq (⟨"StolenApplesModel", "takes", "(II)I"⟩, 32) := ⟨⟨by decide +kernel, by decide +kernel⟩, List.mem_of_getElem? (i := 574) (by decide +kernel), List.mem_of_getElem? (i := 758) (by decide +kernel), List.mem_of_getElem? (i := 759) (by decide +kernel)⟩
theorem lw_p13 : lw_okq (⟨"StolenApplesModel", "whyNotCaught", "(I)I"⟩, 32) := ⟨⟨by decide +kernel, by decide +kernel⟩, List.mem_of_getElem? (i := 574) (by decide +kernel), List.mem_of_getElem? (i := 762) (by decide +kernel), List.mem_of_getElem? (i := 763) (by decide +kernel)⟩
theorem lw_p14 : lw_okq (⟨"StolenApplesModel", "caughtNow", "(I)V"⟩, 32) := ⟨⟨by decide +kernel, by decide +kernel⟩, List.mem_of_getElem? (i := 574) (by decide +kernel), List.mem_of_getElem? (i := 766) (by decide +kernel), List.mem_of_getElem? (i := 767) (by decide +kernel)⟩
theorem lw_p15 : lw_okq (⟨"StolenApplesModel", "barOfNights", "()I"⟩, 32) := ⟨⟨by decide +kernel, by decide +kernel⟩, List.mem_of_getElem? (i := 574) (by decide +kernel), List.mem_of_getElem? (i := 774) (by decide +kernel), List.mem_of_getElem? (i := 775) (by decide +kernel)⟩
def lw_privs_1 : List (MethodName × Nat) := [(⟨"StolenApples", "draftNights", "()Z"⟩, 7), (⟨"StolenApples", "toldBag", "(I)I"⟩, 7), (⟨"StolenApplesModel", "isThere", "(I)Z"⟩, 32), (⟨"StolenApplesModel", "faultOf", "()I"⟩, 32), (⟨"StolenApplesModel", "goNights", "()I"⟩, 32), (⟨"StolenApplesModel", "asNow", "()V"⟩, 32), (⟨"StolenApplesModel", "endNight", "()I"⟩, 32), (⟨"StolenApplesModel", "nobodyOut", "()V"⟩, 32), (⟨"StolenApplesModel", "act", "(II)I"⟩, 32), (⟨"StolenApplesModel", "whyNot", "(II)I"⟩, 32), (⟨"StolenApplesModel", "bar", "(II)I"⟩, 32), (⟨"StolenApplesModel", "rob", "(II)V"⟩, 32), (⟨"StolenApplesModel", "takes", "(II)I"⟩, 32), (⟨"StolenApplesModel", "whyNotCaught", "(I)I"⟩, 32), (⟨"StolenApplesModel", "caughtNow", "(I)V"⟩, 32), (⟨"StolenApplesModel", "barOfNights", "()I"⟩, 32)]
theorem lw_r1 : ∀ q ∈ lw_privs_1, lw_okq q := List.forall_mem_cons.mpr ⟨lw_p0, List.forall_mem_cons.mpr ⟨lw_p1, List.forall_mem_cons.mpr ⟨lw_p2, List.forall_mem_cons.mpr ⟨lw_p3, List.forall_mem_cons.mpr ⟨lw_p4, List.forall_mem_cons.mpr ⟨lw_p5, List.forall_mem_cons.mpr ⟨lw_p6, List.forall_mem_cons.mpr ⟨lw_p7, List.forall_mem_cons.mpr ⟨lw_p8, List.forall_mem_cons.mpr ⟨lw_p9, List.forall_mem_cons.mpr ⟨lw_p10, List.forall_mem_cons.mpr ⟨lw_p11, List.forall_mem_cons.mpr ⟨lw_p12, List.forall_mem_cons.mpr ⟨lw_p13, List.forall_mem_cons.mpr ⟨lw_p14, List.forall_mem_cons.mpr ⟨lw_p15, fun _ h => absurd h List.not_mem_nil⟩⟩⟩⟩⟩⟩⟩⟩⟩⟩⟩⟩⟩⟩⟩⟩
theorem lw_p16 : lw_okq (⟨"StolenApplesModel", "stateNow", "(II)I"⟩, 32) := ⟨⟨by decide +kernel, by decide +kernel⟩, List.mem_of_getElem? (i := 574) (by decide +kernel), List.mem_of_getElem? (i := 782) (by decide +kernel), List.mem_of_getElem? (i := 783) (by decide +kernel)⟩
theorem lw_p17 : lw_okq (⟨"StolenApplesModel", "mayRob", "(I)I"⟩, 32) := ⟨⟨by decide +kernel, by decide +kernel⟩, List.mem_of_getElem? (i := 574) (by decide +kernel), List.mem_of_getElem? (i := 802) (by decide +kernel), List.mem_of_getElem? (i := 803) (by decide +kernel)⟩
theorem lw_p18 : lw_okq (⟨"StolenApplesModel", "wanted", "(II)I"⟩, 32) := ⟨⟨by decide +kernel, by decide +kernel⟩, List.mem_of_getElem? (i := 574) (by decide +kernel), List.mem_of_getElem? (i := 810) (by decide +kernel), List.mem_of_getElem? (i := 811) (by decide +kernel)⟩
theorem lw_p19 : lw_okq (⟨"StolenApplesModel", "mostThefts", "(II)I"⟩, 32) := ⟨⟨by decide +kernel, by decide +kernel⟩, List.mem_of_getElem? (i := 574) (by decide +kernel), List.mem_of_getElem? (i := 814) (by decide +kernel), List.mem_of_getElem? (i := 815) (by decide +kernel)⟩
theorem lw_p20 : lw_okq (⟨"StolenApplesModel", "layChains", "(I)V"⟩, 32) := ⟨⟨by decide +kernel, by decide +kernel⟩, List.mem_of_getElem? (i := 574) (by decide +kernel), List.mem_of_getElem? (i := 827) (by decide +kernel), List.mem_of_getElem? (i := 828) (by decide +kernel)⟩
theorem lw_p21 : lw_okq (⟨"StolenApplesModel", "layBoots", "()V"⟩, 32) := ⟨⟨by decide +kernel, by decide +kernel⟩, List.mem_of_getElem? (i := 574) (by decide +kernel), List.mem_of_getElem? (i := 851) (by decide +kernel), List.mem_of_getElem? (i := 852) (by decide +kernel)⟩
theorem lw_p22 : lw_okq (⟨"StolenApplesModel", "tryBoots", "(I)V"⟩, 32) := ⟨⟨by decide +kernel, by decide +kernel⟩, List.mem_of_getElem? (i := 574) (by decide +kernel), List.mem_of_getElem? (i := 856) (by decide +kernel), List.mem_of_getElem? (i := 857) (by decide +kernel)⟩
theorem lw_p23 : lw_okq (⟨"StolenApplesModel", "worth", "(II)I"⟩, 32) := ⟨⟨by decide +kernel, by decide +kernel⟩, List.mem_of_getElem? (i := 574) (by decide +kernel), List.mem_of_getElem? (i := 869) (by decide +kernel), List.mem_of_getElem? (i := 870) (by decide +kernel)⟩
def lw_privs_2 : List (MethodName × Nat) := [(⟨"StolenApplesModel", "stateNow", "(II)I"⟩, 32), (⟨"StolenApplesModel", "mayRob", "(I)I"⟩, 32), (⟨"StolenApplesModel", "wanted", "(II)I"⟩, 32), (⟨"StolenApplesModel", "mostThefts", "(II)I"⟩, 32), (⟨"StolenApplesModel", "layChains", "(I)V"⟩, 32), (⟨"StolenApplesModel", "layBoots", "()V"⟩, 32), (⟨"StolenApplesModel", "tryBoots", "(I)V"⟩, 32), (⟨"StolenApplesModel", "worth", "(II)I"⟩, 32)]
theorem lw_r2 : ∀ q ∈ lw_privs_2, lw_okq q := List.forall_mem_cons.mpr ⟨lw_p16, List.forall_mem_cons.mpr ⟨lw_p17, List.forall_mem_cons.mpr ⟨lw_p18, List.forall_mem_cons.mpr ⟨lw_p19, List.forall_mem_cons.mpr ⟨lw_p20, List.forall_mem_cons.mpr ⟨lw_p21, List.forall_mem_cons.mpr ⟨lw_p22, List.forall_mem_cons.mpr ⟨lw_p23, fun _ h => absurd h List.not_mem_nil⟩⟩⟩⟩⟩⟩⟩⟩
def lw_privs : List (MethodName × Nat) := lw_privs_1 ++ (lw_privs_2)
def lw_tbl : List Cond := k2_sels lw_privs ++ tables_1
theorem lw_privs_ok : ∀ q ∈ lw_privs, lw_okq q := by
  show ∀ q ∈ lw_privs_1 ++ (lw_privs_2), lw_okq q
  exact List.forall_mem_append.mpr ⟨lw_r1, lw_r2⟩
def RX0 : String := "StolenApples$Land"
def TX0 : u_T := fun k => match k with
  | 0 => ("StolenApples$Land", "apples", "[I", true)
  | 1 => ("StolenApples$Land", "bags", "[I", true)
  | 2 => ("StolenApples$Land", "heaps", "[I", true)
  | 3 => ("StolenApples$Land", "robbed", "[I", true)
  | 4 => ("StolenApples$Land", "lastRobbed", "[I", true)
  | 5 => ("StolenApples$Land", "sightTrees", "[I", true)
  | 6 => ("StolenApples$Land", "sightApples", "[I", true)
  | 7 => ("StolenApples$Land", "sights", "I", false)
  | 8 => ("StolenApples$Land", "here", "I", false)
  | 9 => ("StolenApples$Land", "out", "I", false)
  | 10 => ("StolenApples$Land", "dogs", "I", false)
  | 11 => ("StolenApples$Land", "lamps", "I", false)
  | _ => ("StolenApples$Land", "frost", "I", false)
def tyX0 : Nat → FieldType := fun k => match k with
  | 0 => .array .int
  | 1 => .array .int
  | 2 => .array .int
  | 3 => .array .int
  | 4 => .array .int
  | 5 => .array .int
  | 6 => .array .int
  | 7 => .int
  | 8 => .int
  | 9 => .int
  | 10 => .int
  | 11 => .int
  | _ => .int
abbrev wsX00 : List Cond := u_ws RX0 TX0 13
theorem nmX0 : ∀ a, a < 13 → ∀ b, b < 13 → a ≠ b → (TX0 a).2.1 ≠ (TX0 b).2.1 := by decide +kernel
theorem tyX0_ok : ∀ k, k < 13 → parseFieldDescriptor (TX0 k).2.2.1 = some (tyX0 k) := by decide +kernel
abbrev cX0_init : ByteArray := prog_2_method_1_code
def yX0_init : MethodName := ⟨RX0, "<init>", "()V"⟩
abbrev cX0_become : ByteArray := prog_2_method_2_code
def yX0_become : MethodName := ⟨RX0, "become", "(LStolenApples$Land;)V"⟩
abbrev cX0_has : ByteArray := prog_2_method_3_code
def yX0_has : MethodName := ⟨RX0, "has", "(I)Z"⟩
abbrev cX0_hasTwo : ByteArray := prog_2_method_4_code
def yX0_hasTwo : MethodName := ⟨RX0, "hasTwo", "(II)Z"⟩
abbrev cX0_count : ByteArray := prog_2_method_5_code
def yX0_count : MethodName := ⟨RX0, "count", "()I"⟩
abbrev cX0_settle : ByteArray := prog_2_method_6_code
def yX0_settle : MethodName := ⟨RX0, "settle", "(III)V"⟩
abbrev cX0_leave : ByteArray := prog_2_method_7_code
def yX0_leave : MethodName := ⟨RX0, "leave", "(I)V"⟩
abbrev cX0_tell : ByteArray := prog_2_method_8_code
def yX0_tell : MethodName := ⟨RX0, "tell", "(II)I"⟩
abbrev cX0_load : ByteArray := prog_2_method_9_code
def yX0_load : MethodName := ⟨RX0, "load", "(II)I"⟩
abbrev cX0_robBar : ByteArray := prog_2_method_10_code
def yX0_robBar : MethodName := ⟨RX0, "robBar", "(II)I"⟩
abbrev cX0_isGuarded : ByteArray := prog_2_method_11_code
def yX0_isGuarded : MethodName := ⟨RX0, "isGuarded", "(I)Z"⟩
abbrev cX0_mayRob : ByteArray := prog_2_method_12_code
def yX0_mayRob : MethodName := ⟨RX0, "mayRob", "(II)Z"⟩
abbrev cX0_canRobNow : ByteArray := prog_2_method_13_code
def yX0_canRobNow : MethodName := ⟨RX0, "canRobNow", "(I)I"⟩
abbrev cX0_mayRobOf : ByteArray := prog_2_method_14_code
def yX0_mayRobOf : MethodName := ⟨RX0, "mayRobOf", "(I)I"⟩
abbrev cX0_thievesOf : ByteArray := prog_2_method_15_code
def yX0_thievesOf : MethodName := ⟨RX0, "thievesOf", "(I)I"⟩
abbrev cX0_catchBar : ByteArray := prog_2_method_16_code
def yX0_catchBar : MethodName := ⟨RX0, "catchBar", "(I)I"⟩
abbrev cX0_actBar : ByteArray := prog_2_method_17_code
def yX0_actBar : MethodName := ⟨RX0, "actBar", "(III)I"⟩
abbrev cX0_tryAct : ByteArray := prog_2_method_18_code
def yX0_tryAct : MethodName := ⟨RX0, "tryAct", "(III)I"⟩
abbrev cX0_rob : ByteArray := prog_2_method_19_code
def yX0_rob : MethodName := ⟨RX0, "rob", "(II)V"⟩
abbrev cX0_giveBack : ByteArray := prog_2_method_20_code
def yX0_giveBack : MethodName := ⟨RX0, "giveBack", "(II)V"⟩
abbrev cX0_endYear : ByteArray := prog_2_method_21_code
def yX0_endYear : MethodName := ⟨RX0, "endYear", "()V"⟩
abbrev cX0_runYear : ByteArray := prog_2_method_22_code
def yX0_runYear : MethodName := ⟨RX0, "runYear", "(II)I"⟩
abbrev cX0_bareTrees : ByteArray := prog_2_method_23_code
def yX0_bareTrees : MethodName := ⟨RX0, "bareTrees", "()I"⟩
abbrev cX0_robbedTrees : ByteArray := prog_2_method_24_code
def yX0_robbedTrees : MethodName := ⟨RX0, "robbedTrees", "()I"⟩
abbrev cX0_greatestHeap : ByteArray := prog_2_method_25_code
def yX0_greatestHeap : MethodName := ⟨RX0, "greatestHeap", "()I"⟩
abbrev cX0_smallerHeaps : ByteArray := prog_2_method_26_code
def yX0_smallerHeaps : MethodName := ⟨RX0, "smallerHeaps", "(I)I"⟩
abbrev cX0_heapsTogether : ByteArray := prog_2_method_27_code
def yX0_heapsTogether : MethodName := ⟨RX0, "heapsTogether", "()I"⟩
abbrev cX0_applesTogether : ByteArray := prog_2_method_28_code
def yX0_applesTogether : MethodName := ⟨RX0, "applesTogether", "()I"⟩
abbrev cX0_wanted : ByteArray := prog_2_method_29_code
def yX0_wanted : MethodName := ⟨RX0, "wanted", "(II)I"⟩
abbrev cX0_wantedTogether : ByteArray := prog_2_method_30_code
def yX0_wantedTogether : MethodName := ⟨RX0, "wantedTogether", "(I)I"⟩
abbrev cX0_addSight : ByteArray := prog_2_method_31_code
def yX0_addSight : MethodName := ⟨RX0, "addSight", "(II)Z"⟩
abbrev cX0_hasSightOf : ByteArray := prog_2_method_32_code
def yX0_hasSightOf : MethodName := ⟨RX0, "hasSightOf", "(I)Z"⟩
abbrev cX0_fitsSights : ByteArray := prog_2_method_33_code
def yX0_fitsSights : MethodName := ⟨RX0, "fitsSights", "(II)Z"⟩
abbrev cX0_holds : ByteArray := prog_2_method_34_code
def yX0_holds : MethodName := ⟨RX0, "holds", "(II)Z"⟩
abbrev cX0_drawnKind : ByteArray := prog_2_method_35_code
def yX0_drawnKind : MethodName := ⟨RX0, "drawnKind", "(I)I"⟩
def RX1 : String := "StolenApples$Nights"
def TX1 : u_T := fun k => match k with
  | 0 => ("StolenApples$Nights", "signs", "[I", true)
  | 1 => ("StolenApples$Nights", "length", "I", false)
  | 2 => ("StolenApples$Nights", "acts", "I", false)
  | _ => ("StolenApples$Nights", "why", "I", false)
def tyX1 : Nat → FieldType := fun k => match k with
  | 0 => .array .int
  | 1 => .int
  | 2 => .int
  | _ => .int
abbrev wsX10 : List Cond := u_ws RX1 TX1 4
theorem nmX1 : ∀ a, a < 4 → ∀ b, b < 4 → a ≠ b → (TX1 a).2.1 ≠ (TX1 b).2.1 := by decide +kernel
theorem tyX1_ok : ∀ k, k < 4 → parseFieldDescriptor (TX1 k).2.2.1 = some (tyX1 k) := by decide +kernel
abbrev cX1_init : ByteArray := prog_3_method_1_code
def yX1_init : MethodName := ⟨RX1, "<init>", "()V"⟩
abbrev cX1_write : ByteArray := prog_3_method_2_code
def yX1_write : MethodName := ⟨RX1, "write", "(I)Z"⟩
abbrev cX1_faultPlace : ByteArray := prog_3_method_3_code
def yX1_faultPlace : MethodName := ⟨RX1, "faultPlace", "()I"⟩
abbrev cX1_runOn : ByteArray := prog_3_method_4_code
def yX1_runOn : MethodName := ⟨RX1, "runOn", "(LStolenApples$Land;)Z"⟩
abbrev cX1_isLetter : ByteArray := prog_3_method_5_code
def yX1_isLetter : MethodName := ⟨RX1, "isLetter", "(I)Z"⟩
abbrev cX1_standsAlone : ByteArray := prog_3_method_6_code
def yX1_standsAlone : MethodName := ⟨RX1, "standsAlone", "(I)Z"⟩
abbrev cX1_endsAct : ByteArray := prog_3_method_7_code
def yX1_endsAct : MethodName := ⟨RX1, "endsAct", "(I)Z"⟩
def RX2 : String := "StolenApples$Paths"
def TX2 : u_T := fun k => match k with
  | 0 => ("StolenApples$Paths", "next", "[I", true)
  | _ => ("StolenApples$Paths", "ends", "[I", true)
def tyX2 : Nat → FieldType := fun k => match k with
  | 0 => .array .int
  | _ => .array .int
abbrev wsX20 : List Cond := u_ws RX2 TX2 2
theorem nmX2 : ∀ a, a < 2 → ∀ b, b < 2 → a ≠ b → (TX2 a).2.1 ≠ (TX2 b).2.1 := by decide +kernel
theorem tyX2_ok : ∀ k, k < 2 → parseFieldDescriptor (TX2 k).2.2.1 = some (tyX2 k) := by decide +kernel
abbrev cX2_init : ByteArray := prog_4_method_1_code
def yX2_init : MethodName := ⟨RX2, "<init>", "()V"⟩
abbrev cX2_longestChain : ByteArray := prog_4_method_2_code
def yX2_longestChain : MethodName := ⟨RX2, "longestChain", "(LStolenApples$Land;II)I"⟩
abbrev cX2_longestRound : ByteArray := prog_4_method_3_code
def yX2_longestRound : MethodName := ⟨RX2, "longestRound", "(LStolenApples$Land;)I"⟩
abbrev cX2_readNext : ByteArray := prog_4_method_4_code
def yX2_readNext : MethodName := ⟨RX2, "readNext", "(LStolenApples$Land;)V"⟩
abbrev cX2_followFrom : ByteArray := prog_4_method_5_code
def yX2_followFrom : MethodName := ⟨RX2, "followFrom", "(I)V"⟩
abbrev cX2_leadsTo : ByteArray := prog_4_method_6_code
def yX2_leadsTo : MethodName := ⟨RX2, "leadsTo", "(II)Z"⟩
abbrev cX2_longestEnding : ByteArray := prog_4_method_7_code
def yX2_longestEnding : MethodName := ⟨RX2, "longestEnding", "(I)I"⟩
def RX3 : String := "StolenApples$Rows"
def TX3 : u_T := fun k => match k with
  | 0 => ("StolenApples$Rows", "ways", "[I", true)
  | 1 => ("StolenApples$Rows", "left", "[I", true)
  | _ => ("StolenApples$Rows", "tally", "[I", true)
def tyX3 : Nat → FieldType := fun k => match k with
  | 0 => .array .int
  | 1 => .array .int
  | _ => .array .int
abbrev wsX30 : List Cond := u_ws RX3 TX3 3
theorem nmX3 : ∀ a, a < 3 → ∀ b, b < 3 → a ≠ b → (TX3 a).2.1 ≠ (TX3 b).2.1 := by decide +kernel
theorem tyX3_ok : ∀ k, k < 3 → parseFieldDescriptor (TX3 k).2.2.1 = some (tyX3 k) := by decide +kernel
abbrev cX3_init : ByteArray := prog_5_method_1_code
def yX3_init : MethodName := ⟨RX3, "<init>", "()V"⟩
abbrev cX3_countWithout : ByteArray := prog_5_method_2_code
def yX3_countWithout : MethodName := ⟨RX3, "countWithout", "(LStolenApples$Land;I)V"⟩
abbrev cX3_fillLeft : ByteArray := prog_5_method_3_code
def yX3_fillLeft : MethodName := ⟨RX3, "fillLeft", "(LStolenApples$Land;I)V"⟩
abbrev cX3_keepFitting : ByteArray := prog_5_method_4_code
def yX3_keepFitting : MethodName := ⟨RX3, "keepFitting", "(LStolenApples$Land;I)V"⟩
abbrev cX3_spread : ByteArray := prog_5_method_5_code
def yX3_spread : MethodName := ⟨RX3, "spread", "()V"⟩
abbrev cX3_total : ByteArray := prog_5_method_6_code
def yX3_total : MethodName := ⟨RX3, "total", "()I"⟩
abbrev cX3_waysWithin : ByteArray := prog_5_method_7_code
def yX3_waysWithin : MethodName := ⟨RX3, "waysWithin", "(I)I"⟩
abbrev cX3_outInSome : ByteArray := prog_5_method_8_code
def yX3_outInSome : MethodName := ⟨RX3, "outInSome", "()I"⟩
abbrev cX3_outInAll : ByteArray := prog_5_method_9_code
def yX3_outInAll : MethodName := ⟨RX3, "outInAll", "()I"⟩
abbrev cX3_mostLeftBy : ByteArray := prog_5_method_10_code
def yX3_mostLeftBy : MethodName := ⟨RX3, "mostLeftBy", "(LStolenApples$Land;I)I"⟩
def RX4 : String := "StolenApples$Turns"
def TX4 : u_T := fun k => match k with
  | 0 => ("StolenApples$Turns", "leads", "[I", true)
  | 1 => ("StolenApples$Turns", "lead", "I", false)
  | _ => ("StolenApples$Turns", "opening", "I", false)
def tyX4 : Nat → FieldType := fun k => match k with
  | 0 => .array .int
  | 1 => .int
  | _ => .int
abbrev wsX40 : List Cond := u_ws RX4 TX4 3
theorem nmX4 : ∀ a, a < 3 → ∀ b, b < 3 → a ≠ b → (TX4 a).2.1 ≠ (TX4 b).2.1 := by decide +kernel
theorem tyX4_ok : ∀ k, k < 3 → parseFieldDescriptor (TX4 k).2.2.1 = some (tyX4 k) := by decide +kernel
abbrev cX4_init : ByteArray := prog_6_method_1_code
def yX4_init : MethodName := ⟨RX4, "<init>", "()V"⟩
abbrev cX4_play : ByteArray := prog_6_method_2_code
def yX4_play : MethodName := ⟨RX4, "play", "(LStolenApples$Land;III)V"⟩
abbrev cX4_takeBest : ByteArray := prog_6_method_3_code
def yX4_takeBest : MethodName := ⟨RX4, "takeBest", "(LStolenApples$Land;II)V"⟩
def RX5 : String := "StolenApples"
def TX5 : u_T := fun k => match k with
  | 0 => ("StolenApples", "land", "LStolenApples$Land;", true)
  | 1 => ("StolenApples", "draft", "LStolenApples$Land;", true)
  | 2 => ("StolenApples", "images", "[LStolenApples$Land;", true)
  | 3 => ("StolenApples", "nights", "LStolenApples$Nights;", true)
  | 4 => ("StolenApples", "paths", "LStolenApples$Paths;", true)
  | 5 => ("StolenApples", "rows", "LStolenApples$Rows;", true)
  | _ => ("StolenApples", "turns", "LStolenApples$Turns;", true)
def tyX5 : Nat → FieldType := fun k => match k with
  | 0 => .object "StolenApples$Land"
  | 1 => .object "StolenApples$Land"
  | 2 => .array (.object "StolenApples$Land")
  | 3 => .object "StolenApples$Nights"
  | 4 => .object "StolenApples$Paths"
  | 5 => .object "StolenApples$Rows"
  | _ => .object "StolenApples$Turns"
abbrev wsX50 : List Cond := u_ws RX5 TX5 7
theorem nmX5 : ∀ a, a < 7 → ∀ b, b < 7 → a ≠ b → (TX5 a).2.1 ≠ (TX5 b).2.1 := by decide +kernel
theorem tyX5_ok : ∀ k, k < 7 → parseFieldDescriptor (TX5 k).2.2.1 = some (tyX5 k) := by decide +kernel
abbrev cX5_init : ByteArray := prog_1_method_1_code
def yX5_init : MethodName := ⟨RX5, "<init>", "()V"⟩
abbrev cX5_neighbour : ByteArray := prog_1_method_2_code
def yX5_neighbour : MethodName := ⟨RX5, "neighbour", "(III)I"⟩
abbrev cX5_move : ByteArray := prog_1_method_3_code
def yX5_move : MethodName := ⟨RX5, "move", "(I)I"⟩
abbrev cX5_frost : ByteArray := prog_1_method_4_code
def yX5_frost : MethodName := ⟨RX5, "frost", "(I)I"⟩
abbrev cX5_say : ByteArray := prog_1_method_5_code
def yX5_say : MethodName := ⟨RX5, "say", "(I)I"⟩
abbrev cX5_wipe : ByteArray := prog_1_method_6_code
def yX5_wipe : MethodName := ⟨RX5, "wipe", "()I"⟩
abbrev cX5_fault : ByteArray := prog_1_method_7_code
def yX5_fault : MethodName := ⟨RX5, "fault", "()I"⟩
abbrev cX5_judge : ByteArray := prog_1_method_8_code
def yX5_judge : MethodName := ⟨RX5, "judge", "(I)I"⟩
abbrev cX5_done : ByteArray := prog_1_method_9_code
def yX5_done : MethodName := ⟨RX5, "done", "()I"⟩
abbrev cX5_state : ByteArray := prog_1_method_10_code
def yX5_state : MethodName := ⟨RX5, "state", "(II)I"⟩
abbrev cX5_behind : ByteArray := prog_1_method_11_code
def yX5_behind : MethodName := ⟨RX5, "behind", "(II)I"⟩
abbrev cX5_trees : ByteArray := prog_1_method_12_code
def yX5_trees : MethodName := ⟨RX5, "trees", "(I)I"⟩
abbrev cX5_may : ByteArray := prog_1_method_13_code
def yX5_may : MethodName := ⟨RX5, "may", "(I)I"⟩
abbrev cX5_safe : ByteArray := prog_1_method_14_code
def yX5_safe : MethodName := ⟨RX5, "safe", "()I"⟩
abbrev cX5_stripped : ByteArray := prog_1_method_15_code
def yX5_stripped : MethodName := ⟨RX5, "stripped", "(I)I"⟩
abbrev cX5_thefts : ByteArray := prog_1_method_16_code
def yX5_thefts : MethodName := ⟨RX5, "thefts", "(II)I"⟩
abbrev cX5_round : ByteArray := prog_1_method_17_code
def yX5_round : MethodName := ⟨RX5, "round", "()I"⟩
abbrev cX5_chain : ByteArray := prog_1_method_18_code
def yX5_chain : MethodName := ⟨RX5, "chain", "(II)I"⟩
abbrev cX5_exchange : ByteArray := prog_1_method_19_code
def yX5_exchange : MethodName := ⟨RX5, "exchange", "(III)I"⟩
abbrev cX5_seen : ByteArray := prog_1_method_20_code
def yX5_seen : MethodName := ⟨RX5, "seen", "(II)I"⟩
abbrev cX5_forget : ByteArray := prog_1_method_21_code
def yX5_forget : MethodName := ⟨RX5, "forget", "()I"⟩
abbrev cX5_boots : ByteArray := prog_1_method_22_code
def yX5_boots : MethodName := ⟨RX5, "boots", "(I)I"⟩
abbrev cX5_look : ByteArray := prog_1_method_23_code
def yX5_look : MethodName := ⟨RX5, "look", "(I)I"⟩
abbrev cX5_duel : ByteArray := prog_1_method_24_code
def yX5_duel : MethodName := ⟨RX5, "duel", "(IIII)I"⟩
abbrev cX5_caught : ByteArray := prog_1_method_25_code
def yX5_caught : MethodName := ⟨RX5, "caught", "(IIIII)J"⟩
abbrev cX5_moons : ByteArray := prog_1_method_26_code
def yX5_moons : MethodName := ⟨RX5, "moons", "(II)I"⟩
abbrev cX5_year : ByteArray := prog_1_method_27_code
def yX5_year : MethodName := ⟨RX5, "year", "(III)I"⟩
abbrev cX5_image : ByteArray := prog_1_method_28_code
def yX5_image : MethodName := ⟨RX5, "image", "(I)I"⟩
abbrev cX5_restore : ByteArray := prog_1_method_29_code
def yX5_restore : MethodName := ⟨RX5, "restore", "(I)I"⟩
abbrev cX5_told : ByteArray := prog_1_method_30_code
def yX5_told : MethodName := ⟨RX5, "told", "(I)I"⟩
abbrev cX5_toldBag : ByteArray := prog_1_method_31_code
def yX5_toldBag : MethodName := ⟨RX5, "toldBag", "(I)I"⟩
abbrev cX5_draftNights : ByteArray := prog_1_method_32_code
def yX5_draftNights : MethodName := ⟨RX5, "draftNights", "()Z"⟩
abbrev cX5_within : ByteArray := prog_1_method_33_code
def yX5_within : MethodName := ⟨RX5, "within", "(III)Z"⟩
abbrev cX5_sharedWithTenths : ByteArray := prog_1_method_34_code
def yX5_sharedWithTenths : MethodName := ⟨RX5, "sharedWithTenths", "(I)I"⟩
abbrev cX5_mostThefts : ByteArray := prog_1_method_35_code
def yX5_mostThefts : MethodName := ⟨RX5, "mostThefts", "(LStolenApples$Land;II)I"⟩
def RX6 : String := "StolenApplesModel"
def TX6 : u_T := fun k => match k with
  | 0 => ("StolenApplesModel", "there", "I", false)
  | 1 => ("StolenApplesModel", "bag", "[I", true)
  | 2 => ("StolenApplesModel", "dogs", "I", false)
  | 3 => ("StolenApplesModel", "lamps", "I", false)
  | 4 => ("StolenApplesModel", "frost", "I", false)
  | 5 => ("StolenApplesModel", "sights", "I", false)
  | 6 => ("StolenApplesModel", "sight", "[I", true)
  | 7 => ("StolenApplesModel", "apples", "[I", true)
  | 8 => ("StolenApplesModel", "heap", "[I", true)
  | 9 => ("StolenApplesModel", "robbed", "[I", true)
  | 10 => ("StolenApplesModel", "lastOf", "[I", true)
  | 11 => ("StolenApplesModel", "outs", "I", false)
  | 12 => ("StolenApplesModel", "signs", "I", false)
  | 13 => ("StolenApplesModel", "pad", "[I", true)
  | 14 => ("StolenApplesModel", "tree", "[I", true)
  | 15 => ("StolenApplesModel", "pile", "[I", true)
  | 16 => ("StolenApplesModel", "stole", "[I", true)
  | 17 => ("StolenApplesModel", "from", "[I", true)
  | 18 => ("StolenApplesModel", "outNow", "I", false)
  | 19 => ("StolenApplesModel", "dogsNow", "I", false)
  | 20 => ("StolenApplesModel", "lampsNow", "I", false)
  | 21 => ("StolenApplesModel", "frostNow", "I", false)
  | 22 => ("StolenApplesModel", "reason", "I", false)
  | 23 => ("StolenApplesModel", "acts", "I", false)
  | 24 => ("StolenApplesModel", "ends", "[Z", true)
  | 25 => ("StolenApplesModel", "rows", "I", false)
  | 26 => ("StolenApplesModel", "some", "I", false)
  | 27 => ("StolenApplesModel", "every", "I", false)
  | 28 => ("StolenApplesModel", "left", "[I", true)
  | 29 => ("StolenApplesModel", "ahead", "[I", true)
  | 30 => ("StolenApplesModel", "image", "[I", true)
  | _ => ("StolenApplesModel", "isKept", "[Z", true)
def tyX6 : Nat → FieldType := fun k => match k with
  | 0 => .int
  | 1 => .array .int
  | 2 => .int
  | 3 => .int
  | 4 => .int
  | 5 => .int
  | 6 => .array .int
  | 7 => .array .int
  | 8 => .array .int
  | 9 => .array .int
  | 10 => .array .int
  | 11 => .int
  | 12 => .int
  | 13 => .array .int
  | 14 => .array .int
  | 15 => .array .int
  | 16 => .array .int
  | 17 => .array .int
  | 18 => .int
  | 19 => .int
  | 20 => .int
  | 21 => .int
  | 22 => .int
  | 23 => .int
  | 24 => .array .boolean
  | 25 => .int
  | 26 => .int
  | 27 => .int
  | 28 => .array .int
  | 29 => .array .int
  | 30 => .array .int
  | _ => .array .boolean
abbrev wsX60 : List Cond := u_ws RX6 TX6 32
theorem nmX6 : ∀ a, a < 32 → ∀ b, b < 32 → a ≠ b → (TX6 a).2.1 ≠ (TX6 b).2.1 := by decide +kernel
theorem tyX6_ok : ∀ k, k < 32 → parseFieldDescriptor (TX6 k).2.2.1 = some (tyX6 k) := by decide +kernel
abbrev cX6_init : ByteArray := prog_8_method_1_code
def yX6_init : MethodName := ⟨RX6, "<init>", "()V"⟩
abbrev cX6_in : ByteArray := prog_8_method_2_code
def yX6_in : MethodName := ⟨RX6, "in", "(III)Z"⟩
abbrev cX6_has : ByteArray := prog_8_method_3_code
def yX6_has : MethodName := ⟨RX6, "has", "(II)Z"⟩
abbrev cX6_bits : ByteArray := prog_8_method_4_code
def yX6_bits : MethodName := ⟨RX6, "bits", "(I)I"⟩
abbrev cX6_isThere : ByteArray := prog_8_method_5_code
def yX6_isThere : MethodName := ⟨RX6, "isThere", "(I)Z"⟩
abbrev cX6_neighbour : ByteArray := prog_8_method_6_code
def yX6_neighbour : MethodName := ⟨RX6, "neighbour", "(III)I"⟩
abbrev cX6_move : ByteArray := prog_8_method_7_code
def yX6_move : MethodName := ⟨RX6, "move", "(I)I"⟩
abbrev cX6_frost : ByteArray := prog_8_method_8_code
def yX6_frost : MethodName := ⟨RX6, "frost", "(I)I"⟩
abbrev cX6_say : ByteArray := prog_8_method_9_code
def yX6_say : MethodName := ⟨RX6, "say", "(I)I"⟩
abbrev cX6_wipe : ByteArray := prog_8_method_10_code
def yX6_wipe : MethodName := ⟨RX6, "wipe", "()I"⟩
abbrev cX6_isLetter : ByteArray := prog_8_method_11_code
def yX6_isLetter : MethodName := ⟨RX6, "isLetter", "(I)Z"⟩
abbrev cX6_faultOf : ByteArray := prog_8_method_12_code
def yX6_faultOf : MethodName := ⟨RX6, "faultOf", "()I"⟩
abbrev cX6_fault : ByteArray := prog_8_method_13_code
def yX6_fault : MethodName := ⟨RX6, "fault", "()I"⟩
abbrev cX6_asNow : ByteArray := prog_8_method_14_code
def yX6_asNow : MethodName := ⟨RX6, "asNow", "()V"⟩
abbrev cX6_bar : ByteArray := prog_8_method_15_code
def yX6_bar : MethodName := ⟨RX6, "bar", "(II)I"⟩
abbrev cX6_whyNot : ByteArray := prog_8_method_16_code
def yX6_whyNot : MethodName := ⟨RX6, "whyNot", "(II)I"⟩
abbrev cX6_takes : ByteArray := prog_8_method_17_code
def yX6_takes : MethodName := ⟨RX6, "takes", "(II)I"⟩
abbrev cX6_rob : ByteArray := prog_8_method_18_code
def yX6_rob : MethodName := ⟨RX6, "rob", "(II)V"⟩
abbrev cX6_whyNotCaught : ByteArray := prog_8_method_19_code
def yX6_whyNotCaught : MethodName := ⟨RX6, "whyNotCaught", "(I)I"⟩
abbrev cX6_caughtNow : ByteArray := prog_8_method_20_code
def yX6_caughtNow : MethodName := ⟨RX6, "caughtNow", "(I)V"⟩
abbrev cX6_nobodyOut : ByteArray := prog_8_method_21_code
def yX6_nobodyOut : MethodName := ⟨RX6, "nobodyOut", "()V"⟩
abbrev cX6_act : ByteArray := prog_8_method_22_code
def yX6_act : MethodName := ⟨RX6, "act", "(II)I"⟩
abbrev cX6_endNight : ByteArray := prog_8_method_23_code
def yX6_endNight : MethodName := ⟨RX6, "endNight", "()I"⟩
abbrev cX6_goNights : ByteArray := prog_8_method_24_code
def yX6_goNights : MethodName := ⟨RX6, "goNights", "()I"⟩
abbrev cX6_judge : ByteArray := prog_8_method_25_code
def yX6_judge : MethodName := ⟨RX6, "judge", "(I)I"⟩
abbrev cX6_barOfNights : ByteArray := prog_8_method_26_code
def yX6_barOfNights : MethodName := ⟨RX6, "barOfNights", "()I"⟩
abbrev cX6_done : ByteArray := prog_8_method_27_code
def yX6_done : MethodName := ⟨RX6, "done", "()I"⟩
abbrev cX6_stateNow : ByteArray := prog_8_method_28_code
def yX6_stateNow : MethodName := ⟨RX6, "stateNow", "(II)I"⟩
abbrev cX6_state : ByteArray := prog_8_method_29_code
def yX6_state : MethodName := ⟨RX6, "state", "(II)I"⟩
abbrev cX6_behind : ByteArray := prog_8_method_30_code
def yX6_behind : MethodName := ⟨RX6, "behind", "(II)I"⟩
abbrev cX6_trees : ByteArray := prog_8_method_31_code
def yX6_trees : MethodName := ⟨RX6, "trees", "(I)I"⟩
abbrev cX6_may : ByteArray := prog_8_method_32_code
def yX6_may : MethodName := ⟨RX6, "may", "(I)I"⟩
abbrev cX6_mayRob : ByteArray := prog_8_method_33_code
def yX6_mayRob : MethodName := ⟨RX6, "mayRob", "(I)I"⟩
abbrev cX6_safe : ByteArray := prog_8_method_34_code
def yX6_safe : MethodName := ⟨RX6, "safe", "()I"⟩
abbrev cX6_wanted : ByteArray := prog_8_method_35_code
def yX6_wanted : MethodName := ⟨RX6, "wanted", "(II)I"⟩
abbrev cX6_mostThefts : ByteArray := prog_8_method_36_code
def yX6_mostThefts : MethodName := ⟨RX6, "mostThefts", "(II)I"⟩
abbrev cX6_stripped : ByteArray := prog_8_method_37_code
def yX6_stripped : MethodName := ⟨RX6, "stripped", "(I)I"⟩
abbrev cX6_thefts : ByteArray := prog_8_method_38_code
def yX6_thefts : MethodName := ⟨RX6, "thefts", "(II)I"⟩
abbrev cX6_layChains : ByteArray := prog_8_method_39_code
def yX6_layChains : MethodName := ⟨RX6, "layChains", "(I)V"⟩
abbrev cX6_round : ByteArray := prog_8_method_40_code
def yX6_round : MethodName := ⟨RX6, "round", "()I"⟩
abbrev cX6_chain : ByteArray := prog_8_method_41_code
def yX6_chain : MethodName := ⟨RX6, "chain", "(II)I"⟩
abbrev cX6_exchange : ByteArray := prog_8_method_42_code
def yX6_exchange : MethodName := ⟨RX6, "exchange", "(III)I"⟩
abbrev cX6_seen : ByteArray := prog_8_method_43_code
def yX6_seen : MethodName := ⟨RX6, "seen", "(II)I"⟩
abbrev cX6_forget : ByteArray := prog_8_method_44_code
def yX6_forget : MethodName := ⟨RX6, "forget", "()I"⟩
abbrev cX6_layBoots : ByteArray := prog_8_method_45_code
def yX6_layBoots : MethodName := ⟨RX6, "layBoots", "()V"⟩
abbrev cX6_tryBoots : ByteArray := prog_8_method_46_code
def yX6_tryBoots : MethodName := ⟨RX6, "tryBoots", "(I)V"⟩
abbrev cX6_boots : ByteArray := prog_8_method_47_code
def yX6_boots : MethodName := ⟨RX6, "boots", "(I)I"⟩
abbrev cX6_look : ByteArray := prog_8_method_48_code
def yX6_look : MethodName := ⟨RX6, "look", "(I)I"⟩
abbrev cX6_worth : ByteArray := prog_8_method_49_code
def yX6_worth : MethodName := ⟨RX6, "worth", "(II)I"⟩
abbrev cX6_duel : ByteArray := prog_8_method_50_code
def yX6_duel : MethodName := ⟨RX6, "duel", "(IIII)I"⟩
abbrev cX6_caught : ByteArray := prog_8_method_51_code
def yX6_caught : MethodName := ⟨RX6, "caught", "(IIIII)J"⟩
abbrev cX6_moons : ByteArray := prog_8_method_52_code
def yX6_moons : MethodName := ⟨RX6, "moons", "(II)I"⟩
abbrev cX6_year : ByteArray := prog_8_method_53_code
def yX6_year : MethodName := ⟨RX6, "year", "(III)I"⟩
abbrev cX6_image : ByteArray := prog_8_method_54_code
def yX6_image : MethodName := ⟨RX6, "image", "(I)I"⟩
abbrev cX6_restore : ByteArray := prog_8_method_55_code
def yX6_restore : MethodName := ⟨RX6, "restore", "(I)I"⟩
abbrev cX6_told : ByteArray := prog_8_method_56_code
def yX6_told : MethodName := ⟨RX6, "told", "(I)I"⟩
def RJ6 : String := "java/lang/Integer"
def TJ6 : u_T := fun k => match k with
  | _ => ("", "", "", false)
def tyJ6 : Nat → FieldType := fun k => match k with
  | _ => .int
abbrev wsJ60 : List Cond := u_ws RJ6 TJ6 0
abbrev cJ6_bitCount_0f7a4 : ByteArray := prog_9_method_49_code
def yJ6_bitCount_0f7a4 : MethodName := ⟨RJ6, "bitCount", "(I)I"⟩
def RJ9 : String := "java/lang/Math"
def TJ9 : u_T := fun k => match k with
  | _ => ("", "", "", false)
def tyJ9 : Nat → FieldType := fun k => match k with
  | _ => .int
abbrev wsJ90 : List Cond := u_ws RJ9 TJ9 0
abbrev cJ9_max_7cf53 : ByteArray := prog_10_method_65_code
def yJ9_max_7cf53 : MethodName := ⟨RJ9, "max", "(II)I"⟩
abbrev cJ9_min_7cf53 : ByteArray := prog_10_method_69_code
def yJ9_min_7cf53 : MethodName := ⟨RJ9, "min", "(II)I"⟩
def RJ10 : String := "java/lang/System"
def TJ10 : u_T := fun k => match k with
  | _ => ("", "", "", false)
def tyJ10 : Nat → FieldType := fun k => match k with
  | _ => .int
abbrev wsJ100 : List Cond := u_ws RJ10 TJ10 0
def RJ7 : String := "java/util/Arrays"
def TJ7 : u_T := fun k => match k with
  | _ => ("", "", "", false)
def tyJ7 : Nat → FieldType := fun k => match k with
  | _ => .int
abbrev wsJ70 : List Cond := u_ws RJ7 TJ7 0
abbrev cJ7_fill_53178 : ByteArray := prog_12_method_103_code
def yJ7_fill_53178 : MethodName := ⟨RJ7, "fill", "([II)V"⟩
def RL : String := "StolenApplesLaw"
abbrev cL_law : ByteArray := code
def yL_law : MethodName := ⟨RL, "law", "([I)Z"⟩
abbrev vwCl : List vw_C := [(RX0, TX0, 13), (RX1, TX1, 4), (RX2, TX2, 2), (RX3, TX3, 3), (RX4, TX4, 3), (RX5, TX5, 7), (RX6, TX6, 32)]
/-- the words of the tables that a call hands on -/
def gtbl : List Cond := lw_tbl.filter goodWord
theorem gt_mem {w : Cond} (h : w ∈ tables_1) (hg : goodWord w = true) : w ∈ gtbl := List.mem_filter.mpr ⟨List.mem_append_right _ h, hg⟩
theorem gt_good : ∀ w ∈ gtbl, goodWord w = true := fun _ h => (List.mem_filter.mp h).2
theorem gt_tbl : ∀ w ∈ gtbl, w ∈ lw_tbl := fun _ h => (List.mem_filter.mp h).1
def nestL : List (String × Nat × MethodName × String) := [("StolenApples", (11 : Nat), ({ cls := "StolenApples$Land", name := "<init>", desc := "()V" } : Jvm.MethodName), "StolenApples"), ("StolenApples", (25 : Nat), ({ cls := "StolenApples$Nights", name := "<init>", desc := "()V" } : Jvm.MethodName), "StolenApples"), ("StolenApples", (32 : Nat), ({ cls := "StolenApples$Paths", name := "<init>", desc := "()V" } : Jvm.MethodName), "StolenApples"), ("StolenApples", (39 : Nat), ({ cls := "StolenApples$Rows", name := "<init>", desc := "()V" } : Jvm.MethodName), "StolenApples"), ("StolenApples", (46 : Nat), ({ cls := "StolenApples$Turns", name := "<init>", desc := "()V" } : Jvm.MethodName), "StolenApples"), ("StolenApples$Nights", (41 : Nat), ({ cls := "StolenApples", name := "within", desc := "(III)Z" } : Jvm.MethodName), "StolenApples"), ("StolenApples$Rows", (69 : Nat), ({ cls := "StolenApples", name := "within", desc := "(III)Z" } : Jvm.MethodName), "StolenApples")]
def NW (s : State) : Prop := (∀ q ∈ nestL, va_Nw (.methodLinkNest q.1 q.2.1 q.2.2.1 q.2.2.2) s) ∧ va_AO RX0 s
theorem iwX0 : ∀ w ∈ wsX00, w ∈ gtbl := by decide +kernel
theorem iwX1 : ∀ w ∈ wsX10, w ∈ gtbl := by decide +kernel
theorem iwX2 : ∀ w ∈ wsX20, w ∈ gtbl := by decide +kernel
theorem iwX3 : ∀ w ∈ wsX30, w ∈ gtbl := by decide +kernel
theorem iwX4 : ∀ w ∈ wsX40, w ∈ gtbl := by decide +kernel
theorem iwX5 : ∀ w ∈ wsX50, w ∈ gtbl := by decide +kernel
theorem iwX6 : ∀ w ∈ wsX60, w ∈ gtbl := by decide +kernel
