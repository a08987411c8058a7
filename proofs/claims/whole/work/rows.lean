section
-- ===== PART A: goes FIRST, ahead of the names: the tables' words, and 'selects' of the private methods out of them =====
/-- a private method of a class that the tables say can be made, by its rows of tables_1 -/
def lw_okq (q : MethodName × Nat) : Prop := (q.1.cls ≠ "java/lang/invoke/MethodHandle" ∧ q.1.cls ≠ "java/lang/invoke/VarHandle") ∧ Cond.instantiable q.1.cls q.2 ∈ tables_1 ∧ Cond.privateMethod q.1 ∈ tables_1 ∧ Cond.instanceMethod q.1 ∈ tables_1
theorem lw_p0 : lw_okq (⟨"StolenApples", "draftNights", "()Z"⟩, 7) := ⟨⟨by decide +kernel, by decide +kernel⟩, List.mem_of_getElem? (i := 13) (by decide +kernel), List.mem_of_getElem? (i := 241) (by decide +kernel), List.mem_of_getElem? (i := 242) (by decide +kernel)⟩
theorem lw_p1 : lw_okq (⟨"StolenApples", "toldBag", "(I)I"⟩, 7) := ⟨⟨by decide +kernel, by decide +kernel⟩, List.mem_of_getElem? (i := 13) (by decide +kernel), List.mem_of_getElem? (i := 570) (by decide +kernel), List.mem_of_getElem? (i := 571) (by decide +kernel)⟩
theorem lw_p2 : lw_okq (⟨"StolenApplesModel", "isThere", "(I)Z"⟩, 32) := ⟨⟨by decide +kernel, by decide +kernel⟩, List.mem_of_getElem? (i := 574) (by decide +kernel), List.mem_of_getElem? (i := 695) (by decide +kernel), List.mem_of_getElem? (i := 696) (by decide +kernel)⟩
theorem lw_p3 : lw_okq (⟨"StolenApplesModel", "faultOf", "()I"⟩, 32) := ⟨⟨by decide +kernel, by decide +kernel⟩, List.mem_of_getElem? (i := 574) (by decide +kernel), List.mem_of_getElem? (i := 715) (by decide +kernel), List.mem_of_getElem? (i := 716) (by decide +kernel)⟩
theorem lw_p4 : lw_okq (⟨"StolenApplesModel", "goNights", "()I"⟩, 32) := ⟨⟨by decide +kernel, by decide +kernel⟩, List.mem_of_getElem? (i := 574) (by decide +kernel), List.mem_of_getElem? (i := 726) (by decide +kernel), List.mem_of_getElem? (i := 727) (by decide +kernel)⟩
theorem lw_p5 : lw_okq (⟨"StolenApplesModel", "asNow", "()V"⟩, 32) := ⟨⟨by decide +kernel, by decide +kernel⟩, List.mem_of_getElem? (i := 574) (by decide +kernel), List.mem_of_getElem? (i := 730) (by decide +kernel), List.mem_of_getElem? (i := 731) (by decide +kernel)⟩
theorem lw_p6 : lw_okq (⟨"StolenApplesModel", "endNight", "()I"⟩, 32) := ⟨⟨by decide +kernel, by decide +kernel⟩, List.mem_of_getElem? (i := 574) (by decide +kernel), List.mem_of_getElem? (i := 734) (by decide +kernel), List.mem_of_getElem? (i := 735) (by decide +kernel)⟩
theorem lw_p7 : lw_okq (⟨"StolenApplesModel", "nobodyOut", "()V"⟩, 32) := ⟨⟨by decide +kernel, by decide +kernel⟩, List.mem_of_getElem? (i := 574) (by decide +kernel), List.mem_of_getElem? (i := 738) (by decide +kernel), List.mem_of_getElem? (i := 739) (by decide +kernel)⟩
theorem lw_p8 : lw_okq (⟨"StolenApplesModel", "act", "(II)I"⟩, 32) := ⟨⟨by decide +kernel, by decide +kernel⟩, List.mem_of_getElem? (i := 574) (by decide +kernel), List.mem_of_getElem? (i := 742) (by decide +kernel), List.mem_of_getElem? (i := 743) (by decide +kernel)⟩
theorem lw_p9 : lw_okq (⟨"StolenApplesModel", "whyNot", "(II)I"⟩, 32) := ⟨⟨by decide +kernel, by decide +kernel⟩, List.mem_of_getElem? (i := 574) (by decide +kernel), List.mem_of_getElem? (i := 746) (by decide +kernel), List.mem_of_getElem? (i := 747) (by decide +kernel)⟩
theorem lw_p10 : lw_okq (⟨"StolenApplesModel", "bar", "(II)I"⟩, 32) := ⟨⟨by decide +kernel, by decide +kernel⟩, List.mem_of_getElem? (i := 574) (by decide +kernel), List.mem_of_getElem? (i := 750) (by decide +kernel), List.mem_of_getElem? (i := 751) (by decide +kernel)⟩
theorem lw_p11 : lw_okq (⟨"StolenApplesModel", "rob", "(II)V"⟩, 32) := ⟨⟨by decide +kernel, by decide +kernel⟩, List.mem_of_getElem? (i := 574) (by decide +kernel), List.mem_of_getElem? (i := 754) (by decide +kernel), List.mem_of_getElem? (i := 755) (by decide +kernel)⟩
theorem lw_p12 : lw_okq (⟨"StolenApplesModel", "takes", "(II)I"⟩, 32) := ⟨⟨by decide +kernel, by decide +kernel⟩, List.mem_of_getElem? (i := 574) (by decide +kernel), List.mem_of_getElem? (i := 758) (by decide +kernel), List.mem_of_getElem? (i := 759) (by decide +kernel)⟩
theorem lw_p13 : lw_okq (⟨"StolenApplesModel", "whyNotCaught", "(I)I"⟩, 32) := ⟨⟨by decide +kernel, by decide +kernel⟩, List.mem_of_getElem? (i := 574) (by decide +kernel), List.mem_of_getElem? (i := 762) (by decide +kernel), List.mem_of_getElem? (i := 763) (by decide +kernel)⟩
theorem lw_p14 : lw_okq (⟨"StolenApplesModel", "caughtNow", "(I)V"⟩, 32) := ⟨⟨by decide +kernel, by decide +kernel⟩, List.mem_of_getElem? (i := 574) (by decide +kernel), List.mem_of_getElem? (i := 766) (by decide +kernel), List.mem_of_getElem? (i := 767) (by decide +kernel)⟩
theorem lw_p15 : lw_okq (⟨"StolenApplesModel", "barOfNights", "()I"⟩, 32) := ⟨⟨by decide +kernel, by decide +kernel⟩, List.mem_of_getElem? (i := 574) (by decide +kernel), List.mem_of_getElem? (i := 774) (by decide +kernel), List.mem_of_getElem? (i := 775) (by decide +kernel)⟩
def lw_privs_1 : List (MethodName × Nat) := [(⟨"StolenApples", "draftNights", "()Z"⟩, 7), (⟨"StolenApples", "toldBag", "(I)I"⟩, 7), (⟨"StolenApplesModel", "isThere", "(I)Z"⟩, 32), (⟨"StolenApplesModel", "faultOf", "()I"⟩, 32), (⟨"StolenApplesModel", "goNights", "()I"⟩, 32), (⟨"StolenApplesModel", "asNow", "()V"⟩, 32), (⟨"StolenApplesModel", "endNight", "()I"⟩, 32), (⟨"StolenApplesModel", "nobodyOut", "()V"⟩, 32), (⟨"StolenApplesModel", "act", "(II)I"⟩, 32), (⟨"StolenApplesModel", "whyNot", "(II)I"⟩, 32), (⟨"StolenApplesModel", "bar", "(II)I"⟩, 32), (⟨"StolenApplesModel", "rob", "(II)V"⟩, 32), (⟨"StolenApplesModel", "takes", "(II)I"⟩, 32), (⟨"StolenApplesModel", "whyNotCaught", "(I)I"⟩, 32), (⟨"StolenApplesModel", "caughtNow", "(I)V"⟩, 32), (⟨"StolenApplesModel", "barOfNights", "()I"⟩, 32)]
theorem lw_r1 : ∀ q ∈ lw_privs_1, lw_okq q := List.forall_mem_cons.mpr ⟨lw_p0, List.forall_mem_cons.mpr ⟨lw_p1, List.forall_mem_cons.mpr ⟨lw_p2, List.forall_mem_cons.mpr ⟨lw_p3, List.forall_mem_cons.mpr ⟨lw_p4, List.forall_mem_cons.mpr ⟨lw_p5, List.forall_mem_cons.mpr ⟨lw_p6, List.forall_mem_cons.mpr ⟨lw_p7, List.forall_mem_cons.mpr ⟨lw_p8, List.forall_mem_cons.mpr ⟨lw_p9, List.forall_mem_cons.mpr ⟨lw_p10, List.forall_mem_cons.mpr ⟨lw_p11, List.forall_mem_cons.mpr ⟨lw_p12, List.forall_mem_cons.mpr ⟨lw_p13, List.forall_mem_cons.mpr ⟨lw_p14, List.forall_mem_cons.mpr ⟨lw_p15, fun _ h => absurd h List.not_mem_nil⟩⟩⟩⟩⟩⟩⟩⟩⟩⟩⟩⟩⟩⟩⟩⟩
theorem lw_p16 : lw_okq (⟨"StolenApplesModel", "stateNow", "(II)I"⟩, 32) := ⟨⟨by decide +kernel, by decide +kernel⟩, List.mem_of_getElem? (i := 574) (by decide +kernel), List.mem_of_getElem? (i := 782) (by decide +kernel), List.mem_of_getElem? (i := 783) (by decide +kernel)⟩
theorem lw_p17 : lw_okq (⟨"StolenApplesModel", "mayRob", "(I)I"⟩, 32) := ⟨⟨by decide +kernel, by decide +kernel⟩, List.mem_of_getElem? (i := 574) (by decide +kernel), List.mem_of_getElem? (i := 802) (by decide +kernel), List.mem_of_getElem? (i := 803) (by decide +kernel)⟩
theorem lw_p18 : lw_okq (⟨"StolenApplesModel", "wanted", "(II)I"⟩, 32) := ⟨⟨by decide +kernel, by decide +kernel⟩, List.mem_of_getElem? (i := 574) (by decide +kernel), List.mem_of_getElem? (i := 810) (by decide +kernel), List.mem_of_getElem? (i := 811) (by decide +kernel)⟩
theorem lw_p19 : lw_okq (⟨"StolenApplesModel", "mostThefts", "(II)I"⟩, 32) := ⟨⟨by decide +kernel, by decide +kernel⟩, List.mem_of_getElem? (i := 574) (by decide +kernel), List.mem_of_getElem? (i := 814) (by decide +kernel), List.mem_of_getElem? (i := 815) (by decide +kernel)⟩
theorem lw_p20 : lw_okq (⟨"StolenApplesModel", "layChains", "(I)V"⟩, 32) := ⟨⟨by decide +kernel, by decide +kernel⟩, List.mem_of_getElem? (i := 574) (by decide +kernel), List.mem_of_getElem? (i := 827) (by decide +kernel), List.mem_of_getElem? (i := 828) (by decide +kernel)⟩
theorem lw_p21 : lw_okq (⟨"StolenApplesModel", "layBoots", "()V"⟩, 32) := ⟨⟨by decide +kernel, by decide +kernel⟩, List.mem_of_getElem? (i := 574) (by decide +kernel), List.mem_of_getElem? (i := 851) (by decide +kernel), List.mem_of_getElem? (i := 852) (by decide +kernel)⟩
theorem lw_p22 : lw_okq (⟨"StolenApplesModel", "tryBoots", "(I)V"⟩, 32) := ⟨⟨by decide +kernel, by decide +kernel⟩, List.mem_of_getElem? (i := 574) (by decide +kernel), List.mem_of_getElem? (i := 856) (by decide +kernel), List.mem_of_getElem? (i := 857) (by decide +kernel)⟩
theorem lw_p23 : lw_okq (⟨"StolenApplesModel", "worth", "(II)I"⟩, 32) := ⟨⟨by decide +kernel, by decide +kernel⟩, List.mem_of_getElem? (i := 574) (by decide +kernel), List.mem_of_getElem? (i := 869) (by decide +kernel), List.mem_of_getElem? (i := 870) (by decide +kernel)⟩
def lw_privs_2 : List (MethodName × Nat) := [(⟨"StolenApplesModel", "stateNow", "(II)I"⟩, 32), (⟨"StolenApplesModel", "mayRob", "(I)I"⟩, 32), (⟨"StolenApplesModel", "wanted", "(II)I"⟩, 32), (⟨"StolenApplesModel", "mostThefts", "(II)I"⟩, 32), (⟨"StolenApplesModel", "layChains", "(I)V"⟩, 32), (⟨"StolenApplesModel", "layBoots", "()V"⟩, 32), (⟨"StolenApplesModel", "tryBoots", "(I)V"⟩, 32), (⟨"StolenApplesModel", "worth", "(II)I"⟩, 32)]
theorem lw_r2 : ∀ q ∈ lw_privs_2, lw_okq q := List.forall_mem_cons.mpr ⟨lw_p16, List.forall_mem_cons.mpr ⟨lw_p17, List.forall_mem_cons.mpr ⟨lw_p18, List.forall_mem_cons.mpr ⟨lw_p19, List.forall_mem_cons.mpr ⟨lw_p20, List.forall_mem_cons.mpr ⟨lw_p21, List.forall_mem_cons.mpr ⟨lw_p22, List.forall_mem_cons.mpr ⟨lw_p23, fun _ h => absurd h List.not_mem_nil⟩⟩⟩⟩⟩⟩⟩⟩
def lw_privs : List (MethodName × Nat) := lw_privs_1 ++ (lw_privs_2)
def lw_tbl : List Cond := k2_sels lw_privs ++ tables_1
theorem lw_privs_ok : ∀ q ∈ lw_privs, lw_okq q := by
  show ∀ q ∈ lw_privs_1 ++ (lw_privs_2), lw_okq q
  exact List.forall_mem_append.mpr ⟨lw_r1, lw_r2⟩
def RX0 : String := "StolenApples$Land"
def TX0 : u_T := fun k => match k with
  | 0 => ("StolenApples$Land", "apples", "[I", true)
  | 1 => ("StolenApples$Land", "bags", "[I", true)
  | 2 => ("StolenApples$Land", "heaps", "[I", true)
  | 3 => ("StolenApples$Land", "robbed", "[I", true)
  | 4 => ("StolenApples$Land", "lastRobbed", "[I", true)
  | 5 => ("StolenApples$Land", "sightTrees", "[I", true)
  | 6 => ("StolenApples$Land", "sightApples", "[I", true)
  | 7 => ("StolenApples$Land", "sights", "I", false)
  | 8 => ("StolenApples$Land", "here", "I", false)
  | 9 => ("StolenApples$Land", "out", "I", false)
  | 10 => ("StolenApples$Land", "dogs", "I", false)
  | 11 => ("StolenApples$Land", "lamps", "I", false)
  | _ => ("StolenApples$Land", "frost", "I", false)
def tyX0 : Nat → FieldType := fun k => match k with
  | 0 => .array .int
  | 1 => .array .int
  | 2 => .array .int
  | 3 => .array .int
  | 4 => .array .int
  | 5 => .array .int
  | 6 => .array .int
  | 7 => .int
  | 8 => .int
  | 9 => .int
  | 10 => .int
  | 11 => .int
  | _ => .int
abbrev wsX00 : List Cond := u_ws RX0 TX0 13
theorem nmX0 : ∀ a, a < 13 → ∀ b, b < 13 → a ≠ b → (TX0 a).2.1 ≠ (TX0 b).2.1 := by decide +kernel
theorem tyX0_ok : ∀ k, k < 13 → parseFieldDescriptor (TX0 k).2.2.1 = some (tyX0 k) := by decide +kernel
abbrev cX0_init : ByteArray := prog_2_method_1_code
def yX0_init : MethodName := ⟨RX0, "<init>", "()V"⟩
abbrev cX0_become : ByteArray := prog_2_method_2_code
def yX0_become : MethodName := ⟨RX0, "become", "(LStolenApples$Land;)V"⟩
abbrev cX0_has : ByteArray := prog_2_method_3_code
def yX0_has : MethodName := ⟨RX0, "has", "(I)Z"⟩
abbrev cX0_hasTwo : ByteArray := prog_2_method_4_code
def yX0_hasTwo : MethodName := ⟨RX0, "hasTwo", "(II)Z"⟩
abbrev cX0_count : ByteArray := prog_2_method_5_code
def yX0_count : MethodName := ⟨RX0, "count", "()I"⟩
abbrev cX0_settle : ByteArray := prog_2_method_6_code
def yX0_settle : MethodName := ⟨RX0, "settle", "(III)V"⟩
abbrev cX0_leave : ByteArray := prog_2_method_7_code
def yX0_leave : MethodName := ⟨RX0, "leave", "(I)V"⟩
abbrev cX0_tell : ByteArray := prog_2_method_8_code
def yX0_tell : MethodName := ⟨RX0, "tell", "(II)I"⟩
abbrev cX0_load : ByteArray := prog_2_method_9_code
def yX0_load : MethodName := ⟨RX0, "load", "(II)I"⟩
abbrev cX0_robBar : ByteArray := prog_2_method_10_code
def yX0_robBar : MethodName := ⟨RX0, "robBar", "(II)I"⟩
abbrev cX0_isGuarded : ByteArray := prog_2_method_11_code
def yX0_isGuarded : MethodName := ⟨RX0, "isGuarded", "(I)Z"⟩
abbrev cX0_mayRob : ByteArray := prog_2_method_12_code
def yX0_mayRob : MethodName := ⟨RX0, "mayRob", "(II)Z"⟩
abbrev cX0_canRobNow : ByteArray := prog_2_method_13_code
def yX0_canRobNow : MethodName := ⟨RX0, "canRobNow", "(I)I"⟩
abbrev cX0_mayRobOf : ByteArray := prog_2_method_14_code
def yX0_mayRobOf : MethodName := ⟨RX0, "mayRobOf", "(I)I"⟩
abbrev cX0_thievesOf : ByteArray := prog_2_method_15_code
def yX0_thievesOf : MethodName := ⟨RX0, "thievesOf", "(I)I"⟩
abbrev cX0_catchBar : ByteArray := prog_2_method_16_code
def yX0_catchBar : MethodName := ⟨RX0, "catchBar", "(I)I"⟩
abbrev cX0_actBar : ByteArray := prog_2_method_17_code
def yX0_actBar : MethodName := ⟨RX0, "actBar", "(III)I"⟩
abbrev cX0_tryAct : ByteArray := prog_2_method_18_code
def yX0_tryAct : MethodName := ⟨RX0, "tryAct", "(III)I"⟩
abbrev cX0_rob : ByteArray := prog_2_method_19_code
def yX0_rob : MethodName := ⟨RX0, "rob", "(II)V"⟩
abbrev cX0_giveBack : ByteArray := prog_2_method_20_code
def yX0_giveBack : MethodName := ⟨RX0, "giveBack", "(II)V"⟩
abbrev cX0_endYear : ByteArray := prog_2_method_21_code
def yX0_endYear : MethodName := ⟨RX0, "endYear", "()V"⟩
abbrev cX0_runYear : ByteArray := prog_2_method_22_code
def yX0_runYear : MethodName := ⟨RX0, "runYear", "(II)I"⟩
abbrev cX0_bareTrees : ByteArray := prog_2_method_23_code
def yX0_bareTrees : MethodName := ⟨RX0, "bareTrees", "()I"⟩
abbrev cX0_robbedTrees : ByteArray := prog_2_method_24_code
def yX0_robbedTrees : MethodName := ⟨RX0, "robbedTrees", "()I"⟩
abbrev cX0_greatestHeap : ByteArray := prog_2_method_25_code
def yX0_greatestHeap : MethodName := ⟨RX0, "greatestHeap", "()I"⟩
abbrev cX0_smallerHeaps : ByteArray := prog_2_method_26_code
def yX0_smallerHeaps : MethodName := ⟨RX0, "smallerHeaps", "(I)I"⟩
abbrev cX0_heapsTogether : ByteArray := prog_2_method_27_code
def yX0_heapsTogether : MethodName := ⟨RX0, "heapsTogether", "()I"⟩
abbrev cX0_applesTogether : ByteArray := prog_2_method_28_code
def yX0_applesTogether : MethodName := ⟨RX0, "applesTogether", "()I"⟩
abbrev cX0_wanted : ByteArray := prog_2_method_29_code
def yX0_wanted : MethodName := ⟨RX0, "wanted", "(II)I"⟩
abbrev cX0_wantedTogether : ByteArray := prog_2_method_30_code
def yX0_wantedTogether : MethodName := ⟨RX0, "wantedTogether", "(I)I"⟩
abbrev cX0_addSight : ByteArray := prog_2_method_31_code
def yX0_addSight : MethodName := ⟨RX0, "addSight", "(II)Z"⟩
abbrev cX0_hasSightOf : ByteArray := prog_2_method_32_code
def yX0_hasSightOf : MethodName := ⟨RX0, "hasSightOf", "(I)Z"⟩
abbrev cX0_fitsSights : ByteArray := prog_2_method_33_code
def yX0_fitsSights : MethodName := ⟨RX0, "fitsSights", "(II)Z"⟩
abbrev cX0_holds : ByteArray := prog_2_method_34_code
def yX0_holds : MethodName := ⟨RX0, "holds", "(II)Z"⟩
abbrev cX0_drawnKind : ByteArray := prog_2_method_35_code
def yX0_drawnKind : MethodName := ⟨RX0, "drawnKind", "(I)I"⟩
def RX1 : String := "StolenApples$Nights"
def TX1 : u_T := fun k => match k with
  | 0 => ("StolenApples$Nights", "signs", "[I", true)
  | 1 => ("StolenApples$Nights", "length", "I", false)
  | 2 => ("StolenApples$Nights", "acts", "I", false)
  | _ => ("StolenApples$Nights", "why", "I", false)
def tyX1 : Nat → FieldType := fun k => match k with
  | 0 => .array .int
  | 1 => .int
  | 2 => .int
  | _ => .int
abbrev wsX10 : List Cond := u_ws RX1 TX1 4
theorem nmX1 : ∀ a, a < 4 → ∀ b, b < 4 → a ≠ b → (TX1 a).2.1 ≠ (TX1 b).2.1 := by decide +kernel
theorem tyX1_ok : ∀ k, k < 4 → parseFieldDescriptor (TX1 k).2.2.1 = some (tyX1 k) := by decide +kernel
abbrev cX1_init : ByteArray := prog_3_method_1_code
def yX1_init : MethodName := ⟨RX1, "<init>", "()V"⟩
abbrev cX1_write : ByteArray := prog_3_method_2_code
def yX1_write : MethodName := ⟨RX1, "write", "(I)Z"⟩
abbrev cX1_faultPlace : ByteArray := prog_3_method_3_code
def yX1_faultPlace : MethodName := ⟨RX1, "faultPlace", "()I"⟩
abbrev cX1_runOn : ByteArray := prog_3_method_4_code
def yX1_runOn : MethodName := ⟨RX1, "runOn", "(LStolenApples$Land;)Z"⟩
abbrev cX1_isLetter : ByteArray := prog_3_method_5_code
def yX1_isLetter : MethodName := ⟨RX1, "isLetter", "(I)Z"⟩
abbrev cX1_standsAlone : ByteArray := prog_3_method_6_code
def yX1_standsAlone : MethodName := ⟨RX1, "standsAlone", "(I)Z"⟩
abbrev cX1_endsAct : ByteArray := prog_3_method_7_code
def yX1_endsAct : MethodName := ⟨RX1, "endsAct", "(I)Z"⟩
def RX2 : String := "StolenApples$Paths"
def TX2 : u_T := fun k => match k with
  | 0 => ("StolenApples$Paths", "next", "[I", true)
  | _ => ("StolenApples$Paths", "ends", "[I", true)
def tyX2 : Nat → FieldType := fun k => match k with
  | 0 => .array .int
  | _ => .array .int
abbrev wsX20 : List Cond := u_ws RX2 TX2 2
theorem nmX2 : ∀ a, a < 2 → ∀ b, b < 2 → a ≠ b → (TX2 a).2.1 ≠ (TX2 b).2.1 := by decide +kernel
theorem tyX2_ok : ∀ k, k < 2 → parseFieldDescriptor (TX2 k).2.2.1 = some (tyX2 k) := by decide +kernel
abbrev cX2_init : ByteArray := prog_4_method_1_code
def yX2_init : MethodName := ⟨RX2, "<init>", "()V"⟩
abbrev cX2_longestChain : ByteArray := prog_4_method_2_code
def yX2_longestChain : MethodName := ⟨RX2, "longestChain", "(LStolenApples$Land;II)I"⟩
abbrev cX2_longestRound : ByteArray := prog_4_method_3_code
def yX2_longestRound : MethodName := ⟨RX2, "longestRound", "(LStolenApples$Land;)I"⟩
abbrev cX2_readNext : ByteArray := prog_4_method_4_code
def yX2_readNext : MethodName := ⟨RX2, "readNext", "(LStolenApples$Land;)V"⟩
abbrev cX2_followFrom : ByteArray := prog_4_method_5_code
def yX2_followFrom : MethodName := ⟨RX2, "followFrom", "(I)V"⟩
abbrev cX2_leadsTo : ByteArray := prog_4_method_6_code
def yX2_leadsTo : MethodName := ⟨RX2, "leadsTo", "(II)Z"⟩
abbrev cX2_longestEnding : ByteArray := prog_4_method_7_code
def yX2_longestEnding : MethodName := ⟨RX2, "longestEnding", "(I)I"⟩
def RX3 : String := "StolenApples$Rows"
def TX3 : u_T := fun k => match k with
  | 0 => ("StolenApples$Rows", "ways", "[I", true)
  | 1 => ("StolenApples$Rows", "left", "[I", true)
  | _ => ("StolenApples$Rows", "tally", "[I", true)
def tyX3 : Nat → FieldType := fun k => match k with
  | 0 => .array .int
  | 1 => .array .int
  | _ => .array .int
abbrev wsX30 : List Cond := u_ws RX3 TX3 3
theorem nmX3 : ∀ a, a < 3 → ∀ b, b < 3 → a ≠ b → (TX3 a).2.1 ≠ (TX3 b).2.1 := by decide +kernel
theorem tyX3_ok : ∀ k, k < 3 → parseFieldDescriptor (TX3 k).2.2.1 = some (tyX3 k) := by decide +kernel
abbrev cX3_init : ByteArray := prog_5_method_1_code
def yX3_init : MethodName := ⟨RX3, "<init>", "()V"⟩
abbrev cX3_countWithout : ByteArray := prog_5_method_2_code
def yX3_countWithout : MethodName := ⟨RX3, "countWithout", "(LStolenApples$Land;I)V"⟩
abbrev cX3_fillLeft : ByteArray := prog_5_method_3_code
def yX3_fillLeft : MethodName := ⟨RX3, "fillLeft", "(LStolenApples$Land;I)V"⟩
abbrev cX3_keepFitting : ByteArray := prog_5_method_4_code
def yX3_keepFitting : MethodName := ⟨RX3, "keepFitting", "(LStolenApples$Land;I)V"⟩
abbrev cX3_spread : ByteArray := prog_5_method_5_code
def yX3_spread : MethodName := ⟨RX3, "spread", "()V"⟩
abbrev cX3_total : ByteArray := prog_5_method_6_code
def yX3_total : MethodName := ⟨RX3, "total", "()I"⟩
abbrev cX3_waysWithin : ByteArray := prog_5_method_7_code
def yX3_waysWithin : MethodName := ⟨RX3, "waysWithin", "(I)I"⟩
abbrev cX3_outInSome : ByteArray := prog_5_method_8_code
def yX3_outInSome : MethodName := ⟨RX3, "outInSome", "()I"⟩
abbrev cX3_outInAll : ByteArray := prog_5_method_9_code
def yX3_outInAll : MethodName := ⟨RX3, "outInAll", "()I"⟩
abbrev cX3_mostLeftBy : ByteArray := prog_5_method_10_code
def yX3_mostLeftBy : MethodName := ⟨RX3, "mostLeftBy", "(LStolenApples$Land;I)I"⟩
def RX4 : String := "StolenApples$Turns"
def TX4 : u_T := fun k => match k with
  | 0 => ("StolenApples$Turns", "leads", "[I", true)
  | 1 => ("StolenApples$Turns", "lead", "I", false)
  | _ => ("StolenApples$Turns", "opening", "I", false)
def tyX4 : Nat → FieldType := fun k => match k with
  | 0 => .array .int
  | 1 => .int
  | _ => .int
abbrev wsX40 : List Cond := u_ws RX4 TX4 3
theorem nmX4 : ∀ a, a < 3 → ∀ b, b < 3 → a ≠ b → (TX4 a).2.1 ≠ (TX4 b).2.1 := by decide +kernel
theorem tyX4_ok : ∀ k, k < 3 → parseFieldDescriptor (TX4 k).2.2.1 = some (tyX4 k) := by decide +kernel
abbrev cX4_init : ByteArray := prog_6_method_1_code
def yX4_init : MethodName := ⟨RX4, "<init>", "()V"⟩
abbrev cX4_play : ByteArray := prog_6_method_2_code
def yX4_play : MethodName := ⟨RX4, "play", "(LStolenApples$Land;III)V"⟩
abbrev cX4_takeBest : ByteArray := prog_6_method_3_code
def yX4_takeBest : MethodName := ⟨RX4, "takeBest", "(LStolenApples$Land;II)V"⟩
def RX5 : String := "StolenApples"
def TX5 : u_T := fun k => match k with
  | 0 => ("StolenApples", "land", "LStolenApples$Land;", true)
  | 1 => ("StolenApples", "draft", "LStolenApples$Land;", true)
  | 2 => ("StolenApples", "images", "[LStolenApples$Land;", true)
  | 3 => ("StolenApples", "nights", "LStolenApples$Nights;", true)
  | 4 => ("StolenApples", "paths", "LStolenApples$Paths;", true)
  | 5 => ("StolenApples", "rows", "LStolenApples$Rows;", true)
  | _ => ("StolenApples", "turns", "LStolenApples$Turns;", true)
def tyX5 : Nat → FieldType := fun k => match k with
  | 0 => .object "StolenApples$Land"
  | 1 => .object "StolenApples$Land"
  | 2 => .array (.object "StolenApples$Land")
  | 3 => .object "StolenApples$Nights"
  | 4 => .object "StolenApples$Paths"
  | 5 => .object "StolenApples$Rows"
  | _ => .object "StolenApples$Turns"
abbrev wsX50 : List Cond := u_ws RX5 TX5 7
theorem nmX5 : ∀ a, a < 7 → ∀ b, b < 7 → a ≠ b → (TX5 a).2.1 ≠ (TX5 b).2.1 := by decide +kernel
theorem tyX5_ok : ∀ k, k < 7 → parseFieldDescriptor (TX5 k).2.2.1 = some (tyX5 k) := by decide +kernel
abbrev cX5_init : ByteArray := prog_1_method_1_code
def yX5_init : MethodName := ⟨RX5, "<init>", "()V"⟩
abbrev cX5_neighbour : ByteArray := prog_1_method_2_code
def yX5_neighbour : MethodName := ⟨RX5, "neighbour", "(III)I"⟩
abbrev cX5_move : ByteArray := prog_1_method_3_code
def yX5_move : MethodName := ⟨RX5, "move", "(I)I"⟩
abbrev cX5_frost : ByteArray := prog_1_method_4_code
def yX5_frost : MethodName := ⟨RX5, "frost", "(I)I"⟩
abbrev cX5_say : ByteArray := prog_1_method_5_code
def yX5_say : MethodName := ⟨RX5, "say", "(I)I"⟩
abbrev cX5_wipe : ByteArray := prog_1_method_6_code
def yX5_wipe : MethodName := ⟨RX5, "wipe", "()I"⟩
abbrev cX5_fault : ByteArray := prog_1_method_7_code
def yX5_fault : MethodName := ⟨RX5, "fault", "()I"⟩
abbrev cX5_judge : ByteArray := prog_1_method_8_code
def yX5_judge : MethodName := ⟨RX5, "judge", "(I)I"⟩
abbrev cX5_done : ByteArray := prog_1_method_9_code
def yX5_done : MethodName := ⟨RX5, "done", "()I"⟩
abbrev cX5_state : ByteArray := prog_1_method_10_code
def yX5_state : MethodName := ⟨RX5, "state", "(II)I"⟩
abbrev cX5_behind : ByteArray := prog_1_method_11_code
def yX5_behind : MethodName := ⟨RX5, "behind", "(II)I"⟩
abbrev cX5_trees : ByteArray := prog_1_method_12_code
def yX5_trees : MethodName := ⟨RX5, "trees", "(I)I"⟩
abbrev cX5_may : ByteArray := prog_1_method_13_code
def yX5_may : MethodName := ⟨RX5, "may", "(I)I"⟩
abbrev cX5_safe : ByteArray := prog_1_method_14_code
def yX5_safe : MethodName := ⟨RX5, "safe", "()I"⟩
abbrev cX5_stripped : ByteArray := prog_1_method_15_code
def yX5_stripped : MethodName := ⟨RX5, "stripped", "(I)I"⟩
abbrev cX5_thefts : ByteArray := prog_1_method_16_code
def yX5_thefts : MethodName := ⟨RX5, "thefts", "(II)I"⟩
abbrev cX5_round : ByteArray := prog_1_method_17_code
def yX5_round : MethodName := ⟨RX5, "round", "()I"⟩
abbrev cX5_chain : ByteArray := prog_1_method_18_code
def yX5_chain : MethodName := ⟨RX5, "chain", "(II)I"⟩
abbrev cX5_exchange : ByteArray := prog_1_method_19_code
def yX5_exchange : MethodName := ⟨RX5, "exchange", "(III)I"⟩
abbrev cX5_seen : ByteArray := prog_1_method_20_code
def yX5_seen : MethodName := ⟨RX5, "seen", "(II)I"⟩
abbrev cX5_forget : ByteArray := prog_1_method_21_code
def yX5_forget : MethodName := ⟨RX5, "forget", "()I"⟩
abbrev cX5_boots : ByteArray := prog_1_method_22_code
def yX5_boots : MethodName := ⟨RX5, "boots", "(I)I"⟩
abbrev cX5_look : ByteArray := prog_1_method_23_code
def yX5_look : MethodName := ⟨RX5, "look", "(I)I"⟩
abbrev cX5_duel : ByteArray := prog_1_method_24_code
def yX5_duel : MethodName := ⟨RX5, "duel", "(IIII)I"⟩
abbrev cX5_caught : ByteArray := prog_1_method_25_code
def yX5_caught : MethodName := ⟨RX5, "caught", "(IIIII)J"⟩
abbrev cX5_moons : ByteArray := prog_1_method_26_code
def yX5_moons : MethodName := ⟨RX5, "moons", "(II)I"⟩
abbrev cX5_year : ByteArray := prog_1_method_27_code
def yX5_year : MethodName := ⟨RX5, "year", "(III)I"⟩
abbrev cX5_image : ByteArray := prog_1_method_28_code
def yX5_image : MethodName := ⟨RX5, "image", "(I)I"⟩
abbrev cX5_restore : ByteArray := prog_1_method_29_code
def yX5_restore : MethodName := ⟨RX5, "restore", "(I)I"⟩
abbrev cX5_told : ByteArray := prog_1_method_30_code
def yX5_told : MethodName := ⟨RX5, "told", "(I)I"⟩
abbrev cX5_toldBag : ByteArray := prog_1_method_31_code
def yX5_toldBag : MethodName := ⟨RX5, "toldBag", "(I)I"⟩
abbrev cX5_draftNights : ByteArray := prog_1_method_32_code
def yX5_draftNights : MethodName := ⟨RX5, "draftNights", "()Z"⟩
abbrev cX5_within : ByteArray := prog_1_method_33_code
def yX5_within : MethodName := ⟨RX5, "within", "(III)Z"⟩
abbrev cX5_sharedWithTenths : ByteArray := prog_1_method_34_code
def yX5_sharedWithTenths : MethodName := ⟨RX5, "sharedWithTenths", "(I)I"⟩
abbrev cX5_mostThefts : ByteArray := prog_1_method_35_code
def yX5_mostThefts : MethodName := ⟨RX5, "mostThefts", "(LStolenApples$Land;II)I"⟩
def RX6 : String := "StolenApplesModel"
def TX6 : u_T := fun k => match k with
  | 0 => ("StolenApplesModel", "there", "I", false)
  | 1 => ("StolenApplesModel", "bag", "[I", true)
  | 2 => ("StolenApplesModel", "dogs", "I", false)
  | 3 => ("StolenApplesModel", "lamps", "I", false)
  | 4 => ("StolenApplesModel", "frost", "I", false)
  | 5 => ("StolenApplesModel", "sights", "I", false)
  | 6 => ("StolenApplesModel", "sight", "[I", true)
  | 7 => ("StolenApplesModel", "apples", "[I", true)
  | 8 => ("StolenApplesModel", "heap", "[I", true)
  | 9 => ("StolenApplesModel", "robbed", "[I", true)
  | 10 => ("StolenApplesModel", "lastOf", "[I", true)
  | 11 => ("StolenApplesModel", "outs", "I", false)
  | 12 => ("StolenApplesModel", "signs", "I", false)
  | 13 => ("StolenApplesModel", "pad", "[I", true)
  | 14 => ("StolenApplesModel", "tree", "[I", true)
  | 15 => ("StolenApplesModel", "pile", "[I", true)
  | 16 => ("StolenApplesModel", "stole", "[I", true)
  | 17 => ("StolenApplesModel", "from", "[I", true)
  | 18 => ("StolenApplesModel", "outNow", "I", false)
  | 19 => ("StolenApplesModel", "dogsNow", "I", false)
  | 20 => ("StolenApplesModel", "lampsNow", "I", false)
  | 21 => ("StolenApplesModel", "frostNow", "I", false)
  | 22 => ("StolenApplesModel", "reason", "I", false)
  | 23 => ("StolenApplesModel", "acts", "I", false)
  | 24 => ("StolenApplesModel", "ends", "[Z", true)
  | 25 => ("StolenApplesModel", "rows", "I", false)
  | 26 => ("StolenApplesModel", "some", "I", false)
  | 27 => ("StolenApplesModel", "every", "I", false)
  | 28 => ("StolenApplesModel", "left", "[I", true)
  | 29 => ("StolenApplesModel", "ahead", "[I", true)
  | 30 => ("StolenApplesModel", "image", "[I", true)
  | _ => ("StolenApplesModel", "isKept", "[Z", true)
def tyX6 : Nat → FieldType := fun k => match k with
  | 0 => .int
  | 1 => .array .int
  | 2 => .int
  | 3 => .int
  | 4 => .int
  | 5 => .int
  | 6 => .array .int
  | 7 => .array .int
  | 8 => .array .int
  | 9 => .array .int
  | 10 => .array .int
  | 11 => .int
  | 12 => .int
  | 13 => .array .int
  | 14 => .array .int
  | 15 => .array .int
  | 16 => .array .int
  | 17 => .array .int
  | 18 => .int
  | 19 => .int
  | 20 => .int
  | 21 => .int
  | 22 => .int
  | 23 => .int
  | 24 => .array .boolean
  | 25 => .int
  | 26 => .int
  | 27 => .int
  | 28 => .array .int
  | 29 => .array .int
  | 30 => .array .int
  | _ => .array .boolean
abbrev wsX60 : List Cond := u_ws RX6 TX6 32
theorem nmX6 : ∀ a, a < 32 → ∀ b, b < 32 → a ≠ b → (TX6 a).2.1 ≠ (TX6 b).2.1 := by decide +kernel
theorem tyX6_ok : ∀ k, k < 32 → parseFieldDescriptor (TX6 k).2.2.1 = some (tyX6 k) := by decide +kernel
abbrev cX6_init : ByteArray := prog_8_method_1_code
def yX6_init : MethodName := ⟨RX6, "<init>", "()V"⟩
abbrev cX6_in : ByteArray := prog_8_method_2_code
def yX6_in : MethodName := ⟨RX6, "in", "(III)Z"⟩
abbrev cX6_has : ByteArray := prog_8_method_3_code
def yX6_has : MethodName := ⟨RX6, "has", "(II)Z"⟩
abbrev cX6_bits : ByteArray := prog_8_method_4_code
def yX6_bits : MethodName := ⟨RX6, "bits", "(I)I"⟩
abbrev cX6_isThere : ByteArray := prog_8_method_5_code
def yX6_isThere : MethodName := ⟨RX6, "isThere", "(I)Z"⟩
abbrev cX6_neighbour : ByteArray := prog_8_method_6_code
def yX6_neighbour : MethodName := ⟨RX6, "neighbour", "(III)I"⟩
abbrev cX6_move : ByteArray := prog_8_method_7_code
def yX6_move : MethodName := ⟨RX6, "move", "(I)I"⟩
abbrev cX6_frost : ByteArray := prog_8_method_8_code
def yX6_frost : MethodName := ⟨RX6, "frost", "(I)I"⟩
abbrev cX6_say : ByteArray := prog_8_method_9_code
def yX6_say : MethodName := ⟨RX6, "say", "(I)I"⟩
abbrev cX6_wipe : ByteArray := prog_8_method_10_code
def yX6_wipe : MethodName := ⟨RX6, "wipe", "()I"⟩
abbrev cX6_isLetter : ByteArray := prog_8_method_11_code
def yX6_isLetter : MethodName := ⟨RX6, "isLetter", "(I)Z"⟩
abbrev cX6_faultOf : ByteArray := prog_8_method_12_code
def yX6_faultOf : MethodName := ⟨RX6, "faultOf", "()I"⟩
abbrev cX6_fault : ByteArray := prog_8_method_13_code
def yX6_fault : MethodName := ⟨RX6, "fault", "()I"⟩
abbrev cX6_asNow : ByteArray := prog_8_method_14_code
def yX6_asNow : MethodName := ⟨RX6, "asNow", "()V"⟩
abbrev cX6_bar : ByteArray := prog_8_method_15_code
def yX6_bar : MethodName := ⟨RX6, "bar", "(II)I"⟩
abbrev cX6_whyNot : ByteArray := prog_8_method_16_code
def yX6_whyNot : MethodName := ⟨RX6, "whyNot", "(II)I"⟩
abbrev cX6_takes : ByteArray := prog_8_method_17_code
def yX6_takes : MethodName := ⟨RX6, "takes", "(II)I"⟩
abbrev cX6_rob : ByteArray := prog_8_method_18_code
def yX6_rob : MethodName := ⟨RX6, "rob", "(II)V"⟩
abbrev cX6_whyNotCaught : ByteArray := prog_8_method_19_code
def yX6_whyNotCaught : MethodName := ⟨RX6, "whyNotCaught", "(I)I"⟩
abbrev cX6_caughtNow : ByteArray := prog_8_method_20_code
def yX6_caughtNow : MethodName := ⟨RX6, "caughtNow", "(I)V"⟩
abbrev cX6_nobodyOut : ByteArray := prog_8_method_21_code
def yX6_nobodyOut : MethodName := ⟨RX6, "nobodyOut", "()V"⟩
abbrev cX6_act : ByteArray := prog_8_method_22_code
def yX6_act : MethodName := ⟨RX6, "act", "(II)I"⟩
abbrev cX6_endNight : ByteArray := prog_8_method_23_code
def yX6_endNight : MethodName := ⟨RX6, "endNight", "()I"⟩
abbrev cX6_goNights : ByteArray := prog_8_method_24_code
def yX6_goNights : MethodName := ⟨RX6, "goNights", "()I"⟩
abbrev cX6_judge : ByteArray := prog_8_method_25_code
def yX6_judge : MethodName := ⟨RX6, "judge", "(I)I"⟩
abbrev cX6_barOfNights : ByteArray := prog_8_method_26_code
def yX6_barOfNights : MethodName := ⟨RX6, "barOfNights", "()I"⟩
abbrev cX6_done : ByteArray := prog_8_method_27_code
def yX6_done : MethodName := ⟨RX6, "done", "()I"⟩
abbrev cX6_stateNow : ByteArray := prog_8_method_28_code
def yX6_stateNow : MethodName := ⟨RX6, "stateNow", "(II)I"⟩
abbrev cX6_state : ByteArray := prog_8_method_29_code
def yX6_state : MethodName := ⟨RX6, "state", "(II)I"⟩
abbrev cX6_behind : ByteArray := prog_8_method_30_code
def yX6_behind : MethodName := ⟨RX6, "behind", "(II)I"⟩
abbrev cX6_trees : ByteArray := prog_8_method_31_code
def yX6_trees : MethodName := ⟨RX6, "trees", "(I)I"⟩
abbrev cX6_may : ByteArray := prog_8_method_32_code
def yX6_may : MethodName := ⟨RX6, "may", "(I)I"⟩
abbrev cX6_mayRob : ByteArray := prog_8_method_33_code
def yX6_mayRob : MethodName := ⟨RX6, "mayRob", "(I)I"⟩
abbrev cX6_safe : ByteArray := prog_8_method_34_code
def yX6_safe : MethodName := ⟨RX6, "safe", "()I"⟩
abbrev cX6_wanted : ByteArray := prog_8_method_35_code
def yX6_wanted : MethodName := ⟨RX6, "wanted", "(II)I"⟩
abbrev cX6_mostThefts : ByteArray := prog_8_method_36_code
def yX6_mostThefts : MethodName := ⟨RX6, "mostThefts", "(II)I"⟩
abbrev cX6_stripped : ByteArray := prog_8_method_37_code
def yX6_stripped : MethodName := ⟨RX6, "stripped", "(I)I"⟩
abbrev cX6_thefts : ByteArray := prog_8_method_38_code
def yX6_thefts : MethodName := ⟨RX6, "thefts", "(II)I"⟩
abbrev cX6_layChains : ByteArray := prog_8_method_39_code
def yX6_layChains : MethodName := ⟨RX6, "layChains", "(I)V"⟩
abbrev cX6_round : ByteArray := prog_8_method_40_code
def yX6_round : MethodName := ⟨RX6, "round", "()I"⟩
abbrev cX6_chain : ByteArray := prog_8_method_41_code
def yX6_chain : MethodName := ⟨RX6, "chain", "(II)I"⟩
abbrev cX6_exchange : ByteArray := prog_8_method_42_code
def yX6_exchange : MethodName := ⟨RX6, "exchange", "(III)I"⟩
abbrev cX6_seen : ByteArray := prog_8_method_43_code
def yX6_seen : MethodName := ⟨RX6, "seen", "(II)I"⟩
abbrev cX6_forget : ByteArray := prog_8_method_44_code
def yX6_forget : MethodName := ⟨RX6, "forget", "()I"⟩
abbrev cX6_layBoots : ByteArray := prog_8_method_45_code
def yX6_layBoots : MethodName := ⟨RX6, "layBoots", "()V"⟩
abbrev cX6_tryBoots : ByteArray := prog_8_method_46_code
def yX6_tryBoots : MethodName := ⟨RX6, "tryBoots", "(I)V"⟩
abbrev cX6_boots : ByteArray := prog_8_method_47_code
def yX6_boots : MethodName := ⟨RX6, "boots", "(I)I"⟩
abbrev cX6_look : ByteArray := prog_8_method_48_code
def yX6_look : MethodName := ⟨RX6, "look", "(I)I"⟩
abbrev cX6_worth : ByteArray := prog_8_method_49_code
def yX6_worth : MethodName := ⟨RX6, "worth", "(II)I"⟩
abbrev cX6_duel : ByteArray := prog_8_method_50_code
def yX6_duel : MethodName := ⟨RX6, "duel", "(IIII)I"⟩
abbrev cX6_caught : ByteArray := prog_8_method_51_code
def yX6_caught : MethodName := ⟨RX6, "caught", "(IIIII)J"⟩
abbrev cX6_moons : ByteArray := prog_8_method_52_code
def yX6_moons : MethodName := ⟨RX6, "moons", "(II)I"⟩
abbrev cX6_year : ByteArray := prog_8_method_53_code
def yX6_year : MethodName := ⟨RX6, "year", "(III)I"⟩
abbrev cX6_image : ByteArray := prog_8_method_54_code
def yX6_image : MethodName := ⟨RX6, "image", "(I)I"⟩
abbrev cX6_restore : ByteArray := prog_8_method_55_code
def yX6_restore : MethodName := ⟨RX6, "restore", "(I)I"⟩
abbrev cX6_told : ByteArray := prog_8_method_56_code
def yX6_told : MethodName := ⟨RX6, "told", "(I)I"⟩
def RJ6 : String := "java/lang/Integer"
def TJ6 : u_T := fun k => match k with
  | _ => ("", "", "", false)
def tyJ6 : Nat → FieldType := fun k => match k with
  | _ => .int
abbrev wsJ60 : List Cond := u_ws RJ6 TJ6 0
abbrev cJ6_bitCount_0f7a4 : ByteArray := prog_9_method_49_code
def yJ6_bitCount_0f7a4 : MethodName := ⟨RJ6, "bitCount", "(I)I"⟩
def RJ9 : String := "java/lang/Math"
def TJ9 : u_T := fun k => match k with
  | _ => ("", "", "", false)
def tyJ9 : Nat → FieldType := fun k => match k with
  | _ => .int
abbrev wsJ90 : List Cond := u_ws RJ9 TJ9 0
abbrev cJ9_max_7cf53 : ByteArray := prog_10_method_65_code
def yJ9_max_7cf53 : MethodName := ⟨RJ9, "max", "(II)I"⟩
abbrev cJ9_min_7cf53 : ByteArray := prog_10_method_69_code
def yJ9_min_7cf53 : MethodName := ⟨RJ9, "min", "(II)I"⟩
def RJ10 : String := "java/lang/System"
def TJ10 : u_T := fun k => match k with
  | _ => ("", "", "", false)
def tyJ10 : Nat → FieldType := fun k => match k with
  | _ => .int
abbrev wsJ100 : List Cond := u_ws RJ10 TJ10 0
def RJ7 : String := "java/util/Arrays"
def TJ7 : u_T := fun k => match k with
  | _ => ("", "", "", false)
def tyJ7 : Nat → FieldType := fun k => match k with
  | _ => .int
abbrev wsJ70 : List Cond := u_ws RJ7 TJ7 0
abbrev cJ7_fill_53178 : ByteArray := prog_12_method_103_code
def yJ7_fill_53178 : MethodName := ⟨RJ7, "fill", "([II)V"⟩
def RL : String := "StolenApplesLaw"
abbrev cL_law : ByteArray := code
def yL_law : MethodName := ⟨RL, "law", "([I)Z"⟩
abbrev vwCl : List vw_C := [(RX0, TX0, 13), (RX1, TX1, 4), (RX2, TX2, 2), (RX3, TX3, 3), (RX4, TX4, 3), (RX5, TX5, 7), (RX6, TX6, 32)]
/-- the words of the tables that a call hands on -/
def gtbl : List Cond := lw_tbl.filter goodWord
theorem gt_mem {w : Cond} (h : w ∈ tables_1) (hg : goodWord w = true) : w ∈ gtbl := List.mem_filter.mpr ⟨List.mem_append_right _ h, hg⟩
theorem gt_good : ∀ w ∈ gtbl, goodWord w = true := fun _ h => (List.mem_filter.mp h).2
theorem gt_tbl : ∀ w ∈ gtbl, w ∈ lw_tbl := fun _ h => (List.mem_filter.mp h).1
def nestL : List (String × Nat × MethodName × String) := [("StolenApples", (11 : Nat), ({ cls := "StolenApples$Land", name := "<init>", desc := "()V" } : Jvm.MethodName), "StolenApples"), ("StolenApples", (25 : Nat), ({ cls := "StolenApples$Nights", name := "<init>", desc := "()V" } : Jvm.MethodName), "StolenApples"), ("StolenApples", (32 : Nat), ({ cls := "StolenApples$Paths", name := "<init>", desc := "()V" } : Jvm.MethodName), "StolenApples"), ("StolenApples", (39 : Nat), ({ cls := "StolenApples$Rows", name := "<init>", desc := "()V" } : Jvm.MethodName), "StolenApples"), ("StolenApples", (46 : Nat), ({ cls := "StolenApples$Turns", name := "<init>", desc := "()V" } : Jvm.MethodName), "StolenApples"), ("StolenApples$Nights", (41 : Nat), ({ cls := "StolenApples", name := "within", desc := "(III)Z" } : Jvm.MethodName), "StolenApples"), ("StolenApples$Rows", (69 : Nat), ({ cls := "StolenApples", name := "within", desc := "(III)Z" } : Jvm.MethodName), "StolenApples")]
def NW (s : State) : Prop := (∀ q ∈ nestL, va_Nw (.methodLinkNest q.1 q.2.1 q.2.2.1 q.2.2.2) s) ∧ va_AO RX0 s
theorem iwX0 : ∀ w ∈ wsX00, w ∈ gtbl := by decide +kernel
theorem iwX1 : ∀ w ∈ wsX10, w ∈ gtbl := by decide +kernel
theorem iwX2 : ∀ w ∈ wsX20, w ∈ gtbl := by decide +kernel
theorem iwX3 : ∀ w ∈ wsX30, w ∈ gtbl := by decide +kernel
theorem iwX4 : ∀ w ∈ wsX40, w ∈ gtbl := by decide +kernel
theorem iwX5 : ∀ w ∈ wsX50, w ∈ gtbl := by decide +kernel
theorem iwX6 : ∀ w ∈ wsX60, w ∈ gtbl := by decide +kernel
end
section
/-! ===== my own machine picture: a world of logical cells, a store of ints, and the judgement AW ===== -/
abbrev SC : Type := (Nat × List (Option (Option Nat))) ⊕ ((Nat × Nat) ⊕ (Nat × (Nat → Option Nat)))
abbrev St : Type := Nat → Nat → Int32
abbrev N3 : Type := ClassId × ClassId × ClassId
abbrev LV : Type := List (Nat × Value)
def tys3 (N : N3) : List (ClassId × FieldType) := [(N.1, .int), (N.2.1, .boolean), (N.2.2, .object RX0)]
def vc (ad : Nat → Nat) (v : Value) : Value := match v with
  | .ref k => .ref (ad k)
  | v => v
theorem vc_int (ad : Nat → Nat) (x : Int32) : vc ad (.int x) = .int x := rfl
theorem vc_cat (ad : Nat → Nat) (v : Value) : (vc ad v).category = v.category := by cases v <;> rfl
def fv (ad : Nat → Nat) (r : Nat → Int32) (k : Nat) (f : Option (Option Nat)) : Value := match f with
  | none => .int (r k)
  | some q => va_rf (q.map ad)
def ce (N : N3) (ad : Nat → Nat) (r : Nat → Int32) (c : SC) : va_E := match c with
  | .inl o => .inr (o.1, o.2.mapIdx (fv ad r))
  | .inr (.inl a) => .inl (if a.1 = 0 then N.1 else N.2.1, a.2, .inl r)
  | .inr (.inr g) => .inl (N.2.2, g.1, .inr (.inr (.inr (.inr (fun k => (g.2 k).map ad)))))
def cw (N : N3) (ad : Nat → Nat) (S : List SC) (σ : St) : va_W := S.mapIdx (fun i c => (ad i, ce N ad (σ i) c))
theorem cw_at {N : N3} {ad : Nat → Nat} {S : List SC} {σ : St} {i : Nat} {c : SC} (h : S[i]? = some c) : (cw N ad S σ)[i]? = some (ad i, ce N ad (σ i) c) := by
  simp [cw, List.getElem?_mapIdx, h]
def up2 (σ : St) (c k : Nat) (v : Int32) : St := fun c' => if c' = c then upd (σ c) k v else σ c'
theorem cw_set {N : N3} {ad : Nat → Nat} {S : List SC} {σ : St} {i k : Nat} {v : Int32} {c : SC} {E : va_E} (h : S[i]? = some c) (hE : ce N ad (upd (σ i) k v) c = E) : (cw N ad S σ).set i (ad i, E) = cw N ad S (up2 σ i k v) := by
  apply List.ext_getElem?
  intro j
  by_cases hj : i = j
  · subst hj
    have hl : i < (cw N ad S σ).length := by simp [cw]; exact (List.getElem?_eq_some_iff.mp h).1
    rw [List.getElem?_set_self hl, cw_at h]
    simp [up2, hE]
  · rw [List.getElem?_set_ne hj]
    have : ¬ j = i := fun q => hj q.symm
    simp [cw, List.getElem?_mapIdx, up2, this]
theorem fv_set {ad : Nat → Nat} {r : Nat → Int32} {fr : List (Option (Option Nat))} {k : Nat} {v : Int32} (h : fr[k]? = some none) : (fr.mapIdx (fv ad r)).set k (.int v) = fr.mapIdx (fv ad (upd r k v)) := by
  apply List.ext_getElem?
  intro j
  by_cases hj : k = j
  · subst hj
    have hl : k < (fr.mapIdx (fv ad r)).length := by simp; exact (List.getElem?_eq_some_iff.mp h).1
    rw [List.getElem?_set_self hl]
    simp [List.getElem?_mapIdx, h, fv, upd]
  · rw [List.getElem?_set_ne hj]
    have : ¬ j = k := fun q => hj q.symm
    simp only [List.getElem?_mapIdx]
    cases fr[j]? with
    | none => rfl
    | some f => cases f <;> simp [fv, upd, this]
/-! methods -/
abbrev MI : Type := MethodName × ByteArray × Nat × Option FieldType
def mwords (M : MI) : List Cond := .code M.1 M.2.1 M.2.2.1 M.2.2.2 :: gtbl
def CX (M : MI) (p : Program) (s : State) (m : MethodId) (args : Array Value) (meth : Method) (c : Code) : Prop :=
  p.tables.exec = Jvm.exec ∧ c.code = M.2.1 ∧ c.maxLocals = M.2.2.1 ∧ s.vm.findClass M.1.cls = some m.cls ∧ (∀ w ∈ gtbl, w.before args s = true) ∧ meth.name = M.1.name ∧ NW s
def WS (D : va_G) (N : N3) (A : Nat → Prop) (s : State) (ad0 : Nat → Nat) (n0 : Nat) (ad : Nat → Nat) (S : List SC) (σ : St) (H : Heap) (locs : List Loc) : Prop :=
  n0 ≤ S.length ∧ (∀ k, k < n0 ∨ 777 ≤ k → ad k = ad0 k) ∧ va_P D vwCl (cw N ad S σ) H ∧ va_D A (cw N ad S σ) ∧ va_S A s.heap H locs
def RetIns (M : MI) (pc : Nat) (v : Option Value) : Prop := match v with
  | none => decode M.2.1 pc = .ok (.return_, 1) ∧ M.2.2.2 = none
  | some (.int x) => decode M.2.1 pc = .ok (.ireturn, 1) ∧ ∃ ty, M.2.2.2 = some ty ∧ narrow ty (.int x) = .int x
  | some (.long _) => decode M.2.1 pc = .ok (.lreturn, 1) ∧ M.2.2.2 = some .long
  | _ => False
abbrev QT : Type := Option Value → List SC → St → Prop
def RT (M : MI) (R : Room) (mc ms : Nat) (Q : QT) (p : Program) (l : Launch) (e : Env) (s : State) (m : MethodId) (args : Array Value) (below : List Frame) (meth : Method) (c : Code) (Z : State → Prop) (D : va_G) (N : N3) (A : Nat → Prop) (ad0 : Nat → Nat) (n0 : Nat) : Prop :=
  ∀ (v : Option Value) (S : List SC) (σ : St) (ad : Nat → Nat) (H : Heap) (locs : List Loc) (ls : Array Slot) (pc kc kn : Nat), Q v S σ → WS D N A s ad0 n0 ad S σ H locs → kc ≤ mc → kn ≤ ms → RetIns M pc v → W p l e R s m args below meth c H locs kc kn Z (F0 m pc ls (v.toList.map (vc ad)))
def conL (ad : Nat → Nat) (L : LV) : LV := L.map (fun q => (q.1, vc ad q.2))
abbrev EX : Type := State → (Nat → Prop) → (Nat → Nat) → Prop
def AW (M : MI) (X : EX) (R : Room) (mc ms : Nat) (Q : QT) (kc kn : Nat) (S : List SC) (σ : St) (pc : Nat) (L : LV) (st : List Value) : Prop :=
  ∀ (p : Program) (l : Launch) (e : Env) (s : State) (m : MethodId) (args : Array Value) (below : List Frame) (meth : Method) (c : Code) (Z : State → Prop) (D : va_G) (N : N3) (A : Nat → Prop) (ad0 : Nat → Nat) (n0 : Nat),
    CX M p s m args meth c → va_K D vwCl (tys3 N) s → (∀ q, s.heap.size ≤ q → A q) → X s A ad0 → RT M R mc ms Q p l e s m args below meth c Z D N A ad0 n0 →
    ∀ (ad : Nat → Nat) (H : Heap) (locs : List Loc) (ls : Array Slot), WS D N A s ad0 n0 ad S σ H locs → lv_has ls M.2.2.1 (conL ad L) →
      W p l e R s m args below meth c H locs kc kn Z (F0 m pc ls (st.map (vc ad)))
/-! locals -/
def lget (L : LV) (i : Nat) : Option Value := match L with
  | [] => none
  | q :: l => cond (Nat.beq q.1 i) (some q.2) (lget l i)
theorem lget_mem {L : LV} {i : Nat} {v : Value} (h : lget L i = some v) : (i, v) ∈ L := by
  induction L with
  | nil => simp [lget] at h
  | cons q l ih =>
    unfold lget at h
    cases hb : Nat.beq q.1 i with
    | true =>
      rw [hb] at h
      have h1 : q.1 = i := Nat.eq_of_beq_eq_true hb
      have h2 : q.2 = v := by simpa using h
      exact List.mem_cons.mpr (Or.inl (by rw [← h1, ← h2]))
    | false =>
      rw [hb] at h
      exact List.mem_cons_of_mem _ (ih (by simpa using h))
theorem lget_at {L : LV} {i nL : Nat} {v : Value} {ad : Nat → Nat} {ls : Array Slot} (hl : lv_has ls nL (conL ad L)) (h : lget L i = some v) : ls[i]? = some (.val (vc ad v)) :=
  hl.2.2 (i, vc ad v) (List.mem_map.mpr ⟨(i, v), lget_mem h, rfl⟩)
def lput1 (L : LV) (i : Nat) (v : Value) : LV := (i, v) :: L.filter (fun q => !(q.1 == i) && !(q.1 + 1 == i && q.2.category == 2))
def lput2 (L : LV) (i : Nat) (v : Value) : LV := (i, v) :: L.filter (fun q => !(q.1 == i) && (!(q.1 == i + 1) && !(q.1 + 1 == i && q.2.category == 2)))
theorem conL_put1 {ad : Nat → Nat} {L : LV} {i : Nat} {v w : Value} (hw : vc ad v = w) : (i, w) :: (conL ad L).filter (fun q => !(q.1 == i) && !(q.1 + 1 == i && q.2.category == 2)) = conL ad (lput1 L i v) := by
  subst hw
  simp only [conL, lput1, List.map_cons, List.filter_map]
  congr 2
  apply List.filter_congr
  intro q _
  simp [vc_cat]
theorem conL_put2 {ad : Nat → Nat} {L : LV} {i : Nat} {v w : Value} (hw : vc ad v = w) : (i, w) :: (conL ad L).filter (fun q => !(q.1 == i) && (!(q.1 == i + 1) && !(q.1 + 1 == i && q.2.category == 2))) = conL ad (lput2 L i v) := by
  subst hw
  simp only [conL, lput2, List.map_cons, List.filter_map]
  congr 2
  apply List.filter_congr
  intro q _
  simp [vc_cat]
/-! local instructions -/
def jrem (x y : Int32) : Int32 := x - x / y * y
def jremL (x y : Int64) : Int64 := x - x / y * y
def jushr (x y : Int32) : Int32 := (x.toUInt32 >>> (y.toUInt32 &&& Int32.toUInt32 31)).toInt32
abbrev TE : Type := Instr × Nat × Int32 × Int64
def cOK (own : String) (pc : Nat) (i : Instr) (v : Int32) (v2 : Int64) : Bool := match i with
  | .iconst n => Int32.ofInt n == v
  | .bipush n => (Int8.ofInt n).toInt32 == v
  | .sipush n => (Int16.ofInt n).toInt32 == v
  | .ldc k => decide (Cond.constant own k v ∈ tables_1)
  | .ldc_w k => decide (Cond.constant own k v ∈ tables_1)
  | .lconst n => Int64.ofNat n.val == v2
  | .ldc2_w k => decide (Cond.constantLong own k v2 ∈ tables_1)
  | .iinc _ n => Int32.ofInt n == v
  | .goto off => decide (0 ≤ (pc : Int) + off)
  | .if_icmp _ off => decide (0 ≤ (pc : Int) + off)
  | .ifCond _ off => decide (0 ≤ (pc : Int) + off)
  | .ifnonnull off => decide (0 ≤ (pc : Int) + off)
  | _ => true
def tOK (own : String) (bytes : ByteArray) (tab : List (Nat × TE)) : Bool := tab.all (fun q => decide (decode bytes q.1 = .ok (q.2.1, q.2.2.1)) && cOK own q.1 q.2.1 q.2.2.2.1 q.2.2.2.2)
def tget (tab : List (Nat × TE)) (pc : Nat) : Option TE := match tab with
  | [] => none
  | q :: l => cond (Nat.beq q.1 pc) (some q.2) (tget l pc)
theorem tget_mem {tab : List (Nat × TE)} {pc : Nat} {t : TE} (h : tget tab pc = some t) : (pc, t) ∈ tab := by
  induction tab with
  | nil => simp [tget] at h
  | cons q l ih =>
    unfold tget at h
    cases hb : Nat.beq q.1 pc with
    | true =>
      rw [hb] at h
      have h1 : q.1 = pc := Nat.eq_of_beq_eq_true hb
      have h2 : q.2 = t := by simpa using h
      exact List.mem_cons.mpr (Or.inl (by rw [← h1, ← h2]))
    | false =>
      rw [hb] at h
      exact List.mem_cons_of_mem _ (ih (by simpa using h))
theorem tok_at {own : String} {bytes : ByteArray} {tab : List (Nat × TE)} (hT : tOK own bytes tab = true) {pc : Nat} {t : TE} (h : tget tab pc = some t) : decode bytes pc = .ok (t.1, t.2.1) ∧ cOK own pc t.1 t.2.2.1 t.2.2.2 = true := by
  have h1 := List.all_eq_true.mp hT _ (tget_mem h)
  simp only [Bool.and_eq_true, decide_eq_true_eq] at h1
  exact h1
end
section
/-! ===== local instructions: one function, one law ===== -/
def chk {α : Type} (a b : Nat) (o : Option α) : Option α := cond (Nat.beq a b) o none
theorem chk_s {α : Type} {a b : Nat} {o : Option α} {y : α} (h : chk a b o = some y) : a = b ∧ o = some y := by
  unfold chk at h
  cases hb : Nat.beq a b with
  | true => rw [hb] at h; exact ⟨Nat.eq_of_beq_eq_true hb, h⟩
  | false => rw [hb] at h; cases h
def gI {α : Type} (o : Option Value) (f : Int32 → Option α) : Option α := match o with
  | some (.int x) => f x
  | _ => none
theorem gI_s {α : Type} {o : Option Value} {f : Int32 → Option α} {y : α} (h : gI o f = some y) : ∃ x, o = some (.int x) ∧ f x = some y := by
  unfold gI at h
  split at h
  · exact ⟨_, rfl, h⟩
  · cases h
def gL {α : Type} (o : Option Value) (f : Int64 → Option α) : Option α := match o with
  | some (.long x) => f x
  | _ => none
theorem gL_s {α : Type} {o : Option Value} {f : Int64 → Option α} {y : α} (h : gL o f = some y) : ∃ x, o = some (.long x) ∧ f x = some y := by
  unfold gL at h
  split at h
  · exact ⟨_, rfl, h⟩
  · cases h
def gR {α : Type} (o : Option Value) (f : Nat → Option α) : Option α := match o with
  | some (.ref x) => f x
  | _ => none
theorem gR_s {α : Type} {o : Option Value} {f : Nat → Option α} {y : α} (h : gR o f = some y) : ∃ x, o = some (.ref x) ∧ f x = some y := by
  unfold gR at h
  split at h
  · exact ⟨_, rfl, h⟩
  · cases h
def pI {α : Type} (st : List Value) (f : Int32 → List Value → Option α) : Option α := match st with
  | .int x :: st => f x st
  | _ => none
theorem pI_s {α : Type} {st : List Value} {f : Int32 → List Value → Option α} {y : α} (h : pI st f = some y) : ∃ x r, st = .int x :: r ∧ f x r = some y := by
  unfold pI at h
  split at h
  · exact ⟨_, _, rfl, h⟩
  · cases h
def pL {α : Type} (st : List Value) (f : Int64 → List Value → Option α) : Option α := match st with
  | .long x :: st => f x st
  | _ => none
theorem pL_s {α : Type} {st : List Value} {f : Int64 → List Value → Option α} {y : α} (h : pL st f = some y) : ∃ x r, st = .long x :: r ∧ f x r = some y := by
  unfold pL at h
  split at h
  · exact ⟨_, _, rfl, h⟩
  · cases h
def pR {α : Type} (st : List Value) (f : Nat → List Value → Option α) : Option α := match st with
  | .ref x :: st => f x st
  | _ => none
theorem pR_s {α : Type} {st : List Value} {f : Nat → List Value → Option α} {y : α} (h : pR st f = some y) : ∃ x r, st = .ref x :: r ∧ f x r = some y := by
  unfold pR at h
  split at h
  · exact ⟨_, _, rfl, h⟩
  · cases h
def pV {α : Type} (st : List Value) (f : Value → List Value → Option α) : Option α := match st with
  | v :: st => chk v.category 1 (f v st)
  | _ => none
theorem pV_s {α : Type} {st : List Value} {f : Value → List Value → Option α} {y : α} (h : pV st f = some y) : ∃ v r, st = v :: r ∧ v.category = 1 ∧ f v r = some y := by
  unfold pV at h
  split at h
  · obtain ⟨h1, h2⟩ := chk_s h
    exact ⟨_, _, rfl, h1, h2⟩
  · cases h
def ltb {α : Type} (a b : Nat) (o : Option α) : Option α := cond (Nat.blt a b) o none
theorem ltb_s {α : Type} {a b : Nat} {o : Option α} {y : α} (h : ltb a b o = some y) : a < b ∧ o = some y := by
  unfold ltb at h
  cases hb : Nat.blt a b with
  | true => rw [hb] at h; exact ⟨Nat.le_of_ble_eq_true hb, h⟩
  | false => rw [hb] at h; cases h
theorem cOK_l1 {own : String} {pc k : Nat} {v : Int32} {v2 : Int64} (h : cOK own pc (.ldc k) v v2 = true) : Cond.constant own k v ∈ tables_1 := by
  unfold cOK at h
  simpa only [decide_eq_true_eq] using h
theorem cOK_lw {own : String} {pc k : Nat} {v : Int32} {v2 : Int64} (h : cOK own pc (.ldc_w k) v v2 = true) : Cond.constant own k v ∈ tables_1 := by
  unfold cOK at h
  simpa only [decide_eq_true_eq] using h
theorem cOK_l2 {own : String} {pc k : Nat} {v : Int32} {v2 : Int64} (h : cOK own pc (.ldc2_w k) v v2 = true) : Cond.constantLong own k v2 ∈ tables_1 := by
  unfold cOK at h
  simpa only [decide_eq_true_eq] using h
def jmp (pc : Nat) (off : Int) : Nat := ((pc : Int) + off).toNat
theorem jmp_ok {pc : Nat} {off : Int} (h : decide (0 ≤ (pc : Int) + off) = true) : (pc : Int) + off = (jmp pc off : Int) := by
  have h1 : 0 ≤ (pc : Int) + off := by simpa using h
  unfold jmp
  omega
def lstep (nL pc : Nat) (i : Instr) (len : Nat) (v : Int32) (v2 : Int64) (L : LV) (st : List Value) : Option (Nat × LV × List Value) := match i with
  | .iconst n => chk len 1 (some (pc + 1, L, .int v :: st))
  | .bipush n => chk len 2 (some (pc + 2, L, .int v :: st))
  | .sipush n => chk len 3 (some (pc + 3, L, .int v :: st))
  | .ldc n => chk len 2 (some (pc + 2, L, .int v :: st))
  | .ldc_w n => chk len 3 (some (pc + 3, L, .int v :: st))
  | .lconst n => chk len 1 (some (pc + 1, L, .long v2 :: st))
  | .ldc2_w n => chk len 3 (some (pc + 3, L, .long v2 :: st))
  | .iload_n n => chk len 1 (gI (lget L n.val) (fun x => some (pc + 1, L, .int x :: st)))
  | .iload n => chk len 2 (gI (lget L n) (fun x => some (pc + 2, L, .int x :: st)))
  | .aload_n n => chk len 1 (gR (lget L n.val) (fun x => some (pc + 1, L, .ref x :: st)))
  | .aload n => chk len 2 (gR (lget L n) (fun x => some (pc + 2, L, .ref x :: st)))
  | .lload n => chk len 2 (gL (lget L n) (fun x => some (pc + 2, L, .long x :: st)))
  | .istore_n n => chk len 1 (pI st (fun x st => ltb n.val nL (some (pc + 1, lput1 L n.val (.int x), st))))
  | .istore n => chk len 2 (pI st (fun x st => ltb n nL (some (pc + 2, lput1 L n (.int x), st))))
  | .astore_n n => chk len 1 (pR st (fun x st => ltb n.val nL (some (pc + 1, lput1 L n.val (.ref x), st))))
  | .astore n => chk len 2 (pR st (fun x st => ltb n nL (some (pc + 2, lput1 L n (.ref x), st))))
  | .lstore n => chk len 2 (pL st (fun x st => ltb (n + 1) nL (some (pc + 2, lput2 L n (.long x), st))))
  | .iinc n z => chk len 3 (gI (lget L n) (fun x => ltb n nL (some (pc + 3, lput1 L n (.int (x + v)), st))))
  | .iadd => chk len 1 (pI st (fun y st => pI st (fun x st => some (pc + 1, L, .int (x + y) :: st))))
  | .isub => chk len 1 (pI st (fun y st => pI st (fun x st => some (pc + 1, L, .int (x - y) :: st))))
  | .imul => chk len 1 (pI st (fun y st => pI st (fun x st => some (pc + 1, L, .int (x * y) :: st))))
  | .iand => chk len 1 (pI st (fun y st => pI st (fun x st => some (pc + 1, L, .int (x &&& y) :: st))))
  | .ior => chk len 1 (pI st (fun y st => pI st (fun x st => some (pc + 1, L, .int (x ||| y) :: st))))
  | .ixor => chk len 1 (pI st (fun y st => pI st (fun x st => some (pc + 1, L, .int (x ^^^ y) :: st))))
  | .ishl => chk len 1 (pI st (fun y st => pI st (fun x st => some (pc + 1, L, .int (x <<< (y &&& 31)) :: st))))
  | .ishr => chk len 1 (pI st (fun y st => pI st (fun x st => some (pc + 1, L, .int (x >>> (y &&& 31)) :: st))))
  | .iushr => chk len 1 (pI st (fun y st => pI st (fun x st => some (pc + 1, L, .int (jushr x y) :: st))))
  | .ladd => chk len 1 (pL st (fun y st => pL st (fun x st => some (pc + 1, L, .long (x + y) :: st))))
  | .lsub => chk len 1 (pL st (fun y st => pL st (fun x st => some (pc + 1, L, .long (x - y) :: st))))
  | .lmul => chk len 1 (pL st (fun y st => pL st (fun x st => some (pc + 1, L, .long (x * y) :: st))))
  | .lcmp => chk len 1 (pL st (fun y st => pL st (fun x st => some (pc + 1, L, .int (lg_cmp x y) :: st))))
  | .i2l => chk len 1 (pI st (fun x st => some (pc + 1, L, .long x.toInt64 :: st)))
  | .dup => chk len 1 (pV st (fun x st => some (pc + 1, L, x :: x :: st)))
  | .pop => chk len 1 (pV st (fun x st => some (pc + 1, L, st)))
  | .dup2 => chk len 1 (pV st (fun x st => pV st (fun y st => some (pc + 1, L, x :: y :: x :: y :: st))))
  | .goto off => chk len 3 (some (jmp pc off, L, st))
  | .ifnonnull off => chk len 3 (match st with
    | .ref _ :: st => some (jmp pc off, L, st)
    | .null :: st => some (pc + 3, L, st)
    | _ => none)
  | _ => none
set_option maxHeartbeats 4000000 in
set_option maxRecDepth 10000 in
theorem aw_l1 {M : MI} {X : EX} {R : Room} {mc ms : Nat} {Q : QT} {kc kn : Nat} {S : List SC} {σ : St} {pc : Nat} {L : LV} {st : List Value} {i : Instr} {len pc2 : Nat} {v : Int32} {v2 : Int64} {L2 : LV} {st2 : List Value} (hd : decode M.2.1 pc = .ok (i, len)) (hc : cOK M.1.cls pc i v v2 = true) (h : lstep M.2.2.1 pc i len v v2 L st = some (pc2, L2, st2))
    (k : AW M X R mc ms Q kc kn S σ pc2 L2 st2) : AW M X R mc ms Q kc kn S σ pc L st := by
  intro p l e s m args below meth c Z D N A ad0 n0 hC hK hA hX hR ad H locs ls hW hl
  cases i with
  | iconst n =>
    have hh := chk_s h
    clear h
    obtain ⟨hlen, h⟩ := hh
    subst hlen
    cases h
    exact lv_iconst hC.1 hC.2.1 hd (by simpa [cOK] using hc) (k p l e s m args below meth c Z D N A ad0 n0 hC hK hA hX hR ad H locs ls hW hl)
  | bipush n =>
    have hh := chk_s h
    clear h
    obtain ⟨hlen, h⟩ := hh
    subst hlen
    cases h
    exact lv_bipush hC.1 hC.2.1 hd (by simpa [cOK] using hc) (k p l e s m args below meth c Z D N A ad0 n0 hC hK hA hX hR ad H locs ls hW hl)
  | sipush n =>
    have hh := chk_s h
    clear h
    obtain ⟨hlen, h⟩ := hh
    subst hlen
    cases h
    exact lv_sipush hC.1 hC.2.1 hd (by simpa [cOK] using hc) (k p l e s m args below meth c Z D N A ad0 n0 hC hK hA hX hR ad H locs ls hW hl)
  | ldc n =>
    have hh := chk_s h
    clear h
    obtain ⟨hlen, h⟩ := hh
    subst hlen
    cases h
    exact lv_ldc hC.1 hC.2.1 hC.2.2.2.1 (hC.2.2.2.2.1 _ (gt_mem (cOK_l1 hc) rfl)) hd (k p l e s m args below meth c Z D N A ad0 n0 hC hK hA hX hR ad H locs ls hW hl)
  | ldc_w n =>
    have hh := chk_s h
    clear h
    obtain ⟨hlen, h⟩ := hh
    subst hlen
    cases h
    exact lv_ldcw hC.1 hC.2.1 hC.2.2.2.1 (hC.2.2.2.2.1 _ (gt_mem (cOK_lw hc) rfl)) hd (k p l e s m args below meth c Z D N A ad0 n0 hC hK hA hX hR ad H locs ls hW hl)
  | lconst n =>
    have hh := chk_s h
    clear h
    obtain ⟨hlen, h⟩ := hh
    subst hlen
    cases h
    exact lv_lconst hC.1 hC.2.1 hd (by simpa [cOK] using hc) (k p l e s m args below meth c Z D N A ad0 n0 hC hK hA hX hR ad H locs ls hW hl)
  | ldc2_w n =>
    have hh := chk_s h
    clear h
    obtain ⟨hlen, h⟩ := hh
    subst hlen
    cases h
    exact lv_ldc2 hC.1 hC.2.1 hC.2.2.2.1 (hC.2.2.2.2.1 _ (gt_mem (cOK_l2 hc) rfl)) hd (k p l e s m args below meth c Z D N A ad0 n0 hC hK hA hX hR ad H locs ls hW hl)
  | iload_n n =>
    have hh := chk_s h
    clear h
    obtain ⟨hlen, h⟩ := hh
    subst hlen
    obtain ⟨x, hg, h1⟩ := gI_s h
    cases h1
    exact lv_iload_n hC.1 hC.2.1 hd rfl (lget_at hl hg) (k p l e s m args below meth c Z D N A ad0 n0 hC hK hA hX hR ad H locs ls hW hl)
  | iload n =>
    have hh := chk_s h
    clear h
    obtain ⟨hlen, h⟩ := hh
    subst hlen
    obtain ⟨x, hg, h1⟩ := gI_s h
    cases h1
    exact lv_iload hC.1 hC.2.1 hd (lget_at hl hg) (k p l e s m args below meth c Z D N A ad0 n0 hC hK hA hX hR ad H locs ls hW hl)
  | aload_n n =>
    have hh := chk_s h
    clear h
    obtain ⟨hlen, h⟩ := hh
    subst hlen
    obtain ⟨x, hg, h1⟩ := gR_s h
    cases h1
    exact lv_aload_n hC.1 hC.2.1 hd rfl (lget_at hl hg) (k p l e s m args below meth c Z D N A ad0 n0 hC hK hA hX hR ad H locs ls hW hl)
  | aload n =>
    have hh := chk_s h
    clear h
    obtain ⟨hlen, h⟩ := hh
    subst hlen
    obtain ⟨x, hg, h1⟩ := gR_s h
    cases h1
    exact lv_aload hC.1 hC.2.1 hd (lget_at hl hg) (k p l e s m args below meth c Z D N A ad0 n0 hC hK hA hX hR ad H locs ls hW hl)
  | lload n =>
    have hh := chk_s h
    clear h
    obtain ⟨hlen, h⟩ := hh
    subst hlen
    obtain ⟨x, hg, h1⟩ := gL_s h
    cases h1
    exact lv_lload hC.1 hC.2.1 hd (lget_at hl hg) (k p l e s m args below meth c Z D N A ad0 n0 hC hK hA hX hR ad H locs ls hW hl)
  | istore_n n =>
    have hh := chk_s h
    clear h
    obtain ⟨hlen, h⟩ := hh
    subst hlen
    obtain ⟨x, r, rfl, h1⟩ := pI_s h
    obtain ⟨hn, h2⟩ := ltb_s h1
    cases h2
    exact lv_istore_n hC.1 hC.2.1 hd rfl hl hn (conL_put1 (v := .int x) rfl) (fun ls hl => k p l e s m args below meth c Z D N A ad0 n0 hC hK hA hX hR ad H locs ls hW hl)
  | istore n =>
    have hh := chk_s h
    clear h
    obtain ⟨hlen, h⟩ := hh
    subst hlen
    obtain ⟨x, r, rfl, h1⟩ := pI_s h
    obtain ⟨hn, h2⟩ := ltb_s h1
    cases h2
    exact lv_istore hC.1 hC.2.1 hd hl hn (conL_put1 (v := .int x) rfl) (fun ls hl => k p l e s m args below meth c Z D N A ad0 n0 hC hK hA hX hR ad H locs ls hW hl)
  | astore_n n =>
    have hh := chk_s h
    clear h
    obtain ⟨hlen, h⟩ := hh
    subst hlen
    obtain ⟨x, r, rfl, h1⟩ := pR_s h
    obtain ⟨hn, h2⟩ := ltb_s h1
    cases h2
    exact lv_astore_n hC.1 hC.2.1 hd rfl hl hn (conL_put1 (v := .ref x) rfl) (fun ls hl => k p l e s m args below meth c Z D N A ad0 n0 hC hK hA hX hR ad H locs ls hW hl)
  | astore n =>
    have hh := chk_s h
    clear h
    obtain ⟨hlen, h⟩ := hh
    subst hlen
    obtain ⟨x, r, rfl, h1⟩ := pR_s h
    obtain ⟨hn, h2⟩ := ltb_s h1
    cases h2
    exact lv_astore hC.1 hC.2.1 hd hl hn (conL_put1 (v := .ref x) rfl) (fun ls hl => k p l e s m args below meth c Z D N A ad0 n0 hC hK hA hX hR ad H locs ls hW hl)
  | lstore n =>
    have hh := chk_s h
    clear h
    obtain ⟨hlen, h⟩ := hh
    subst hlen
    obtain ⟨x, r, rfl, h1⟩ := pL_s h
    obtain ⟨hn, h2⟩ := ltb_s h1
    cases h2
    exact lv_lstore hC.1 hC.2.1 hd hl hn (conL_put2 (v := .long x) rfl) (fun ls hl => k p l e s m args below meth c Z D N A ad0 n0 hC hK hA hX hR ad H locs ls hW hl)
  | iinc n z =>
    have hh := chk_s h
    clear h
    obtain ⟨hlen, h⟩ := hh
    subst hlen
    obtain ⟨x, hg, h1⟩ := gI_s h
    obtain ⟨hn, h2⟩ := ltb_s h1
    cases h2
    have hv : Int32.ofInt z = v := by simpa [cOK] using hc
    obtain ⟨j, hj⟩ := List.getElem?_of_mem (List.mem_map.mpr ⟨(n, Value.int x), lget_mem hg, rfl⟩ : (n, vc ad (.int x)) ∈ conL ad L)
    exact lv_iinc hC.1 hC.2.1 hd hl (k := j) hj (by rw [hv]) hn (conL_put1 (v := .int (x + v)) rfl) (fun ls hl => k p l e s m args below meth c Z D N A ad0 n0 hC hK hA hX hR ad H locs ls hW hl)
  | iadd =>
    have hh := chk_s h
    clear h
    obtain ⟨hlen, h⟩ := hh
    subst hlen
    obtain ⟨y, r, rfl, h1⟩ := pI_s h
    obtain ⟨x, r, rfl, h2⟩ := pI_s h1
    cases h2
    exact lv_iadd hC.1 hC.2.1 hd (k p l e s m args below meth c Z D N A ad0 n0 hC hK hA hX hR ad H locs ls hW hl)
  | isub =>
    have hh := chk_s h
    clear h
    obtain ⟨hlen, h⟩ := hh
    subst hlen
    obtain ⟨y, r, rfl, h1⟩ := pI_s h
    obtain ⟨x, r, rfl, h2⟩ := pI_s h1
    cases h2
    exact lv_isub hC.1 hC.2.1 hd (k p l e s m args below meth c Z D N A ad0 n0 hC hK hA hX hR ad H locs ls hW hl)
  | imul =>
    have hh := chk_s h
    clear h
    obtain ⟨hlen, h⟩ := hh
    subst hlen
    obtain ⟨y, r, rfl, h1⟩ := pI_s h
    obtain ⟨x, r, rfl, h2⟩ := pI_s h1
    cases h2
    exact lv_imul hC.1 hC.2.1 hd (k p l e s m args below meth c Z D N A ad0 n0 hC hK hA hX hR ad H locs ls hW hl)
  | iand =>
    have hh := chk_s h
    clear h
    obtain ⟨hlen, h⟩ := hh
    subst hlen
    obtain ⟨y, r, rfl, h1⟩ := pI_s h
    obtain ⟨x, r, rfl, h2⟩ := pI_s h1
    cases h2
    exact lv_iand hC.1 hC.2.1 hd (k p l e s m args below meth c Z D N A ad0 n0 hC hK hA hX hR ad H locs ls hW hl)
  | ior =>
    have hh := chk_s h
    clear h
    obtain ⟨hlen, h⟩ := hh
    subst hlen
    obtain ⟨y, r, rfl, h1⟩ := pI_s h
    obtain ⟨x, r, rfl, h2⟩ := pI_s h1
    cases h2
    exact lv_ior hC.1 hC.2.1 hd (k p l e s m args below meth c Z D N A ad0 n0 hC hK hA hX hR ad H locs ls hW hl)
  | ixor =>
    have hh := chk_s h
    clear h
    obtain ⟨hlen, h⟩ := hh
    subst hlen
    obtain ⟨y, r, rfl, h1⟩ := pI_s h
    obtain ⟨x, r, rfl, h2⟩ := pI_s h1
    cases h2
    exact lv_ixor hC.1 hC.2.1 hd (k p l e s m args below meth c Z D N A ad0 n0 hC hK hA hX hR ad H locs ls hW hl)
  | ishl =>
    have hh := chk_s h
    clear h
    obtain ⟨hlen, h⟩ := hh
    subst hlen
    obtain ⟨y, r, rfl, h1⟩ := pI_s h
    obtain ⟨x, r, rfl, h2⟩ := pI_s h1
    cases h2
    exact lv_ishl hC.1 hC.2.1 hd (k p l e s m args below meth c Z D N A ad0 n0 hC hK hA hX hR ad H locs ls hW hl)
  | ishr =>
    have hh := chk_s h
    clear h
    obtain ⟨hlen, h⟩ := hh
    subst hlen
    obtain ⟨y, r, rfl, h1⟩ := pI_s h
    obtain ⟨x, r, rfl, h2⟩ := pI_s h1
    cases h2
    exact lv_ishr hC.1 hC.2.1 hd (k p l e s m args below meth c Z D N A ad0 n0 hC hK hA hX hR ad H locs ls hW hl)
  | iushr =>
    have hh := chk_s h
    clear h
    obtain ⟨hlen, h⟩ := hh
    subst hlen
    obtain ⟨y, r, rfl, h1⟩ := pI_s h
    obtain ⟨x, r, rfl, h2⟩ := pI_s h1
    cases h2
    exact lv_iushr hC.1 hC.2.1 hd rfl (k p l e s m args below meth c Z D N A ad0 n0 hC hK hA hX hR ad H locs ls hW hl)
  | ladd =>
    have hh := chk_s h
    clear h
    obtain ⟨hlen, h⟩ := hh
    subst hlen
    obtain ⟨y, r, rfl, h1⟩ := pL_s h
    obtain ⟨x, r, rfl, h2⟩ := pL_s h1
    cases h2
    exact lv_ladd hC.1 hC.2.1 hd (k p l e s m args below meth c Z D N A ad0 n0 hC hK hA hX hR ad H locs ls hW hl)
  | lsub =>
    have hh := chk_s h
    clear h
    obtain ⟨hlen, h⟩ := hh
    subst hlen
    obtain ⟨y, r, rfl, h1⟩ := pL_s h
    obtain ⟨x, r, rfl, h2⟩ := pL_s h1
    cases h2
    exact lv_lsub hC.1 hC.2.1 hd (k p l e s m args below meth c Z D N A ad0 n0 hC hK hA hX hR ad H locs ls hW hl)
  | lmul =>
    have hh := chk_s h
    clear h
    obtain ⟨hlen, h⟩ := hh
    subst hlen
    obtain ⟨y, r, rfl, h1⟩ := pL_s h
    obtain ⟨x, r, rfl, h2⟩ := pL_s h1
    cases h2
    exact lv_lmul hC.1 hC.2.1 hd (k p l e s m args below meth c Z D N A ad0 n0 hC hK hA hX hR ad H locs ls hW hl)
  | lcmp =>
    have hh := chk_s h
    clear h
    obtain ⟨hlen, h⟩ := hh
    subst hlen
    obtain ⟨y, r, rfl, h1⟩ := pL_s h
    obtain ⟨x, r, rfl, h2⟩ := pL_s h1
    cases h2
    exact W.lcmp hC.1 hC.2.1 hd (k p l e s m args below meth c Z D N A ad0 n0 hC hK hA hX hR ad H locs ls hW hl)
  | i2l =>
    have hh := chk_s h
    clear h
    obtain ⟨hlen, h⟩ := hh
    subst hlen
    obtain ⟨x, r, rfl, h1⟩ := pI_s h
    cases h1
    exact lv_i2l hC.1 hC.2.1 hd rfl (k p l e s m args below meth c Z D N A ad0 n0 hC hK hA hX hR ad H locs ls hW hl)
  | dup =>
    have hh := chk_s h
    clear h
    obtain ⟨hlen, h⟩ := hh
    subst hlen
    obtain ⟨x, r, rfl, hv, h1⟩ := pV_s h
    cases h1
    exact lv_dup hC.1 hC.2.1 hd ((vc_cat ad x).trans hv) (k p l e s m args below meth c Z D N A ad0 n0 hC hK hA hX hR ad H locs ls hW hl)
  | pop =>
    have hh := chk_s h
    clear h
    obtain ⟨hlen, h⟩ := hh
    subst hlen
    obtain ⟨x, r, rfl, hv, h1⟩ := pV_s h
    cases h1
    exact lv_pop hC.1 hC.2.1 hd ((vc_cat ad x).trans hv) (k p l e s m args below meth c Z D N A ad0 n0 hC hK hA hX hR ad H locs ls hW hl)
  | dup2 =>
    have hh := chk_s h
    clear h
    obtain ⟨hlen, h⟩ := hh
    subst hlen
    obtain ⟨x, r, rfl, hv, h1⟩ := pV_s h
    obtain ⟨y, r, rfl, hw, h2⟩ := pV_s h1
    cases h2
    exact lv_dup2_11 hC.1 hC.2.1 hd ((vc_cat ad x).trans hv) ((vc_cat ad y).trans hw) (k p l e s m args below meth c Z D N A ad0 n0 hC hK hA hX hR ad H locs ls hW hl)
  | goto off =>
    have hh := chk_s h
    clear h
    obtain ⟨hlen, h⟩ := hh
    subst hlen
    cases h
    exact lv_goto hC.1 hC.2.1 hd (jmp_ok hc) (k p l e s m args below meth c Z D N A ad0 n0 hC hK hA hX hR ad H locs ls hW hl)
  | ifnonnull off =>
    have hh := chk_s h
    clear h
    obtain ⟨hlen, h⟩ := hh
    subst hlen
    split at h
    · cases h; exact lv_ifnonnull hC.1 hC.2.1 hd (jmp_ok hc) (k p l e s m args below meth c Z D N A ad0 n0 hC hK hA hX hR ad H locs ls hW hl)
    · cases h; exact lv_ifnonnullN hC.1 hC.2.1 hd (k p l e s m args below meth c Z D N A ad0 n0 hC hK hA hX hR ad H locs ls hW hl)
    · cases h
  | _ => exact absurd h (by simp [lstep])
def lrun (nL : Nat) (tab : List (Nat × TE)) (n pc : Nat) (L : LV) (st : List Value) : Option (Nat × LV × List Value) := match n with
  | 0 => some (pc, L, st)
  | n + 1 => match tget tab pc with
    | some t => match lstep nL pc t.1 t.2.1 t.2.2.1 t.2.2.2 L st with
      | some q => lrun nL tab n q.1 q.2.1 q.2.2
      | none => none
    | none => none
theorem aw_run {M : MI} {X : EX} {R : Room} {mc ms : Nat} {Q : QT} {kc kn : Nat} {S : List SC} {σ : St} {tab : List (Nat × TE)} (hT : tOK M.1.cls M.2.1 tab = true) (n : Nat) {pc2 : Nat} {L2 : LV} {st2 : List Value} : ∀ {pc : Nat} {L : LV} {st : List Value}, lrun M.2.2.1 tab n pc L st = some (pc2, L2, st2) → AW M X R mc ms Q kc kn S σ pc2 L2 st2 → AW M X R mc ms Q kc kn S σ pc L st := by
  induction n with
  | zero =>
    intro pc L st h k
    cases h
    exact k
  | succ n ih =>
    intro pc L st h k
    unfold lrun at h
    split at h
    · rename_i t ht
      split at h
      · rename_i q hq
        obtain ⟨hd, hc⟩ := tok_at hT ht
        exact aw_l1 hd hc hq (ih h k)
      · cases h
    · cases h
theorem aw_icmp_eq {M : MI} {X : EX} {R : Room} {mc ms : Nat} {Q : QT} {kc kn : Nat} {S : List SC} {σ : St} {pc : Nat} {L : LV} {st : List Value} {x y : Int32} {off : Int} {tab : List (Nat × TE)} {v : Int32} {v2 : Int64} (hT : tOK M.1.cls M.2.1 tab = true) (ht : tget tab pc = some (.if_icmp .eq off, 3, v, v2)) (tgt pc2 : Nat) (hj : jmp pc off = tgt) (hp : pc + 3 = pc2)
    (kt : x = y → AW M X R mc ms Q kc kn S σ tgt L st) (kf : ¬ x = y → AW M X R mc ms Q kc kn S σ pc2 L st) : AW M X R mc ms Q kc kn S σ pc L (.int y :: .int x :: st) := by
  subst hj; subst hp
  intro p l e s m args below meth c Z D N A ad0 n0 hC hK hA hX hR ad H locs ls hW hl
  exact lv_icmp_eq hC.1 hC.2.1 (tok_at hT ht).1 (jmp_ok (tok_at hT ht).2) (fun q => kt q p l e s m args below meth c Z D N A ad0 n0 hC hK hA hX hR ad H locs ls hW hl) (fun q => kf q p l e s m args below meth c Z D N A ad0 n0 hC hK hA hX hR ad H locs ls hW hl)
theorem aw_if_eq {M : MI} {X : EX} {R : Room} {mc ms : Nat} {Q : QT} {kc kn : Nat} {S : List SC} {σ : St} {pc : Nat} {L : LV} {st : List Value} {x : Int32} {off : Int} {tab : List (Nat × TE)} {v : Int32} {v2 : Int64} (hT : tOK M.1.cls M.2.1 tab = true) (ht : tget tab pc = some (.ifCond .eq off, 3, v, v2)) (tgt pc2 : Nat) (hj : jmp pc off = tgt) (hp : pc + 3 = pc2)
    (kt : x = 0 → AW M X R mc ms Q kc kn S σ tgt L st) (kf : ¬ x = 0 → AW M X R mc ms Q kc kn S σ pc2 L st) : AW M X R mc ms Q kc kn S σ pc L (.int x :: st) := by
  subst hj; subst hp
  intro p l e s m args below meth c Z D N A ad0 n0 hC hK hA hX hR ad H locs ls hW hl
  exact lv_if_eq hC.1 hC.2.1 (tok_at hT ht).1 (jmp_ok (tok_at hT ht).2) (fun q => kt q p l e s m args below meth c Z D N A ad0 n0 hC hK hA hX hR ad H locs ls hW hl) (fun q => kf q p l e s m args below meth c Z D N A ad0 n0 hC hK hA hX hR ad H locs ls hW hl)
theorem aw_icmp_ne {M : MI} {X : EX} {R : Room} {mc ms : Nat} {Q : QT} {kc kn : Nat} {S : List SC} {σ : St} {pc : Nat} {L : LV} {st : List Value} {x y : Int32} {off : Int} {tab : List (Nat × TE)} {v : Int32} {v2 : Int64} (hT : tOK M.1.cls M.2.1 tab = true) (ht : tget tab pc = some (.if_icmp .ne off, 3, v, v2)) (tgt pc2 : Nat) (hj : jmp pc off = tgt) (hp : pc + 3 = pc2)
    (kt : ¬ x = y → AW M X R mc ms Q kc kn S σ tgt L st) (kf : x = y → AW M X R mc ms Q kc kn S σ pc2 L st) : AW M X R mc ms Q kc kn S σ pc L (.int y :: .int x :: st) := by
  subst hj; subst hp
  intro p l e s m args below meth c Z D N A ad0 n0 hC hK hA hX hR ad H locs ls hW hl
  exact lv_icmp_ne hC.1 hC.2.1 (tok_at hT ht).1 (jmp_ok (tok_at hT ht).2) (fun q => kt q p l e s m args below meth c Z D N A ad0 n0 hC hK hA hX hR ad H locs ls hW hl) (fun q => kf q p l e s m args below meth c Z D N A ad0 n0 hC hK hA hX hR ad H locs ls hW hl)
theorem aw_if_ne {M : MI} {X : EX} {R : Room} {mc ms : Nat} {Q : QT} {kc kn : Nat} {S : List SC} {σ : St} {pc : Nat} {L : LV} {st : List Value} {x : Int32} {off : Int} {tab : List (Nat × TE)} {v : Int32} {v2 : Int64} (hT : tOK M.1.cls M.2.1 tab = true) (ht : tget tab pc = some (.ifCond .ne off, 3, v, v2)) (tgt pc2 : Nat) (hj : jmp pc off = tgt) (hp : pc + 3 = pc2)
    (kt : ¬ x = 0 → AW M X R mc ms Q kc kn S σ tgt L st) (kf : x = 0 → AW M X R mc ms Q kc kn S σ pc2 L st) : AW M X R mc ms Q kc kn S σ pc L (.int x :: st) := by
  subst hj; subst hp
  intro p l e s m args below meth c Z D N A ad0 n0 hC hK hA hX hR ad H locs ls hW hl
  exact lv_if_ne hC.1 hC.2.1 (tok_at hT ht).1 (jmp_ok (tok_at hT ht).2) (fun q => kt q p l e s m args below meth c Z D N A ad0 n0 hC hK hA hX hR ad H locs ls hW hl) (fun q => kf q p l e s m args below meth c Z D N A ad0 n0 hC hK hA hX hR ad H locs ls hW hl)
theorem aw_icmp_lt {M : MI} {X : EX} {R : Room} {mc ms : Nat} {Q : QT} {kc kn : Nat} {S : List SC} {σ : St} {pc : Nat} {L : LV} {st : List Value} {x y : Int32} {off : Int} {tab : List (Nat × TE)} {v : Int32} {v2 : Int64} (hT : tOK M.1.cls M.2.1 tab = true) (ht : tget tab pc = some (.if_icmp .lt off, 3, v, v2)) (tgt pc2 : Nat) (hj : jmp pc off = tgt) (hp : pc + 3 = pc2)
    (kt : x < y → AW M X R mc ms Q kc kn S σ tgt L st) (kf : ¬ x < y → AW M X R mc ms Q kc kn S σ pc2 L st) : AW M X R mc ms Q kc kn S σ pc L (.int y :: .int x :: st) := by
  subst hj; subst hp
  intro p l e s m args below meth c Z D N A ad0 n0 hC hK hA hX hR ad H locs ls hW hl
  exact lv_icmp_lt hC.1 hC.2.1 (tok_at hT ht).1 (jmp_ok (tok_at hT ht).2) (fun q => kt q p l e s m args below meth c Z D N A ad0 n0 hC hK hA hX hR ad H locs ls hW hl) (fun q => kf q p l e s m args below meth c Z D N A ad0 n0 hC hK hA hX hR ad H locs ls hW hl)
theorem aw_if_lt {M : MI} {X : EX} {R : Room} {mc ms : Nat} {Q : QT} {kc kn : Nat} {S : List SC} {σ : St} {pc : Nat} {L : LV} {st : List Value} {x : Int32} {off : Int} {tab : List (Nat × TE)} {v : Int32} {v2 : Int64} (hT : tOK M.1.cls M.2.1 tab = true) (ht : tget tab pc = some (.ifCond .lt off, 3, v, v2)) (tgt pc2 : Nat) (hj : jmp pc off = tgt) (hp : pc + 3 = pc2)
    (kt : x < 0 → AW M X R mc ms Q kc kn S σ tgt L st) (kf : ¬ x < 0 → AW M X R mc ms Q kc kn S σ pc2 L st) : AW M X R mc ms Q kc kn S σ pc L (.int x :: st) := by
  subst hj; subst hp
  intro p l e s m args below meth c Z D N A ad0 n0 hC hK hA hX hR ad H locs ls hW hl
  exact lv_if_lt hC.1 hC.2.1 (tok_at hT ht).1 (jmp_ok (tok_at hT ht).2) (fun q => kt q p l e s m args below meth c Z D N A ad0 n0 hC hK hA hX hR ad H locs ls hW hl) (fun q => kf q p l e s m args below meth c Z D N A ad0 n0 hC hK hA hX hR ad H locs ls hW hl)
theorem aw_icmp_ge {M : MI} {X : EX} {R : Room} {mc ms : Nat} {Q : QT} {kc kn : Nat} {S : List SC} {σ : St} {pc : Nat} {L : LV} {st : List Value} {x y : Int32} {off : Int} {tab : List (Nat × TE)} {v : Int32} {v2 : Int64} (hT : tOK M.1.cls M.2.1 tab = true) (ht : tget tab pc = some (.if_icmp .ge off, 3, v, v2)) (tgt pc2 : Nat) (hj : jmp pc off = tgt) (hp : pc + 3 = pc2)
    (kt : y ≤ x → AW M X R mc ms Q kc kn S σ tgt L st) (kf : ¬ y ≤ x → AW M X R mc ms Q kc kn S σ pc2 L st) : AW M X R mc ms Q kc kn S σ pc L (.int y :: .int x :: st) := by
  subst hj; subst hp
  intro p l e s m args below meth c Z D N A ad0 n0 hC hK hA hX hR ad H locs ls hW hl
  exact lv_icmp_ge hC.1 hC.2.1 (tok_at hT ht).1 (jmp_ok (tok_at hT ht).2) (fun q => kt q p l e s m args below meth c Z D N A ad0 n0 hC hK hA hX hR ad H locs ls hW hl) (fun q => kf q p l e s m args below meth c Z D N A ad0 n0 hC hK hA hX hR ad H locs ls hW hl)
theorem aw_if_ge {M : MI} {X : EX} {R : Room} {mc ms : Nat} {Q : QT} {kc kn : Nat} {S : List SC} {σ : St} {pc : Nat} {L : LV} {st : List Value} {x : Int32} {off : Int} {tab : List (Nat × TE)} {v : Int32} {v2 : Int64} (hT : tOK M.1.cls M.2.1 tab = true) (ht : tget tab pc = some (.ifCond .ge off, 3, v, v2)) (tgt pc2 : Nat) (hj : jmp pc off = tgt) (hp : pc + 3 = pc2)
    (kt : 0 ≤ x → AW M X R mc ms Q kc kn S σ tgt L st) (kf : ¬ 0 ≤ x → AW M X R mc ms Q kc kn S σ pc2 L st) : AW M X R mc ms Q kc kn S σ pc L (.int x :: st) := by
  subst hj; subst hp
  intro p l e s m args below meth c Z D N A ad0 n0 hC hK hA hX hR ad H locs ls hW hl
  exact lv_if_ge hC.1 hC.2.1 (tok_at hT ht).1 (jmp_ok (tok_at hT ht).2) (fun q => kt q p l e s m args below meth c Z D N A ad0 n0 hC hK hA hX hR ad H locs ls hW hl) (fun q => kf q p l e s m args below meth c Z D N A ad0 n0 hC hK hA hX hR ad H locs ls hW hl)
theorem aw_icmp_gt {M : MI} {X : EX} {R : Room} {mc ms : Nat} {Q : QT} {kc kn : Nat} {S : List SC} {σ : St} {pc : Nat} {L : LV} {st : List Value} {x y : Int32} {off : Int} {tab : List (Nat × TE)} {v : Int32} {v2 : Int64} (hT : tOK M.1.cls M.2.1 tab = true) (ht : tget tab pc = some (.if_icmp .gt off, 3, v, v2)) (tgt pc2 : Nat) (hj : jmp pc off = tgt) (hp : pc + 3 = pc2)
    (kt : y < x → AW M X R mc ms Q kc kn S σ tgt L st) (kf : ¬ y < x → AW M X R mc ms Q kc kn S σ pc2 L st) : AW M X R mc ms Q kc kn S σ pc L (.int y :: .int x :: st) := by
  subst hj; subst hp
  intro p l e s m args below meth c Z D N A ad0 n0 hC hK hA hX hR ad H locs ls hW hl
  exact lv_icmp_gt hC.1 hC.2.1 (tok_at hT ht).1 (jmp_ok (tok_at hT ht).2) (fun q => kt q p l e s m args below meth c Z D N A ad0 n0 hC hK hA hX hR ad H locs ls hW hl) (fun q => kf q p l e s m args below meth c Z D N A ad0 n0 hC hK hA hX hR ad H locs ls hW hl)
theorem aw_if_gt {M : MI} {X : EX} {R : Room} {mc ms : Nat} {Q : QT} {kc kn : Nat} {S : List SC} {σ : St} {pc : Nat} {L : LV} {st : List Value} {x : Int32} {off : Int} {tab : List (Nat × TE)} {v : Int32} {v2 : Int64} (hT : tOK M.1.cls M.2.1 tab = true) (ht : tget tab pc = some (.ifCond .gt off, 3, v, v2)) (tgt pc2 : Nat) (hj : jmp pc off = tgt) (hp : pc + 3 = pc2)
    (kt : 0 < x → AW M X R mc ms Q kc kn S σ tgt L st) (kf : ¬ 0 < x → AW M X R mc ms Q kc kn S σ pc2 L st) : AW M X R mc ms Q kc kn S σ pc L (.int x :: st) := by
  subst hj; subst hp
  intro p l e s m args below meth c Z D N A ad0 n0 hC hK hA hX hR ad H locs ls hW hl
  exact lv_if_gt hC.1 hC.2.1 (tok_at hT ht).1 (jmp_ok (tok_at hT ht).2) (fun q => kt q p l e s m args below meth c Z D N A ad0 n0 hC hK hA hX hR ad H locs ls hW hl) (fun q => kf q p l e s m args below meth c Z D N A ad0 n0 hC hK hA hX hR ad H locs ls hW hl)
theorem aw_icmp_le {M : MI} {X : EX} {R : Room} {mc ms : Nat} {Q : QT} {kc kn : Nat} {S : List SC} {σ : St} {pc : Nat} {L : LV} {st : List Value} {x y : Int32} {off : Int} {tab : List (Nat × TE)} {v : Int32} {v2 : Int64} (hT : tOK M.1.cls M.2.1 tab = true) (ht : tget tab pc = some (.if_icmp .le off, 3, v, v2)) (tgt pc2 : Nat) (hj : jmp pc off = tgt) (hp : pc + 3 = pc2)
    (kt : x ≤ y → AW M X R mc ms Q kc kn S σ tgt L st) (kf : ¬ x ≤ y → AW M X R mc ms Q kc kn S σ pc2 L st) : AW M X R mc ms Q kc kn S σ pc L (.int y :: .int x :: st) := by
  subst hj; subst hp
  intro p l e s m args below meth c Z D N A ad0 n0 hC hK hA hX hR ad H locs ls hW hl
  exact lv_icmp_le hC.1 hC.2.1 (tok_at hT ht).1 (jmp_ok (tok_at hT ht).2) (fun q => kt q p l e s m args below meth c Z D N A ad0 n0 hC hK hA hX hR ad H locs ls hW hl) (fun q => kf q p l e s m args below meth c Z D N A ad0 n0 hC hK hA hX hR ad H locs ls hW hl)
theorem aw_if_le {M : MI} {X : EX} {R : Room} {mc ms : Nat} {Q : QT} {kc kn : Nat} {S : List SC} {σ : St} {pc : Nat} {L : LV} {st : List Value} {x : Int32} {off : Int} {tab : List (Nat × TE)} {v : Int32} {v2 : Int64} (hT : tOK M.1.cls M.2.1 tab = true) (ht : tget tab pc = some (.ifCond .le off, 3, v, v2)) (tgt pc2 : Nat) (hj : jmp pc off = tgt) (hp : pc + 3 = pc2)
    (kt : x ≤ 0 → AW M X R mc ms Q kc kn S σ tgt L st) (kf : ¬ x ≤ 0 → AW M X R mc ms Q kc kn S σ pc2 L st) : AW M X R mc ms Q kc kn S σ pc L (.int x :: st) := by
  subst hj; subst hp
  intro p l e s m args below meth c Z D N A ad0 n0 hC hK hA hX hR ad H locs ls hW hl
  exact lv_if_le hC.1 hC.2.1 (tok_at hT ht).1 (jmp_ok (tok_at hT ht).2) (fun q => kt q p l e s m args below meth c Z D N A ad0 n0 hC hK hA hX hR ad H locs ls hW hl) (fun q => kf q p l e s m args below meth c Z D N A ad0 n0 hC hK hA hX hR ad H locs ls hW hl)
theorem aw_idiv {M : MI} {X : EX} {R : Room} {mc ms : Nat} {Q : QT} {kc kn : Nat} {S : List SC} {σ : St} {pc : Nat} {L : LV} {st : List Value} {x y : Int32} {tab : List (Nat × TE)} {v : Int32} {v2 : Int64} (hT : tOK M.1.cls M.2.1 tab = true) (ht : tget tab pc = some (.idiv, 1, v, v2)) (pc2 : Nat) (hp : pc + 1 = pc2) (hne : ¬ y = 0)
    (k : AW M X R mc ms Q kc kn S σ pc2 L (.int (x / y) :: st)) : AW M X R mc ms Q kc kn S σ pc L (.int y :: .int x :: st) := by
  subst hp
  intro p l e s m args below meth c Z D N A ad0 n0 hC hK hA hX hR ad H locs ls hW hl
  exact lv_idiv hC.1 hC.2.1 (tok_at hT ht).1 hne (k p l e s m args below meth c Z D N A ad0 n0 hC hK hA hX hR ad H locs ls hW hl)
theorem aw_irem {M : MI} {X : EX} {R : Room} {mc ms : Nat} {Q : QT} {kc kn : Nat} {S : List SC} {σ : St} {pc : Nat} {L : LV} {st : List Value} {x y : Int32} {tab : List (Nat × TE)} {v : Int32} {v2 : Int64} (hT : tOK M.1.cls M.2.1 tab = true) (ht : tget tab pc = some (.irem, 1, v, v2)) (pc2 : Nat) (hp : pc + 1 = pc2) (hne : ¬ y = 0)
    (k : AW M X R mc ms Q kc kn S σ pc2 L (.int (jrem x y) :: st)) : AW M X R mc ms Q kc kn S σ pc L (.int y :: .int x :: st) := by
  subst hp
  intro p l e s m args below meth c Z D N A ad0 n0 hC hK hA hX hR ad H locs ls hW hl
  exact lv_irem hC.1 hC.2.1 (tok_at hT ht).1 hne (k p l e s m args below meth c Z D N A ad0 n0 hC hK hA hX hR ad H locs ls hW hl)
theorem aw_ldiv {M : MI} {X : EX} {R : Room} {mc ms : Nat} {Q : QT} {kc kn : Nat} {S : List SC} {σ : St} {pc : Nat} {L : LV} {st : List Value} {x y : Int64} {tab : List (Nat × TE)} {v : Int32} {v2 : Int64} (hT : tOK M.1.cls M.2.1 tab = true) (ht : tget tab pc = some (.ldiv, 1, v, v2)) (pc2 : Nat) (hp : pc + 1 = pc2) (hne : ¬ y = 0)
    (k : AW M X R mc ms Q kc kn S σ pc2 L (.long (x / y) :: st)) : AW M X R mc ms Q kc kn S σ pc L (.long y :: .long x :: st) := by
  subst hp
  intro p l e s m args below meth c Z D N A ad0 n0 hC hK hA hX hR ad H locs ls hW hl
  exact lv_ldiv hC.1 hC.2.1 (tok_at hT ht).1 hne (k p l e s m args below meth c Z D N A ad0 n0 hC hK hA hX hR ad H locs ls hW hl)
theorem aw_lrem {M : MI} {X : EX} {R : Room} {mc ms : Nat} {Q : QT} {kc kn : Nat} {S : List SC} {σ : St} {pc : Nat} {L : LV} {st : List Value} {x y : Int64} {tab : List (Nat × TE)} {v : Int32} {v2 : Int64} (hT : tOK M.1.cls M.2.1 tab = true) (ht : tget tab pc = some (.lrem, 1, v, v2)) (pc2 : Nat) (hp : pc + 1 = pc2) (hne : ¬ y = 0)
    (k : AW M X R mc ms Q kc kn S σ pc2 L (.long (jremL x y) :: st)) : AW M X R mc ms Q kc kn S σ pc L (.long y :: .long x :: st) := by
  subst hp
  intro p l e s m args below meth c Z D N A ad0 n0 hC hK hA hX hR ad H locs ls hW hl
  exact lv_lrem hC.1 hC.2.1 (tok_at hT ht).1 hne (k p l e s m args below meth c Z D N A ad0 n0 hC hK hA hX hR ad H locs ls hW hl)
theorem aw_sub {M : MI} {X : EX} {R : Room} {mc ms : Nat} {Q : QT} {kc kn : Nat} {S : List SC} {σ : St} {pc : Nat} {L : LV} {st : List Value} {L2 : LV} (ks : List Nat) (hs : lv_pick L ks = L2) (k : AW M X R mc ms Q kc kn S σ pc L2 st) : AW M X R mc ms Q kc kn S σ pc L st := by
  intro p l e s m args below meth c Z D N A ad0 n0 hC hK hA hX hR ad H locs ls hW hl
  refine k p l e s m args below meth c Z D N A ad0 n0 hC hK hA hX hR ad H locs ls hW (lv_sub hl ks ?_)
  subst hs
  simp [lv_pick, conL, List.map_filterMap]
theorem aw_iret {M : MI} {X : EX} {R : Room} {mc ms : Nat} {Q : QT} {kc kn : Nat} {S : List SC} {σ : St} {pc : Nat} {L : LV} {st : List Value} {x : Int32} {tab : List (Nat × TE)} {v : Int32} {v2 : Int64} (hT : tOK M.1.cls M.2.1 tab = true) (ht : tget tab pc = some (.ireturn, 1, v, v2)) {ty : FieldType} (hr : M.2.2.2 = some ty) (hn : narrow ty (.int x) = .int x) (hc : kc ≤ mc) (hs : kn ≤ ms) (hq : Q (some (.int x)) S σ) : AW M X R mc ms Q kc kn S σ pc L [.int x] := by
  intro p l e s m args below meth c Z D N A ad0 n0 hC hK hA hX hR ad H locs ls hW hl
  exact hR (some (.int x)) S σ ad H locs ls pc kc kn hq hW hc hs ⟨(tok_at hT ht).1, ty, hr, hn⟩
theorem aw_lret {M : MI} {X : EX} {R : Room} {mc ms : Nat} {Q : QT} {kc kn : Nat} {S : List SC} {σ : St} {pc : Nat} {L : LV} {st : List Value} {x : Int64} {tab : List (Nat × TE)} {v : Int32} {v2 : Int64} (hT : tOK M.1.cls M.2.1 tab = true) (ht : tget tab pc = some (.lreturn, 1, v, v2)) (hr : M.2.2.2 = some .long) (hc : kc ≤ mc) (hs : kn ≤ ms) (hq : Q (some (.long x)) S σ) : AW M X R mc ms Q kc kn S σ pc L [.long x] := by
  intro p l e s m args below meth c Z D N A ad0 n0 hC hK hA hX hR ad H locs ls hW hl
  exact hR (some (.long x)) S σ ad H locs ls pc kc kn hq hW hc hs ⟨(tok_at hT ht).1, hr⟩
theorem aw_vret {M : MI} {X : EX} {R : Room} {mc ms : Nat} {Q : QT} {kc kn : Nat} {S : List SC} {σ : St} {pc : Nat} {L : LV} {st : List Value} {tab : List (Nat × TE)} {v : Int32} {v2 : Int64} (hT : tOK M.1.cls M.2.1 tab = true) (ht : tget tab pc = some (.return_, 1, v, v2)) (hr : M.2.2.2 = none) (hc : kc ≤ mc) (hs : kn ≤ ms) (hq : Q none S σ) : AW M X R mc ms Q kc kn S σ pc L [] := by
  intro p l e s m args below meth c Z D N A ad0 n0 hC hK hA hX hR ad H locs ls hW hl
  exact hR none S σ ad H locs ls pc kc kn hq hW hc hs ⟨(tok_at hT ht).1, hr⟩
end
section
/-! ===== fields, arrays ===== -/
theorem ws_P {D : va_G} {w1 w2 : va_W} {H : Heap} (h : w1 = w2) (hP : va_P D vwCl w1 H) : va_P D vwCl w2 H := h ▸ hP
theorem ws_D {A : Nat → Prop} {w1 w2 : va_W} (h : w1 = w2) (hP : va_D A w1) : va_D A w2 := h ▸ hP
def FL (own : String) (idx ci k : Nat) : Prop := ∃ (C : String) (T : u_T) (N : Nat), vwCl[ci]? = some (C, T, N) ∧ k < N ∧ (∀ w ∈ u_ws C T N, w ∈ gtbl) ∧ Cond.fieldLink own idx (T k).1 (T k).2.1 (T k).2.2.1 ∈ gtbl
def FP (own : String) (idx ci k : Nat) (ty : FieldType) (fin : Bool) : Prop := ∃ (C : String) (T : u_T) (N : Nat) (ty0 : Nat → FieldType), vwCl[ci]? = some (C, T, N) ∧ k < N ∧ (∀ w ∈ u_ws C T N, w ∈ gtbl) ∧ Cond.fieldLink own idx (T k).1 (T k).2.1 (T k).2.2.1 ∈ gtbl ∧ (∀ k, k < N → parseFieldDescriptor (T k).2.2.1 = some (ty0 k)) ∧ (∀ a, a < N → ∀ b, b < N → a ≠ b → (T a).2.1 ≠ (T b).2.1) ∧ (T k).2.2.2 = fin ∧ parseFieldDescriptor (T k).2.2.1 = some ty ∧ (fin = true → (T k).1 = own)
theorem aw_getI {M : MI} {X : EX} {R : Room} {mc ms : Nat} {Q : QT} {kc kn : Nat} {S : List SC} {σ : St} {pc : Nat} {L : LV} {st : List Value} {idx a ci k : Nat} {fr : List (Option (Option Nat))} {tab : List (Nat × TE)} {v0 : Int32} {v2 : Int64} (hT : tOK M.1.cls M.2.1 tab = true) (ht : tget tab pc = some (.getfield idx, 3, v0, v2)) (pc2 : Nat) (hp : pc + 3 = pc2) (hS : S[a]? = some (.inl (ci, fr))) (hk : fr[k]? = some none) (hF : FL M.1.cls idx ci k)
    (kk : AW M X R mc ms Q kc kn S σ pc2 L (.int (σ a k) :: st)) : AW M X R mc ms Q kc kn S σ pc L (.ref a :: st) := by
  subst hp
  intro p l e s m args below meth c Z D N A ad0 n0 hC hK hA hX hR ad H locs ls hW hl
  obtain ⟨C, T, n, f1, f2, f3, f4⟩ := hF
  exact va_get (v := .int (σ a k)) hC.1 hC.2.1 hC.2.2.2.2.1 f3 hC.2.2.2.1 hK hW.2.2.1 a (cw_at hS) f1 k f2 (hC.2.2.2.2.1 _ f4) (fun _ h => h) (by simp [List.getElem?_mapIdx, hk, fv]) (tok_at hT ht).1 (kk p l e s m args below meth c Z D N A ad0 n0 hC hK hA hX hR ad H locs ls hW hl)
theorem aw_getR {M : MI} {X : EX} {R : Room} {mc ms : Nat} {Q : QT} {kc kn : Nat} {S : List SC} {σ : St} {pc : Nat} {L : LV} {st : List Value} {idx a ci k b : Nat} {fr : List (Option (Option Nat))} {tab : List (Nat × TE)} {v0 : Int32} {v2 : Int64} (hT : tOK M.1.cls M.2.1 tab = true) (ht : tget tab pc = some (.getfield idx, 3, v0, v2)) (pc2 : Nat) (hp : pc + 3 = pc2) (hS : S[a]? = some (.inl (ci, fr))) (hk : fr[k]? = some (some (some b))) (hF : FL M.1.cls idx ci k)
    (kk : AW M X R mc ms Q kc kn S σ pc2 L (.ref b :: st)) : AW M X R mc ms Q kc kn S σ pc L (.ref a :: st) := by
  subst hp
  intro p l e s m args below meth c Z D N A ad0 n0 hC hK hA hX hR ad H locs ls hW hl
  obtain ⟨C, T, n, f1, f2, f3, f4⟩ := hF
  exact va_get (v := .ref (ad b)) hC.1 hC.2.1 hC.2.2.2.2.1 f3 hC.2.2.2.1 hK hW.2.2.1 a (cw_at hS) f1 k f2 (hC.2.2.2.2.1 _ f4) (fun _ h => h) (by simp [List.getElem?_mapIdx, hk, fv, va_rf]) (tok_at hT ht).1 (kk p l e s m args below meth c Z D N A ad0 n0 hC hK hA hX hR ad H locs ls hW hl)
theorem aw_putI {M : MI} {X : EX} {R : Room} {mc ms : Nat} {Q : QT} {kc kn : Nat} {S : List SC} {σ : St} {pc : Nat} {L : LV} {st : List Value} {idx a ci k : Nat} {x : Int32} {fr : List (Option (Option Nat))} {tab : List (Nat × TE)} {v0 : Int32} {v2 : Int64} (hT : tOK M.1.cls M.2.1 tab = true) (ht : tget tab pc = some (.putfield idx, 3, v0, v2)) (pc2 : Nat) (hp : pc + 3 = pc2) (hS : S[a]? = some (.inl (ci, fr))) (hk : fr[k]? = some none) (hF : FP M.1.cls idx ci k .int false)
    (kk : AW M X R mc ms Q kc kn S (up2 σ a k x) pc2 L st) : AW M X R mc ms Q kc kn S σ pc L (.int x :: .ref a :: st) := by
  subst hp
  intro p l e s m args below meth c Z D N A ad0 n0 hC hK hA hX hR ad H locs ls hW hl
  obtain ⟨C, T, n, ty0, f1, f2, f3, f4, f5, f6, f7, f8, -⟩ := hF
  have hl2 : k < (fr.mapIdx (fv ad (σ a))).length := by simp; exact (List.getElem?_eq_some_iff.mp hk).1
  refine va_put (v := .int x) hC.1 hC.2.1 hC.2.2.2.2.1 f3 ty0 f5 f6 hC.2.2.2.1 hK hW.2.2.1 hW.2.2.2.1 hW.2.2.2.2 a (cw_at hS) f1 k f2 (hC.2.2.2.2.1 _ f4) (fun _ h => h) f7 f8 rfl rfl hl2 (tok_at hT ht).1 (fun H1 locs1 hP hD hSS => ?_)
  have eq9 : (cw N ad S σ).set a (ad a, .inr (ci, (fr.mapIdx (fv ad (σ a))).set k (.int x))) = cw N ad S (up2 σ a k x) := by
    rw [fv_set hk]
    exact cw_set hS rfl
  exact kk p l e s m args below meth c Z D N A ad0 n0 hC hK hA hX hR ad H1 locs1 ls ⟨hW.1, hW.2.1, ws_P eq9 hP, ws_D eq9 hD, hSS⟩ hl
def jz (x : Int32) : Int32 := vp_nar .boolean x
def upC (σ : St) (c : Nat) (f : Nat → Int32) : St := fun c' => if c' = c then f else σ c'
theorem cw_setC {N : N3} {ad : Nat → Nat} {S : List SC} {σ : St} {i : Nat} {f : Nat → Int32} {c : SC} {E : va_E} (h : S[i]? = some c) (hE : ce N ad f c = E) : (cw N ad S σ).set i (ad i, E) = cw N ad S (upC σ i f) := by
  apply List.ext_getElem?
  intro j
  by_cases hj : i = j
  · subst hj
    have hl : i < (cw N ad S σ).length := by simp [cw]; exact (List.getElem?_eq_some_iff.mp h).1
    rw [List.getElem?_set_self hl, cw_at h]
    simp [upC, hE]
  · rw [List.getElem?_set_ne hj]
    have : ¬ j = i := fun q => hj q.symm
    simp [cw, List.getElem?_mapIdx, upC, this]
theorem aw_iald {M : MI} {X : EX} {R : Room} {mc ms : Nat} {Q : QT} {kc kn : Nat} {S : List SC} {σ : St} {pc : Nat} {L : LV} {st : List Value} {a n : Nat} {i : Int32} {tab : List (Nat × TE)} {v0 : Int32} {v2 : Int64} (hT : tOK M.1.cls M.2.1 tab = true) (ht : tget tab pc = some (.iaload, 1, v0, v2)) (pc2 : Nat) (hp : pc + 1 = pc2) (hS : S[a]? = some (.inr (.inl (0, n)))) (hi : vp_in i n)
    (kk : AW M X R mc ms Q kc kn S σ pc2 L (.int (σ a i.toNatClampNeg) :: st)) : AW M X R mc ms Q kc kn S σ pc L (.int i :: .ref a :: st) := by
  subst hp
  intro p l e s m args below meth c Z D N A ad0 n0 hC hK hA hX hR ad H locs ls hW hl
  exact va_iald hC.1 hC.2.1 hK hW.2.2.1 a 0 (cw_at hS) rfl hi (tok_at hT ht).1 (kk p l e s m args below meth c Z D N A ad0 n0 hC hK hA hX hR ad H locs ls hW hl)
theorem aw_zald {M : MI} {X : EX} {R : Room} {mc ms : Nat} {Q : QT} {kc kn : Nat} {S : List SC} {σ : St} {pc : Nat} {L : LV} {st : List Value} {a n : Nat} {i : Int32} {tab : List (Nat × TE)} {v0 : Int32} {v2 : Int64} (hT : tOK M.1.cls M.2.1 tab = true) (ht : tget tab pc = some (.baload, 1, v0, v2)) (pc2 : Nat) (hp : pc + 1 = pc2) (hS : S[a]? = some (.inr (.inl (1, n)))) (hi : vp_in i n)
    (kk : AW M X R mc ms Q kc kn S σ pc2 L (.int (σ a i.toNatClampNeg) :: st)) : AW M X R mc ms Q kc kn S σ pc L (.int i :: .ref a :: st) := by
  subst hp
  intro p l e s m args below meth c Z D N A ad0 n0 hC hK hA hX hR ad H locs ls hW hl
  exact va_zald hC.1 hC.2.1 hK hW.2.2.1 a 1 (cw_at hS) rfl hi (tok_at hT ht).1 (kk p l e s m args below meth c Z D N A ad0 n0 hC hK hA hX hR ad H locs ls hW hl)
theorem aw_iast {M : MI} {X : EX} {R : Room} {mc ms : Nat} {Q : QT} {kc kn : Nat} {S : List SC} {σ : St} {pc : Nat} {L : LV} {st : List Value} {a n : Nat} {i x : Int32} {tab : List (Nat × TE)} {v0 : Int32} {v2 : Int64} (hT : tOK M.1.cls M.2.1 tab = true) (ht : tget tab pc = some (.iastore, 1, v0, v2)) (pc2 : Nat) (hp : pc + 1 = pc2) (hS : S[a]? = some (.inr (.inl (0, n)))) (hi : vp_in i n)
    (kk : AW M X R mc ms Q kc kn S (up2 σ a i.toNatClampNeg x) pc2 L st) : AW M X R mc ms Q kc kn S σ pc L (.int x :: .int i :: .ref a :: st) := by
  subst hp
  intro p l e s m args below meth c Z D N A ad0 n0 hC hK hA hX hR ad H locs ls hW hl
  refine va_iast hC.1 hC.2.1 hK hW.2.2.1 hW.2.2.2.1 hW.2.2.2.2 a 0 (cw_at hS) rfl hi (tok_at hT ht).1 (fun H1 locs1 hP hD hSS => ?_)
  have eq9 := cw_set (N := N) (ad := ad) (σ := σ) (k := i.toNatClampNeg) (v := x) hS rfl
  exact kk p l e s m args below meth c Z D N A ad0 n0 hC hK hA hX hR ad H1 locs1 ls ⟨hW.1, hW.2.1, ws_P eq9 hP, ws_D eq9 hD, hSS⟩ hl
theorem aw_zast {M : MI} {X : EX} {R : Room} {mc ms : Nat} {Q : QT} {kc kn : Nat} {S : List SC} {σ : St} {pc : Nat} {L : LV} {st : List Value} {a n : Nat} {i x : Int32} {tab : List (Nat × TE)} {v0 : Int32} {v2 : Int64} (hT : tOK M.1.cls M.2.1 tab = true) (ht : tget tab pc = some (.bastore, 1, v0, v2)) (pc2 : Nat) (hp : pc + 1 = pc2) (hS : S[a]? = some (.inr (.inl (1, n)))) (hi : vp_in i n)
    (kk : AW M X R mc ms Q kc kn S (up2 σ a i.toNatClampNeg (jz x)) pc2 L st) : AW M X R mc ms Q kc kn S σ pc L (.int x :: .int i :: .ref a :: st) := by
  subst hp
  intro p l e s m args below meth c Z D N A ad0 n0 hC hK hA hX hR ad H locs ls hW hl
  refine va_zast hC.1 hC.2.1 hK hW.2.2.1 hW.2.2.2.1 hW.2.2.2.2 a 1 (cw_at hS) rfl hi (tok_at hT ht).1 (fun H1 locs1 hP hD hSS => ?_)
  have eq9 := cw_set (N := N) (ad := ad) (σ := σ) (k := i.toNatClampNeg) (v := (jz x)) hS rfl
  exact kk p l e s m args below meth c Z D N A ad0 n0 hC hK hA hX hR ad H1 locs1 ls ⟨hW.1, hW.2.1, ws_P eq9 hP, ws_D eq9 hD, hSS⟩ hl
theorem aw_alen {M : MI} {X : EX} {R : Room} {mc ms : Nat} {Q : QT} {kc kn : Nat} {S : List SC} {σ : St} {pc : Nat} {L : LV} {st : List Value} {a n t : Nat} {tab : List (Nat × TE)} {v0 : Int32} {v2 : Int64} (hT : tOK M.1.cls M.2.1 tab = true) (ht : tget tab pc = some (.arraylength, 1, v0, v2)) (pc2 : Nat) (hp : pc + 1 = pc2) (hS : S[a]? = some (.inr (.inl (0, n)))) {x : Int32} (hx : Int32.ofNat n = x)
    (kk : AW M X R mc ms Q kc kn S σ pc2 L (.int x :: st)) : AW M X R mc ms Q kc kn S σ pc L (.ref a :: st) := by
  subst hp
  intro p l e s m args below meth c Z D N A ad0 n0 hC hK hA hX hR ad H locs ls hW hl
  exact va_alen hC.1 hC.2.1 hK hW.2.2.1 a 0 (cw_at hS) rfl hx (tok_at hT ht).1 (kk p l e s m args below meth c Z D N A ad0 n0 hC hK hA hX hR ad H locs ls hW hl)
def rfv (r : Option Nat) : Value := match r with
  | none => .null
  | some b => .ref b
theorem aw_aald {M : MI} {X : EX} {R : Room} {mc ms : Nat} {Q : QT} {kc kn : Nat} {S : List SC} {σ : St} {pc : Nat} {L : LV} {st : List Value} {a n : Nat} {g : Nat → Option Nat} {i : Int32} {tab : List (Nat × TE)} {v0 : Int32} {v2 : Int64} (hT : tOK M.1.cls M.2.1 tab = true) (ht : tget tab pc = some (.aaload, 1, v0, v2)) (pc2 : Nat) (hp : pc + 1 = pc2) (hS : S[a]? = some (.inr (.inr (n, g)))) (hi : vp_in i n) {u : Value} (hu : rfv (g i.toNatClampNeg) = u)
    (kk : AW M X R mc ms Q kc kn S σ pc2 L (u :: st)) : AW M X R mc ms Q kc kn S σ pc L (.int i :: .ref a :: st) := by
  subst hp; subst hu
  intro p l e s m args below meth c Z D N A ad0 n0 hC hK hA hX hR ad H locs ls hW hl
  refine va_aldq hC.1 hC.2.1 hK hW.2.2.1 a 2 (cw_at hS) rfl hi (tok_at hT ht).1 ?_
  have h := kk p l e s m args below meth c Z D N A ad0 n0 hC hK hA hX hR ad H locs ls hW hl
  have e : vc ad (rfv (g i.toNatClampNeg)) = va_rf ((g i.toNatClampNeg).map ad) := by cases g i.toNatClampNeg <;> rfl
  rw [List.map_cons, e] at h
  exact h
theorem cw_setG {N : N3} {ad : Nat → Nat} {S : List SC} {σ : St} {i : Nat} {c : SC} {E : va_E} (hi : i < S.length) (hE : ce N ad (σ i) c = E) : (cw N ad S σ).set i (ad i, E) = cw N ad (S.set i c) σ := by
  apply List.ext_getElem?
  intro j
  by_cases hj : i = j
  · subst hj
    have hl : i < (cw N ad S σ).length := by simp [cw]; exact hi
    rw [List.getElem?_set_self hl]
    have h2 : (S.set i c)[i]? = some c := List.getElem?_set_self hi
    rw [cw_at h2, hE]
  · rw [List.getElem?_set_ne hj]
    simp [cw, List.getElem?_mapIdx, List.getElem?_set_ne hj]
theorem aw_aast {M : MI} {X : EX} {R : Room} {mc ms : Nat} {Q : QT} {kc kn : Nat} {S : List SC} {σ : St} {pc : Nat} {L : LV} {st : List Value} {a n b : Nat} {g : Nat → Option Nat} {fr : List (Option (Option Nat))} {i : Int32} {tab : List (Nat × TE)} {v0 : Int32} {v2 : Int64} (hT : tOK M.1.cls M.2.1 tab = true) (ht : tget tab pc = some (.aastore, 1, v0, v2)) (pc2 : Nat) (hp : pc + 1 = pc2) (hS : S[a]? = some (.inr (.inr (n, g)))) (hb : S[b]? = some (.inl (0, fr))) (hi : vp_in i n)
    (kk : AW M X R mc ms Q kc kn (S.set a (.inr (.inr (n, va_up g i.toNatClampNeg (some b))))) σ pc2 L st) : AW M X R mc ms Q kc kn S σ pc L (.ref b :: .int i :: .ref a :: st) := by
  subst hp
  intro p l e s m args below meth c Z D N A ad0 n0 hC hK hA hX hR ad H locs ls hW hl
  refine va_astq (r := (RX0, TX0, 13)) hC.1 hC.2.1 hK hW.2.2.1 hW.2.2.2.1 hW.2.2.2.2 a 2 b 0 (cw_at hS) rfl (cw_at hb) rfl hi (tok_at hT ht).1 (fun H1 locs1 hP hD hSS => ?_)
  have eq9 := cw_setG (N := N) (ad := ad) (σ := σ) (i := a) (c := .inr (.inr (n, va_up g i.toNatClampNeg (some b)))) (E := .inl (N.2.2, n, .inr (.inr (.inr (.inr (va_up (fun k => (g k).map ad) i.toNatClampNeg (some (ad b)))))))) (List.getElem?_eq_some_iff.mp hS).1 (by
    have hf : (fun k => (va_up g i.toNatClampNeg (some b) k).map ad) = va_up (fun k => (g k).map ad) i.toNatClampNeg (some (ad b)) := by
      funext k
      by_cases hk : k = i.toNatClampNeg <;> simp [va_up, hk]
    simp only [ce, hf])
  exact kk p l e s m args below meth c Z D N A ad0 n0 hC hK hA hX hR ad H1 locs1 ls ⟨by rw [List.length_set]; exact hW.1, hW.2.1, ws_P eq9 hP, ws_D eq9 hD, hSS⟩ hl
theorem aw_putF {M : MI} {X : EX} {R : Room} {mc ms : Nat} {Q : QT} {kc kn : Nat} {S : List SC} {σ : St} {pc : Nat} {L : LV} {st : List Value} {idx a ci k b : Nat} {ty : FieldType} {fr : List (Option (Option Nat))} {f0 : Option (Option Nat)} {tab : List (Nat × TE)} {v0 : Int32} {v2 : Int64} (hT : tOK M.1.cls M.2.1 tab = true) (ht : tget tab pc = some (.putfield idx, 3, v0, v2)) (pc2 : Nat) (hp : pc + 3 = pc2) (hS : S[a]? = some (.inl (ci, fr))) (hk : fr[k]? = some f0) (hF : FP M.1.cls idx ci k ty true) (hi : M.1.name = "<init>") (hn : ∀ z, narrow ty (.ref z) = .ref z ∧ fits ty (.ref z) = true)
    (kk : AW M X R mc ms Q kc kn (S.set a (.inl (ci, fr.set k (some (some b))))) σ pc2 L st) : AW M X R mc ms Q kc kn S σ pc L (.ref b :: .ref a :: st) := by
  subst hp
  intro p l e s m args below meth c Z D N A ad0 n0 hC hK hA hX hR ad H locs ls hW hl
  obtain ⟨C, T, n, ty0, f1, f2, f3, f4, f5, f6, f7, f8, f9⟩ := hF
  have hl2 : k < (fr.mapIdx (fv ad (σ a))).length := by simp; exact (List.getElem?_eq_some_iff.mp hk).1
  refine va_putF (v := .ref (ad b)) hC.1 hC.2.1 hC.2.2.2.2.1 f3 ty0 f5 f6 hC.2.2.2.1 hK hW.2.2.1 hW.2.2.2.1 hW.2.2.2.2 a (cw_at hS) f1 k f2 (hC.2.2.2.2.1 _ f4) (fun _ h => h) f7 (hC.2.2.2.2.2.1.trans hi) (f9 rfl) f8 (hn _).1 (hn _).2 hl2 (tok_at hT ht).1 (fun H1 locs1 hP hD hSS => ?_)
  have eq9 := cw_setG (N := N) (ad := ad) (σ := σ) (i := a) (c := .inl (ci, fr.set k (some (some b)))) (E := .inr (ci, (fr.mapIdx (fv ad (σ a))).set k (.ref (ad b)))) (List.getElem?_eq_some_iff.mp hS).1 (by
    simp only [ce]
    congr 2
    apply List.ext_getElem?
    intro j
    by_cases hj : k = j
    · subst hj
      rw [List.getElem?_set_self hl2, List.getElem?_mapIdx, List.getElem?_set_self (List.getElem?_eq_some_iff.mp hk).1]
      rfl
    · rw [List.getElem?_set_ne hj]
      simp [List.getElem?_mapIdx, List.getElem?_set_ne hj])
  exact kk p l e s m args below meth c Z D N A ad0 n0 hC hK hA hX hR ad H1 locs1 ls ⟨by rw [List.length_set]; exact hW.1, hW.2.1, ws_P eq9 hP, ws_D eq9 hD, hSS⟩ hl
theorem aw_copy {M : MI} {X : EX} {R : Room} {mc ms : Nat} {Q : QT} {kc kn : Nat} {S : List SC} {σ : St} {pc : Nat} {L : LV} {st : List Value} {idx a b na nb : Nat} {sp dp n : Int32} {tab : List (Nat × TE)} {v0 : Int32} {v2 : Int64} (hT : tOK M.1.cls M.2.1 tab = true) (ht : tget tab pc = some (.invokestatic idx, 3, v0, v2)) (pc2 : Nat) (hp : pc + 3 = pc2) (hlk : Cond.methodLink M.1.cls idx arraycopyName ∈ tables_1) (ha : S[a]? = some (.inr (.inl (0, na)))) (hb : S[b]? = some (.inr (.inl (0, nb)))) (h1 : ¬ sp < 0) (h2 : ¬ dp < 0) (h3 : ¬ n < 0) (h4 : sp.toNatClampNeg + n.toNatClampNeg ≤ na) (h5 : dp.toNatClampNeg + n.toNatClampNeg ≤ nb) (hfr : 1 ≤ R.frames) (hlo : (st.map fun v => v.category).sum + (nativeFrameWords "java/lang/System" "arraycopy" 5 + 11) ≤ R.locals)
    (kk : AW M X R mc ms Q kc kn S (upC σ b (va_cpy (σ a) (σ b) sp.toNatClampNeg dp.toNatClampNeg n.toNatClampNeg)) pc2 L st) : AW M X R mc ms Q kc kn S σ pc L (.int n :: .int dp :: .ref b :: .int sp :: .ref a :: st) := by
  subst hp
  intro p l e s m args below meth c Z D N A ad0 n0 hC hK hA hX hR ad H locs ls hW hl
  have hlo2 : ((st.map (vc ad)).map fun v => v.category).sum + (nativeFrameWords "java/lang/System" "arraycopy" 5 + 11) ≤ R.locals := by
    rw [List.map_map, show ((fun v : Value => v.category) ∘ vc ad) = (fun v => v.category) from funext (vc_cat ad)]
    exact hlo
  refine va_copyi (ty := .int) hC.1 hC.2.1 (hC.2.2.1.trans hl.1.symm) hC.2.2.2.1 (hC.2.2.2.2.1 _ (gt_mem hlk rfl)) (hC.2.2.2.2.1 _ (gt_mem (List.mem_of_getElem? (i := 250) (by decide +kernel)) rfl)) (hC.2.2.2.2.1 (.static arraycopyName) (by decide +kernel)) (hC.2.2.2.2.1 (.initialized "java/lang/System") (by decide +kernel)) hK hW.2.2.1 hW.2.2.2.1 hW.2.2.2.2 a b 0 0 (cw_at ha) (cw_at hb) rfl rfl rfl h1 h2 h3 h4 h5 (fun _ _ => rfl) hfr hlo2 (tok_at hT ht).1 (fun H1 locs1 hP hD hSS => ?_)
  have eq9 := cw_setC (N := N) (ad := ad) (σ := σ) (f := va_cpy (σ a) (σ b) sp.toNatClampNeg dp.toNatClampNeg n.toNatClampNeg) hb rfl
  exact kk p l e s m args below meth c Z D N A ad0 n0 hC hK hA hX hR ad H1 locs1 ls ⟨hW.1, hW.2.1, ws_P eq9 hP, ws_D eq9 hD, hSS⟩ hl
end
section
/-! ===== calls: a method's contract over the whole world ===== -/
def QC (D : va_G) (N : N3) (ad0 : Nat → Nat) (n0 : Nat) (A : Nat → Prop) (Q : QT) : Array Value → State → Outcome → State → Prop := fun _ st oc t =>
  (∃ (v : Option Value) (S : List SC) (σ : St) (ad : Nat → Nat), oc = .returned (v.map (vc ad)) ∧ Q v S σ ∧ n0 ≤ S.length ∧ (∀ k, k < n0 ∨ 777 ≤ k → ad k = ad0 k) ∧ va_P D vwCl (cw N ad S σ) t.heap ∧ va_D A (cw N ad S σ)) ∧ va_F A st t
def Pr (D : va_G) (N : N3) (ad : Nat → Nat) (S : List SC) (σ : St) (sz : Nat) (av : List Value) : Array Value → State → Prop := va_Pc (av.map (vc ad)) (fun U => U.heap.size = sz ∧ va_P D vwCl (cw N ad S σ) U.heap ∧ va_K D vwCl (tys3 N) U ∧ va_D (fun _ => True) (cw N ad S σ) ∧ NW U)
def Sp (M : MI) (rm : Room) (mc ms : Nat) (av : List Value) (S : List SC) (σ : St) (Q : QT) : Prop :=
  ∀ (l : Launch) (D : va_G) (N : N3) (ad : Nat → Nat) (sz : Nat), Met l M.1 (mwords M) rm (Pr D N ad S σ sz av) (QC D N ad S.length (va_A (cw N ad S σ) sz) Q) mc ms (va_A (cw N ad S σ) sz)
theorem lv_args_con (ad : Nat → Nat) (av : List Value) : ∀ i, lv_args i (av.map (vc ad)) = conL ad (lv_args i av) := by
  induction av with
  | nil => intro i; rfl
  | cons v vs ih =>
    intro i
    show (i, vc ad v) :: lv_args (if (vc ad v).category = 2 then i + 2 else i + 1) (vs.map (vc ad)) = (i, vc ad v) :: conL ad (lv_args (if v.category = 2 then i + 2 else i + 1) vs)
    rw [vc_cat, ih]
theorem lg_sl_con (ad : Nat → Nat) (av : List Value) : (lg_sl (av.map (vc ad))).length = (lg_sl av).length := by
  induction av with
  | nil => rfl
  | cons v vs ih =>
    simp only [lg_sl, List.map_cons, List.flatMap_cons, List.length_append] at ih ⊢
    rw [ih, vc_cat]
    by_cases h : v.category = 2 <;> simp [h]
theorem NW.warm {s U : State} (hW : s.WarmedH U.vm) (h : NW s) : NW U := ⟨fun q hq => va_Nw.warmM hW (h.1 q hq), va_AO.moved hW.alike h.2⟩
theorem Sp.of {M : MI} {rm : Room} {mc ms : Nat} {av : List Value} {S : List SC} {σ : St} {Q : QT} (hy : plainName M.1.cls = true) (hlen : (lg_sl av).length ≤ M.2.2.1) (h : AW M (fun _ _ _ => True) rm mc ms Q 0 0 S σ 0 (lv_args 0 av) []) : Sp M rm mc ms av S σ Q := by
  intro l D N ad sz
  refine Met.ofW (cc := M.2.1) (maxL := M.2.2.1) (ret := M.2.2.2) hy rfl ?_
  intro p e s m args below meth c s₁ B hml hv
  obtain ⟨rfl, hsz, hP, hK, hD0, hN⟩ := hv
  subst hsz
  have hts := atoms_spec (ws := mwords M) B.pre
  have hl := lv_entry (av.map (vc ad)) (n := M.2.2.1) (by rw [lg_sl_con]; exact hlen)
  rw [lg_entry_eq]
  rw [lv_args_con] at hl
  refine h p l e s m _ below meth c _ D N (va_A (cw N ad S σ) s.heap.size) ad S.length ⟨B.exec, B.bytes, hml, findClass_of_methodNamed B.named, fun w hw => hts w (List.mem_cons_of_mem _ hw), (name_of_methodNamed B.named B.method).1, hN⟩ hK (fun q h => Or.inr h) trivial ?_ ad s.heap [] _ ⟨Nat.le_refl _, fun _ _ => rfl, hP, hD0.self, va_S.rf⟩ hl
  intro v S' σ' ad' H locs ls pc kc kn hq hW hc hs hr
  have hlocks := B.notSynchronized
  refine W.widen hc hs ?_
  match v, hr, hq with
  | none, hr, hq =>
    refine W.vret B.exec B.bytes (B.returns.trans hr.2) (fun t ht hWt => ⟨⟨none, S', σ', ad', rfl, hq, hW.1, hW.2.1, by rw [ht]; exact hW.2.2.1, hW.2.2.2.1⟩, hW.2.2.2.2.F ht⟩) hW.2.2.2.2.2.2 hr.1
  | some (.int x), hr, hq =>
    obtain ⟨h1, ty, h2, h3⟩ := hr
    refine W.zret B.exec B.bytes (B.returns.trans h2) h3 (fun t ht hWt => ⟨⟨some (.int x), S', σ', ad', rfl, hq, hW.1, hW.2.1, by rw [ht]; exact hW.2.2.1, hW.2.2.2.1⟩, hW.2.2.2.2.F ht⟩) hW.2.2.2.2.2.2 h1
  | some (.long x), hr, hq =>
    refine W.lret B.exec B.bytes (B.returns.trans hr.2) (fun t ht hWt => ⟨⟨some (.long x), S', σ', ad', rfl, hq, hW.1, hW.2.1, by rw [ht]; exact hW.2.2.1, hW.2.2.2.1⟩, hW.2.2.2.2.F ht⟩) hW.2.2.2.2.2.2 hr.1
  | some (.float _), hr, _ => exact hr.elim
  | some (.double _), hr, _ => exact hr.elim
  | some .null, hr, _ => exact hr.elim
  | some (.ref _), hr, _ => exact hr.elim
  | some (.retAddr _), hr, _ => exact hr.elim
theorem after {p : Program} {l : Launch} {e : Env} {R : Room} {s : State} {m : MethodId} {args : Array Value} {below : List Frame} {meth : Method} {c : Code} {H : Heap} {locs : List Loc} {kc kn mc' ms' : Nat} {Z : State → Prop} {pc : Nat} {ls : Array Slot} {D : va_G} {N : N3} {A : Nat → Prop} {ad0 ad : Nat → Nat} {n0 : Nat} {S : List SC} {σ : St} {st0 rest : List Value} {Q' : QT} {a' : Array Value}
    (hr : va_Run p l e R s m args below meth c H locs kc kn mc' ms' (F0 m pc ls st0) (rest.map (vc ad)) (QC D N ad S.length (va_A (cw N ad S σ) H.size) Q' a') (va_A (cw N ad S σ) H.size))
    (hA : ∀ q, s.heap.size ≤ q → A q) (hW : WS D N A s ad0 n0 ad S σ H locs)
    (kk : ∀ (v : Option Value) (S' : List SC) (σ' : St) (ad' : Nat → Nat) (H1 : Heap) (locs1 : List Loc), Q' v S' σ' → S.length ≤ S'.length → (∀ k, k < S.length ∨ 777 ≤ k → ad' k = ad k) → WS D N A s ad0 n0 ad' S' σ' H1 locs1 → W p l e R s m args below meth c H1 locs1 (kc + mc') (kn + ms') Z (F0 m (pc + 3) ls ((v.map (vc ad')).toList ++ rest.map (vc ad)))) :
    W p l e R s m args below meth c H locs kc kn Z (F0 m pc ls st0) := by
  intro T hT X
  obtain ⟨v1, st₀, t, T', L, h0, X', hL, e1, e2, ⟨⟨v, S', σ', ad', hv, hq, hn, had, hP, hD⟩, hz, hk⟩, stp⟩ := hr T hT X
  cases hv
  rw [h0] at hz hk
  have hF : ∀ q, va_A (cw N ad S σ) H.size q → A q := by
    rintro q (⟨k, ee, h⟩ | h)
    · exact hW.2.2.2.1.2 k (q, ee) h
    · exact hA q (Nat.le_trans hW.2.2.2.2.1 h)
  have hS := hW.2.2.2.2
  obtain ⟨t2, a1, b1⟩ := kk v S' σ' ad' T'.heap (locs ++ L) hq hn had
    ⟨Nat.le_trans hW.1 hn, fun k h => (had k (h.imp_left (fun h => Nat.lt_of_lt_of_le h hW.1))).trans (hW.2.1 k h), by rw [e1]; exact hP, hD.weaken (fun _ q _ h => hF q.1 h),
      Nat.le_trans hS.1 (by rw [e1]; exact hz), fun q h1 h2 => by rw [e1, hk q (Nat.lt_of_lt_of_le h1 hS.1) (fun z => h2 (hF q z))]; exact hS.2.1 q h1 h2, fun q hq => by
        rcases List.mem_append.mp hq with h | h
        · exact hS.2.2 q h
        · exact hF _ (hL q h)⟩ T' rfl X'
  exact ⟨t2, stp t2 a1, b1⟩
def vok (n : Nat) (v : Value) : Bool := match v with
  | .ref k => Nat.blt k n || Nat.ble 777 k
  | _ => true
theorem vok_eq {n : Nat} {v : Value} {ad ad' : Nat → Nat} (h : vok n v = true) (ha : ∀ k, k < n ∨ 777 ≤ k → ad' k = ad k) : vc ad' v = vc ad v := by
  cases v with
  | ref k =>
    show Value.ref (ad' k) = Value.ref (ad k)
    simp only [vok, Bool.or_eq_true] at h
    rw [ha k (h.imp Nat.le_of_ble_eq_true Nat.le_of_ble_eq_true)]
  | _ => rfl
theorem vokL_eq {n : Nat} {L : LV} {ad ad' : Nat → Nat} (h : L.all (fun q => vok n q.2) = true) (ha : ∀ k, k < n ∨ 777 ≤ k → ad' k = ad k) : conL ad' L = conL ad L := by
  apply List.map_congr_left
  intro q hq
  rw [vok_eq (List.all_eq_true.mp h q hq) ha]
theorem vokS_eq {n : Nat} {st : List Value} {ad ad' : Nat → Nat} (h : st.all (vok n) = true) (ha : ∀ k, k < n ∨ 777 ≤ k → ad' k = ad k) : st.map (vc ad') = st.map (vc ad) := by
  apply List.map_congr_left
  intro q hq
  exact vok_eq (List.all_eq_true.mp h q hq) ha
theorem mw_good {M : MI} (hc : Cond.code M.1 M.2.1 M.2.2.1 M.2.2.2 ∈ gtbl) : GoodIn gtbl (mwords M) := by
  intro w hw
  rcases List.mem_cons.mp hw with rfl | hw
  · exact ⟨hc, good_of_word (gt_good _ hc)⟩
  · exact ⟨hw, good_of_word (gt_good _ hw)⟩
theorem Pr.blind {D : va_G} {N : N3} {ad : Nat → Nat} {S : List SC} {σ : St} {sz : Nat} {av : List Value} : FrameBlind (Pr D N ad S σ sz av) := by
  intro a U g mk q
  obtain ⟨q0, q1, qP, qK, qD, qN⟩ := q
  exact ⟨q0, q1, qP, va_K.moved (u := U) (U := U.calling g mk a) (Vm.Alike.refl U.vm) qK, qD, ⟨fun w hw => va_Nw.same rfl (u := U) (U := U.calling g mk a) rfl (qN.1 w hw), va_AO.moved (u := U) (U := U.calling g mk a) (Vm.Alike.refl U.vm) qN.2⟩⟩
/-- a method's own words -/
def MV (M : MI) (n : Nat) : Prop := Cond.instanceMethod M.1 ∈ gtbl ∧ Cond.selects M.1.cls M.1 M.1 ∈ gtbl ∧ Cond.initialized M.1.cls ∈ gtbl ∧ Cond.code M.1 M.2.1 M.2.2.1 M.2.2.2 ∈ gtbl ∧ M.1.cls ≠ "java/lang/invoke/MethodHandle" ∧ M.1.cls ≠ "java/lang/invoke/VarHandle" ∧ (parseMethodDescriptor M.1.desc).map (fun d => d.parameters.length) = some n
def MSt (M : MI) (n : Nat) : Prop := Cond.static M.1 ∈ gtbl ∧ Cond.initialized M.1.cls ∈ gtbl ∧ Cond.code M.1 M.2.1 M.2.2.1 M.2.2.2 ∈ gtbl ∧ M.1.cls ≠ "java/lang/invoke/MethodHandle" ∧ M.1.cls ≠ "java/lang/invoke/VarHandle" ∧ (parseMethodDescriptor M.1.desc).map (fun d => d.parameters.length) = some n
def MIn (M : MI) (n : Nat) : Prop := Cond.instanceMethod M.1 ∈ gtbl ∧ Cond.initialized M.1.cls ∈ gtbl ∧ Cond.code M.1 M.2.1 M.2.2.1 M.2.2.2 ∈ gtbl ∧ M.1.name = "<init>" ∧ M.2.2.2 = none ∧ M.1.cls ≠ "java/lang/invoke/MethodHandle" ∧ M.1.cls ≠ "java/lang/invoke/VarHandle" ∧ (parseMethodDescriptor M.1.desc).map (fun d => d.parameters.length) = some n
def LK (own : String) (idx : Nat) (y : MethodName) : Prop := Cond.methodLink own idx y ∈ gtbl
def rmOK (rm R : Room) (M : MI) (mc ms kc kn : Nat) : Prop := rm.cells = mc ∧ rm.slots = ms ∧ (rm.frames + 1 ≤ R.frames ∧ 8 + (M.2.2.1 + 11) + rm.locals ≤ R.locals) ∧ (kc + mc ≤ R.cells ∧ kn + ms ≤ R.slots)
theorem stk_eq (ad : Nat → Nat) (av rest : List Value) : (av.reverse ++ rest).map (vc ad) = (av.map (vc ad)).reverse ++ rest.map (vc ad) := by simp
theorem cat_eq (ad : Nat → Nat) (rest : List Value) : ((rest.map (vc ad)).map fun v => v.category).sum = (rest.map fun v => v.category).sum := by
  rw [List.map_map, show ((fun v : Value => v.category) ∘ vc ad) = (fun v => v.category) from funext (vc_cat ad)]
theorem aw_callV {M : MI} {X : EX} {R : Room} {mc ms : Nat} {Q : QT} {kc kn : Nat} {S : List SC} {σ : St} {pc : Nat} {L : LV} {st : List Value} {idx n mc' ms' : Nat} {M' : MI} {rm : Room} {av rest : List Value} {Q' : QT} {tab : List (Nat × TE)} {v0 : Int32} {v2 : Int64} (hT : tOK M.1.cls M.2.1 tab = true) (ht : tget tab pc = some (.invokevirtual idx, 3, v0, v2)) (pc2 : Nat) (hp : pc + 3 = pc2) {a ci : Nat} {fr : List (Option (Option Nat))} (hst : st = av.reverse ++ .ref a :: rest) (hk : LK M.1.cls idx M'.1) (hM : MV M' n) (hn : av.length = n) (hS : S[a]? = some (.inl (ci, fr))) (hcl : ∃ T k, vwCl[ci]? = some (M'.1.cls, T, k)) (hsp : Sp M' rm mc' ms' (.ref a :: av) S σ Q')
    (hrm : rmOK rm R M' mc' ms' kc kn) (hcat : (rest.map fun v => v.category).sum ≤ 8) (nv : Nat) (hnv : nv ≤ S.length) (hv : (L.all (fun q => vok nv q.2) && rest.all (vok nv)) = true)
    (kk : ∀ (v : Option Value) (S' : List SC) (σ' : St), Q' v S' σ' → AW M X R mc ms Q (kc + mc') (kn + ms') S' σ' pc2 L (v.toList ++ rest)) : AW M X R mc ms Q kc kn S σ pc L st := by
  subst hst; subst hp
  simp only [Bool.and_eq_true] at hv
  intro p l e s m args below meth c Z D N A ad0 n0 hC hK hA hX hR ad H locs ls hW hl
  have hPr : ∀ U : State, U.heap = H → s.WarmedH U.vm → Pr D N ad S σ H.size (.ref a :: av) (((.ref a :: av)).map (vc ad)).toArray U := fun U hU hWU => ⟨rfl, by rw [hU], by rw [hU]; exact hW.2.2.1, va_K.moved hWU.alike hK, hW.2.2.2.1.weaken (fun _ _ _ _ => trivial), NW.warm hWU hC.2.2.2.2.2.2⟩
  obtain ⟨m1, m2, m3, m4, m5, m6, m7⟩ := hM
  obtain ⟨T0, k0, hcl⟩ := hcl
  have hG : GoodIn gtbl (wsV M.1.cls idx M'.1.cls M'.1 (mwords M')) := by
    intro w hw
    rcases List.mem_append.mp hw with h | h
    · simp only [List.mem_cons, List.not_mem_nil, or_false] at h
      rcases h with rfl | rfl | rfl | rfl
      · exact ⟨hk, good_of_word (gt_good _ hk)⟩
      · exact ⟨m1, good_of_word (gt_good _ m1)⟩
      · exact ⟨m2, good_of_word (gt_good _ m2)⟩
      · exact ⟨m3, good_of_word (gt_good _ m3)⟩
    · exact mw_good m4 w h
  have hrun := va_runV (p := p) (l := l) (e := e) (below := below) (meth := meth) (locs := locs) (cells := kc) (slots := kn) (g := F0 m pc ls ((av.reverse ++ .ref a :: rest).map (vc ad))) (As := av.map (vc ad)) (rest := rest.map (vc ad)) (b := ad a) (nL := M.2.2.1) (Ts := gtbl) ⟨hC.1, hC.2.1, hC.2.2.1, hC.2.2.2.1, hC.2.2.2.2.1⟩ (hsp l D N ad H.size) (cwV n hC.2.2.2.2.1 hG rfl hrm.1 hrm.2.1 ⟨rfl, m5, m6, m7⟩ hrm.2.2.1) ⟨Pr.blind, va_recv hK hW.2.2.1 hcl (cw_at hS), hPr⟩ rfl (by rw [List.length_map]; exact hn) hl.1 (stk_eq ad av (.ref a :: rest)) (lv_room (by rw [cat_eq]; exact hcat)) (tok_at hT ht).1 hrm.2.2.2
  refine after (ad := ad) (S := S) (σ := σ) (rest := rest) hrun hA hW (fun v S' σ' ad' H1 locs1 hq hn' had hW' => ?_)
  have had' : ∀ k, k < nv ∨ 777 ≤ k → ad' k = ad k := fun k h => had k (h.imp_left (fun h => Nat.lt_of_lt_of_le h hnv))
  have hl' : lv_has ls M.2.2.1 (conL ad' L) := by rw [vokL_eq hv.1 had']; exact hl
  have h := kk v S' σ' hq p l e s m args below meth c Z D N A ad0 n0 hC hK hA hX hR ad' H1 locs1 ls hW' hl'
  have eq9 : (v.toList ++ rest).map (vc ad') = (v.map (vc ad')).toList ++ rest.map (vc ad) := by
    rw [List.map_append, vokS_eq hv.2 had']
    cases v <;> rfl
  rw [eq9] at h
  exact h
theorem aw_callS {M : MI} {X : EX} {R : Room} {mc ms : Nat} {Q : QT} {kc kn : Nat} {S : List SC} {σ : St} {pc : Nat} {L : LV} {st : List Value} {idx n mc' ms' : Nat} {M' : MI} {rm : Room} {av rest : List Value} {Q' : QT} {tab : List (Nat × TE)} {v0 : Int32} {v2 : Int64} (hT : tOK M.1.cls M.2.1 tab = true) (ht : tget tab pc = some (.invokestatic idx, 3, v0, v2)) (pc2 : Nat) (hp : pc + 3 = pc2) (hst : st = av.reverse ++ rest) (hk : LK M.1.cls idx M'.1) (hM : MSt M' n) (hn : av.length = n) (hsp : Sp M' rm mc' ms' av S σ Q')
    (hrm : rmOK rm R M' mc' ms' kc kn) (hcat : (rest.map fun v => v.category).sum ≤ 8) (nv : Nat) (hnv : nv ≤ S.length) (hv : (L.all (fun q => vok nv q.2) && rest.all (vok nv)) = true)
    (kk : ∀ (v : Option Value) (S' : List SC) (σ' : St), Q' v S' σ' → AW M X R mc ms Q (kc + mc') (kn + ms') S' σ' pc2 L (v.toList ++ rest)) : AW M X R mc ms Q kc kn S σ pc L st := by
  subst hst; subst hp
  simp only [Bool.and_eq_true] at hv
  intro p l e s m args below meth c Z D N A ad0 n0 hC hK hA hX hR ad H locs ls hW hl
  have hPr : ∀ U : State, U.heap = H → s.WarmedH U.vm → Pr D N ad S σ H.size av ((av).map (vc ad)).toArray U := fun U hU hWU => ⟨rfl, by rw [hU], by rw [hU]; exact hW.2.2.1, va_K.moved hWU.alike hK, hW.2.2.2.1.weaken (fun _ _ _ _ => trivial), NW.warm hWU hC.2.2.2.2.2.2⟩
  obtain ⟨m1, m3, m4, m5, m6, m7⟩ := hM
  have hG : GoodIn gtbl (va_wsS M.1.cls idx M'.1 (mwords M')) := by
    intro w hw
    rcases List.mem_append.mp hw with h | h
    · simp only [List.mem_cons, List.not_mem_nil, or_false] at h
      rcases h with rfl | rfl | rfl
      · exact ⟨hk, good_of_word (gt_good _ hk)⟩
      · exact ⟨m1, good_of_word (gt_good _ m1)⟩
      · exact ⟨m3, good_of_word (gt_good _ m3)⟩
    · exact mw_good m4 w h
  have hrun := va_runS (p := p) (l := l) (e := e) (below := below) (meth := meth) (locs := locs) (cells := kc) (slots := kn) (g := F0 m pc ls ((av.reverse ++ rest).map (vc ad))) (As := av.map (vc ad)) (rest := rest.map (vc ad)) (nL := M.2.2.1) (Ts := gtbl) ⟨hC.1, hC.2.1, hC.2.2.1, hC.2.2.2.1, hC.2.2.2.2.1⟩ (hsp l D N ad H.size) (va_cwS n hC.2.2.2.2.1 hG rfl hrm.1 hrm.2.1 ⟨m5, m6, m7⟩ hrm.2.2.1) ⟨Pr.blind, hPr⟩ rfl (by rw [List.length_map]; exact hn) hl.1 (stk_eq ad av rest) (lv_room (by rw [cat_eq]; exact hcat)) (tok_at hT ht).1 hrm.2.2.2
  refine after (ad := ad) (S := S) (σ := σ) (rest := rest) hrun hA hW (fun v S' σ' ad' H1 locs1 hq hn' had hW' => ?_)
  have had' : ∀ k, k < nv ∨ 777 ≤ k → ad' k = ad k := fun k h => had k (h.imp_left (fun h => Nat.lt_of_lt_of_le h hnv))
  have hl' : lv_has ls M.2.2.1 (conL ad' L) := by rw [vokL_eq hv.1 had']; exact hl
  have h := kk v S' σ' hq p l e s m args below meth c Z D N A ad0 n0 hC hK hA hX hR ad' H1 locs1 ls hW' hl'
  have eq9 : (v.toList ++ rest).map (vc ad') = (v.map (vc ad')).toList ++ rest.map (vc ad) := by
    rw [List.map_append, vokS_eq hv.2 had']
    cases v <;> rfl
  rw [eq9] at h
  exact h
theorem aw_callSN {M : MI} {X : EX} {R : Room} {mc ms : Nat} {Q : QT} {kc kn : Nat} {S : List SC} {σ : St} {pc : Nat} {L : LV} {st : List Value} {idx n mc' ms' : Nat} {M' : MI} {rm : Room} {av rest : List Value} {Q' : QT} {tab : List (Nat × TE)} {v0 : Int32} {v2 : Int64} (hT : tOK M.1.cls M.2.1 tab = true) (ht : tget tab pc = some (.invokestatic idx, 3, v0, v2)) (pc2 : Nat) (hp : pc + 3 = pc2) {host : String} (hst : st = av.reverse ++ rest) (hk : (M.1.cls, idx, M'.1, host) ∈ nestL) (hM : MSt M' n) (hn : av.length = n) (hsp : Sp M' rm mc' ms' av S σ Q')
    (hrm : rmOK rm R M' mc' ms' kc kn) (hcat : (rest.map fun v => v.category).sum ≤ 8) (nv : Nat) (hnv : nv ≤ S.length) (hv : (L.all (fun q => vok nv q.2) && rest.all (vok nv)) = true)
    (kk : ∀ (v : Option Value) (S' : List SC) (σ' : St), Q' v S' σ' → AW M X R mc ms Q (kc + mc') (kn + ms') S' σ' pc2 L (v.toList ++ rest)) : AW M X R mc ms Q kc kn S σ pc L st := by
  subst hst; subst hp
  simp only [Bool.and_eq_true] at hv
  intro p l e s m args below meth c Z D N A ad0 n0 hC hK hA hX hR ad H locs ls hW hl
  have hPr : ∀ U : State, U.heap = H → s.WarmedH U.vm → Pr D N ad S σ H.size av ((av).map (vc ad)).toArray U := fun U hU hWU => ⟨rfl, by rw [hU], by rw [hU]; exact hW.2.2.1, va_K.moved hWU.alike hK, hW.2.2.2.1.weaken (fun _ _ _ _ => trivial), NW.warm hWU hC.2.2.2.2.2.2⟩
  obtain ⟨m1, m3, m4, m5, m6, m7⟩ := hM
  have hrun := va_runSN (p := p) (l := l) (e := e) (below := below) (meth := meth) (locs := locs) (cells := kc) (slots := kn) (g := F0 m pc ls ((av.reverse ++ rest).map (vc ad))) (As := av.map (vc ad)) (rest := rest.map (vc ad)) (nL := M.2.2.1) (Ts := gtbl) ⟨hC.1, hC.2.1, hC.2.2.1, hC.2.2.2.1, hC.2.2.2.2.1⟩ (hsp l D N ad H.size) ⟨va_cnB n hC.2.2.2.2.1 (mw_good m4) rfl hrm.1 hrm.2.1 (hC.2.2.2.2.2.2.1 _ hk) (hC.2.2.2.2.1 _ m3) ⟨m5, m6, m7⟩ hrm.2.2.1, hC.2.2.2.2.1 _ m1, trivial⟩ ⟨Pr.blind, hPr⟩ rfl (by rw [List.length_map]; exact hn) hl.1 (stk_eq ad av rest) (lv_room (by rw [cat_eq]; exact hcat)) (tok_at hT ht).1 hrm.2.2.2
  refine after (ad := ad) (S := S) (σ := σ) (rest := rest) hrun hA hW (fun v S' σ' ad' H1 locs1 hq hn' had hW' => ?_)
  have had' : ∀ k, k < nv ∨ 777 ≤ k → ad' k = ad k := fun k h => had k (h.imp_left (fun h => Nat.lt_of_lt_of_le h hnv))
  have hl' : lv_has ls M.2.2.1 (conL ad' L) := by rw [vokL_eq hv.1 had']; exact hl
  have h := kk v S' σ' hq p l e s m args below meth c Z D N A ad0 n0 hC hK hA hX hR ad' H1 locs1 ls hW' hl'
  have eq9 : (v.toList ++ rest).map (vc ad') = (v.map (vc ad')).toList ++ rest.map (vc ad) := by
    rw [List.map_append, vokS_eq hv.2 had']
    cases v <;> rfl
  rw [eq9] at h
  exact h
theorem aw_callI {M : MI} {X : EX} {R : Room} {mc ms : Nat} {Q : QT} {kc kn : Nat} {S : List SC} {σ : St} {pc : Nat} {L : LV} {st : List Value} {idx n mc' ms' : Nat} {M' : MI} {rm : Room} {av rest : List Value} {Q' : QT} {tab : List (Nat × TE)} {v0 : Int32} {v2 : Int64} (hT : tOK M.1.cls M.2.1 tab = true) (ht : tget tab pc = some (.invokespecial idx, 3, v0, v2)) (pc2 : Nat) (hp : pc + 3 = pc2) {a : Nat} (hst : st = av.reverse ++ .ref a :: rest) (hk : LK M.1.cls idx M'.1) (hM : MIn M' n) (hn : av.length = n) (hsp : Sp M' rm mc' ms' (.ref a :: av) S σ Q')
    (hrm : rmOK rm R M' mc' ms' kc kn) (hcat : (rest.map fun v => v.category).sum ≤ 8) (nv : Nat) (hnv : nv ≤ S.length) (hv : (L.all (fun q => vok nv q.2) && rest.all (vok nv)) = true)
    (kk : ∀ (v : Option Value) (S' : List SC) (σ' : St), Q' v S' σ' → AW M X R mc ms Q (kc + mc') (kn + ms') S' σ' pc2 L (v.toList ++ rest)) : AW M X R mc ms Q kc kn S σ pc L st := by
  subst hst; subst hp
  simp only [Bool.and_eq_true] at hv
  intro p l e s m args below meth c Z D N A ad0 n0 hC hK hA hX hR ad H locs ls hW hl
  have hPr : ∀ U : State, U.heap = H → s.WarmedH U.vm → Pr D N ad S σ H.size (.ref a :: av) (((.ref a :: av)).map (vc ad)).toArray U := fun U hU hWU => ⟨rfl, by rw [hU], by rw [hU]; exact hW.2.2.1, va_K.moved hWU.alike hK, hW.2.2.2.1.weaken (fun _ _ _ _ => trivial), NW.warm hWU hC.2.2.2.2.2.2⟩
  obtain ⟨⟨y1, y2, y3, y4⟩⟩ := show Nonempty MI from ⟨M'⟩
  obtain ⟨m1, m3, m4, m0, mr, m5, m6, m7⟩ := hM
  have hrun := va_runI (p := p) (l := l) (e := e) (below := below) (meth := meth) (locs := locs) (cells := kc) (slots := kn) (g := F0 m pc ls ((av.reverse ++ .ref a :: rest).map (vc ad))) (As := av.map (vc ad)) (rest := rest.map (vc ad)) (b := ad a) (nL := M.2.2.1) (Ts := gtbl) ⟨hC.1, hC.2.1, hC.2.2.1, hC.2.2.2.1, hC.2.2.2.2.1⟩ (hsp l D N ad H.size) (cwI n hC.2.2.2.2.1 (mw_good m4) (by rw [mwords, mr]) hrm.1 hrm.2.1 (hC.2.2.2.2.1 _ m3) (hC.2.2.2.2.1 _ hk) (hC.2.2.2.2.1 _ m1) m0 ⟨m5, m6, m7⟩ hrm.2.2.1) ⟨Pr.blind, hPr⟩ rfl (by rw [List.length_map]; exact hn) hl.1 (stk_eq ad av (.ref a :: rest)) (lv_room (by rw [cat_eq]; exact hcat)) (tok_at hT ht).1 hrm.2.2.2
  refine after (ad := ad) (S := S) (σ := σ) (rest := rest) hrun hA hW (fun v S' σ' ad' H1 locs1 hq hn' had hW' => ?_)
  have had' : ∀ k, k < nv ∨ 777 ≤ k → ad' k = ad k := fun k h => had k (h.imp_left (fun h => Nat.lt_of_lt_of_le h hnv))
  have hl' : lv_has ls M.2.2.1 (conL ad' L) := by rw [vokL_eq hv.1 had']; exact hl
  have h := kk v S' σ' hq p l e s m args below meth c Z D N A ad0 n0 hC hK hA hX hR ad' H1 locs1 ls hW' hl'
  have eq9 : (v.toList ++ rest).map (vc ad') = (v.map (vc ad')).toList ++ rest.map (vc ad) := by
    rw [List.map_append, vokS_eq hv.2 had']
    cases v <;> rfl
  rw [eq9] at h
  exact h
theorem aw_callIN {M : MI} {X : EX} {R : Room} {mc ms : Nat} {Q : QT} {kc kn : Nat} {S : List SC} {σ : St} {pc : Nat} {L : LV} {st : List Value} {idx n mc' ms' : Nat} {M' : MI} {rm : Room} {av rest : List Value} {Q' : QT} {tab : List (Nat × TE)} {v0 : Int32} {v2 : Int64} (hT : tOK M.1.cls M.2.1 tab = true) (ht : tget tab pc = some (.invokespecial idx, 3, v0, v2)) (pc2 : Nat) (hp : pc + 3 = pc2) {a : Nat} {host : String} (hst : st = av.reverse ++ .ref a :: rest) (hk : (M.1.cls, idx, M'.1, host) ∈ nestL) (hM : MIn M' n) (hn : av.length = n) (hsp : Sp M' rm mc' ms' (.ref a :: av) S σ Q')
    (hrm : rmOK rm R M' mc' ms' kc kn) (hcat : (rest.map fun v => v.category).sum ≤ 8) (nv : Nat) (hnv : nv ≤ S.length) (hv : (L.all (fun q => vok nv q.2) && rest.all (vok nv)) = true)
    (kk : ∀ (v : Option Value) (S' : List SC) (σ' : St), Q' v S' σ' → AW M X R mc ms Q (kc + mc') (kn + ms') S' σ' pc2 L (v.toList ++ rest)) : AW M X R mc ms Q kc kn S σ pc L st := by
  subst hst; subst hp
  simp only [Bool.and_eq_true] at hv
  intro p l e s m args below meth c Z D N A ad0 n0 hC hK hA hX hR ad H locs ls hW hl
  have hPr : ∀ U : State, U.heap = H → s.WarmedH U.vm → Pr D N ad S σ H.size (.ref a :: av) (((.ref a :: av)).map (vc ad)).toArray U := fun U hU hWU => ⟨rfl, by rw [hU], by rw [hU]; exact hW.2.2.1, va_K.moved hWU.alike hK, hW.2.2.2.1.weaken (fun _ _ _ _ => trivial), NW.warm hWU hC.2.2.2.2.2.2⟩
  obtain ⟨m1, m3, m4, m0, mr, m5, m6, m7⟩ := hM
  have hrun := va_runIN (p := p) (l := l) (e := e) (below := below) (meth := meth) (locs := locs) (cells := kc) (slots := kn) (g := F0 m pc ls ((av.reverse ++ .ref a :: rest).map (vc ad))) (As := av.map (vc ad)) (rest := rest.map (vc ad)) (b := ad a) (nL := M.2.2.1) (Ts := gtbl) ⟨hC.1, hC.2.1, hC.2.2.1, hC.2.2.2.1, hC.2.2.2.2.1⟩ (hsp l D N ad H.size) ⟨va_cnB n hC.2.2.2.2.1 (mw_good m4) (by rw [mwords, mr]) hrm.1 hrm.2.1 (hC.2.2.2.2.2.2.1 _ hk) (hC.2.2.2.2.1 _ m3) ⟨m5, m6, m7⟩ hrm.2.2.1, m0, hC.2.2.2.2.1 _ m1⟩ ⟨Pr.blind, hPr⟩ rfl (by rw [List.length_map]; exact hn) hl.1 (stk_eq ad av (.ref a :: rest)) (lv_room (by rw [cat_eq]; exact hcat)) (tok_at hT ht).1 hrm.2.2.2
  refine after (ad := ad) (S := S) (σ := σ) (rest := rest) hrun hA hW (fun v S' σ' ad' H1 locs1 hq hn' had hW' => ?_)
  have had' : ∀ k, k < nv ∨ 777 ≤ k → ad' k = ad k := fun k h => had k (h.imp_left (fun h => Nat.lt_of_lt_of_le h hnv))
  have hl' : lv_has ls M.2.2.1 (conL ad' L) := by rw [vokL_eq hv.1 had']; exact hl
  have h := kk v S' σ' hq p l e s m args below meth c Z D N A ad0 n0 hC hK hA hX hR ad' H1 locs1 ls hW' hl'
  have eq9 : (v.toList ++ rest).map (vc ad') = (v.map (vc ad')).toList ++ rest.map (vc ad) := by
    rw [List.map_append, vokS_eq hv.2 had']
    cases v <;> rfl
  rw [eq9] at h
  exact h
end
section
/-! ===== new cells ===== -/
def cok (n : Nat) (c : SC) : Prop := match c with
  | .inl o => ∀ k, some (some k) ∈ o.2 → k < n
  | .inr (.inl _) => True
  | .inr (.inr g) => ∀ j k, g.2 j = some k → k < n
def sokP (S : List SC) (n : Nat) : Prop := ∀ c ∈ S, cok n c
theorem cok_mono {n n' : Nat} {c : SC} (h : cok n c) (hn : n ≤ n') : cok n' c := by
  match c, h with
  | .inl o, h => exact fun k hk => Nat.lt_of_lt_of_le (h k hk) hn
  | .inr (.inl _), _ => trivial
  | .inr (.inr g), h => exact fun j k hk => Nat.lt_of_lt_of_le (h j k hk) hn
theorem sokP_push {S : List SC} {c : SC} (h : sokP S S.length) (hc : cok S.length c) : sokP (S ++ [c]) (S ++ [c]).length := by
  intro d hd
  have hle : S.length ≤ (S ++ [c]).length := by simp
  rcases List.mem_append.mp hd with h1 | h1
  · exact cok_mono (h d h1) hle
  · rw [List.mem_singleton.mp h1]; exact cok_mono hc hle
theorem ce_ad {N : N3} {ad ad' : Nat → Nat} {r : Nat → Int32} {n : Nat} {c : SC} (h : cok n c) (ha : ∀ k, k < n → ad' k = ad k) : ce N ad' r c = ce N ad r c := by
  match c, h with
  | .inl o, h =>
    simp only [ce]
    congr 2
    apply List.ext_getElem?
    intro j
    simp only [List.getElem?_mapIdx]
    cases hj : o.2[j]? with
    | none => rfl
    | some f =>
      match f with
      | none => rfl
      | some none => rfl
      | some (some k) => simp [fv, ha k (h k (List.mem_of_getElem? hj))]
  | .inr (.inl _), _ => rfl
  | .inr (.inr g), h =>
    have hf : (fun k => (g.2 k).map ad') = (fun k => (g.2 k).map ad) := by
      funext j
      cases hj : g.2 j with
      | none => rfl
      | some k => simp [ha k (h j k hj)]
    simp only [ce, hf]
theorem cw_push {N : N3} {ad : Nat → Nat} {S : List SC} {σ : St} {q : Nat} {c : SC} (h : sokP S S.length) (hc : cok S.length c) : cw N (va_up ad S.length q) (S ++ [c]) (upC σ S.length (fun _ => 0)) = cw N ad S σ ++ [(q, ce N ad (fun _ => 0) c)] := by
  have ha : ∀ k, k < S.length → va_up ad S.length q k = ad k := fun k hk => by simp [va_up, Nat.ne_of_lt hk]
  apply List.ext_getElem?
  intro j
  by_cases hj : j < S.length
  · have h1 : S[j]? = some S[j] := List.getElem?_eq_getElem hj
    have h2 : (S ++ [c])[j]? = some S[j] := by rw [List.getElem?_append_left hj]; exact h1
    rw [cw_at h2, List.getElem?_append_left (by simp [cw]; exact hj), cw_at h1, ce_ad (h _ (List.getElem_mem hj)) ha, ha j hj]
    simp [upC, Nat.ne_of_lt hj]
  · by_cases hj2 : j = S.length
    · subst hj2
      have h2 : (S ++ [c])[S.length]? = some c := by simp
      rw [cw_at h2, List.getElem?_append_right (by simp [cw]), ce_ad hc ha]
      simp [cw, upC, va_up]
    · have h1 : (cw N (va_up ad S.length q) (S ++ [c]) (upC σ S.length fun _ => 0)).length ≤ j := by simp [cw]; omega
      have h2 : (cw N ad S σ ++ [(q, ce N ad (fun _ => 0) c)]).length ≤ j := by simp [cw]; omega
      rw [List.getElem?_eq_none h1, List.getElem?_eq_none h2]
theorem ad_push {ad ad0 : Nat → Nat} {n0 n q : Nat} (h : ∀ k, k < n0 ∨ 777 ≤ k → ad k = ad0 k) (hn : n0 ≤ n) (hn2 : n < 777) : ∀ k, k < n0 ∨ 777 ≤ k → va_up ad n q k = ad0 k := by
  intro k hk
  have : ¬ k = n := by omega
  simp [va_up, this, h k hk]
theorem cls_I {D : va_G} {N : N3} {s : State} {cA : ClassId} {t : List (ClassId × FieldType)} (hK : va_K D vwCl (tys3 N) s) (h : va_K D vwCl (t ++ [(cA, .int)]) s) : cA = N.1 := by
  have h1 := (h.2 t.length (cA, .int) (by simp)).2
  have h2 := (hK.2 0 (N.1, .int) rfl).2
  exact Option.some.inj (h1.symm.trans h2)
theorem cls_Z {D : va_G} {N : N3} {s : State} {cA : ClassId} {t : List (ClassId × FieldType)} (hK : va_K D vwCl (tys3 N) s) (h : va_K D vwCl (t ++ [(cA, .boolean)]) s) : cA = N.2.1 := by
  have h1 := (h.2 t.length (cA, .boolean) (by simp)).2
  have h2 := (hK.2 1 (N.2.1, .boolean) rfl).2
  exact Option.some.inj (h1.symm.trans h2)
theorem cls_L {D : va_G} {N : N3} {s : State} {cA : ClassId} {t : List (ClassId × FieldType)} (hK : va_K D vwCl (tys3 N) s) (h : va_K D vwCl (t ++ [(cA, .object RX0)]) s) : cA = N.2.2 := by
  obtain ⟨_, _, _, _, _, h1⟩ := (h.2 t.length (cA, .object RX0) (by simp)).2
  obtain ⟨_, _, _, _, _, h2⟩ := (hK.2 2 (N.2.2, .object RX0) rfl).2
  exact Option.some.inj (h1.symm.trans h2)
theorem gt_int : Cond.arrayClass .int ∈ gtbl := by decide +kernel
theorem gt_boolean : Cond.arrayClass .boolean ∈ gtbl := by decide +kernel
theorem aw_new {M : MI} {X : EX} {R : Room} {mc ms : Nat} {Q : QT} {kc kn : Nat} {S : List SC} {σ : St} {pc : Nat} {L : LV} {st : List Value} {idx ci n : Nat} {C : String} {T : u_T} {ty0 : Nat → FieldType} {fr : List (Option (Option Nat))} {tab : List (Nat × TE)} {v0 : Int32} {v2 : Int64} (hT : tOK M.1.cls M.2.1 tab = true) (ht : tget tab pc = some (.new idx, 3, v0, v2)) (pc2 : Nat) (hp : pc + 3 = pc2) (hcl : vwCl[ci]? = some (C, T, n)) (hin : ∀ w ∈ u_ws C T n, w ∈ gtbl) (hty : ∀ k, k < n → parseFieldDescriptor (T k).2.2.1 = some (ty0 k)) (hlk : Cond.classLink M.1.cls idx C ∈ gtbl) (hins : Cond.instantiable C n ∈ gtbl) (hini : Cond.initialized C ∈ gtbl)
    (hfr : ∀ j, j < n → defaultValue (ty0 j) = vp_V (fr.mapIdx (fv id (fun _ => 0))) j) (hnull : ∀ k, some (some k) ∉ fr) (nv : Nat) (hnv : nv ≤ S.length) (hv : (L.all (fun q => vok nv q.2) && st.all (vok nv)) = true) (hso : sokP S S.length) (hlen : S.length < 777) (hroom : kc + 1 ≤ R.cells ∧ kn + n ≤ R.slots)
    (kk : AW M X R mc ms Q (kc + 1) (kn + n) (S ++ [.inl (ci, fr)]) (upC σ S.length (fun _ => 0)) pc2 L (.ref S.length :: st)) : AW M X R mc ms Q kc kn S σ pc L st := by
  subst hp
  intro p l e s m args below meth c Z D N A ad0 n0 hC hK hA hX hR ad H locs ls hW hl
  have hfr2 : ∀ ad : Nat → Nat, fr.mapIdx (fv ad (fun _ => 0)) = fr.mapIdx (fv id (fun _ => 0)) := by
    intro ad
    apply List.ext_getElem?
    intro j
    simp only [List.getElem?_mapIdx]
    cases hj : fr[j]? with
    | none => rfl
    | some f =>
      match f with
      | none => rfl
      | some none => rfl
      | some (some k) => exact absurd (List.mem_of_getElem? hj) (hnull k)
  refine va_new (ci := ci) (fs := fr.mapIdx (fv ad (fun _ => 0))) hC.1 hC.2.1 hC.2.2.2.2.1 hin ty0 hty hC.2.2.2.1 (hC.2.2.2.2.1 _ hlk) (hC.2.2.2.2.1 _ hins) (hC.2.2.2.2.1 _ hini) hK hW.2.2.1 hW.2.2.2.1 hW.2.2.2.2 hA hcl (fun j hj => by rw [hfr2 ad]; exact hfr j hj) hroom.1 hroom.2 (tok_at hT ht).1 (fun q H1 hP hD hSS => ?_)
  have hN := hv
  simp only [Bool.and_eq_true] at hN
  have hvk : ∀ z : Nat, ∀ k, k < nv ∨ 777 ≤ k → va_up ad S.length z k = ad k := fun z k h => by
    have : ¬ k = S.length := by omega
    simp [va_up, this]
  have eq9 := cw_push (N := N) (ad := ad) (σ := σ) (q := q) (c := .inl (ci, fr)) hso (fun k hk => absurd hk (hnull k))
  have h := kk p l e s m args below meth c Z D N A ad0 n0 hC hK hA hX hR (va_up ad S.length q) H1 locs ls ⟨by have := hW.1; simp; omega, ad_push hW.2.1 hW.1 hlen, ws_P (by rw [eq9]; rfl) hP, ws_D (by rw [eq9]; rfl) hD, hSS⟩ (by rw [vokL_eq hN.1 (hvk q)]; exact hl)
  rw [List.map_cons, vokS_eq hN.2 (hvk q)] at h
  have h9 : vc (va_up ad S.length q) (.ref S.length) = .ref q := by simp [vc, va_up]
  rw [h9] at h
  exact h
theorem aw_newaI {M : MI} {X : EX} {R : Room} {mc ms : Nat} {Q : QT} {kc kn : Nat} {S : List SC} {σ : St} {pc : Nat} {L : LV} {st : List Value} {n : Int32} {k : Nat} {tab : List (Nat × TE)} {v0 : Int32} {v2 : Int64} (hT : tOK M.1.cls M.2.1 tab = true) (ht : tget tab pc = some (.newarray .int, 2, v0, v2)) (pc2 : Nat) (hp : pc + 2 = pc2) (hn : ¬ n < 0) (hk : n.toNatClampNeg = k) (hkb : k ≤ 1000) (nv : Nat) (hnv : nv ≤ S.length) (hv : (L.all (fun q => vok nv q.2) && st.all (vok nv)) = true) (hso : sokP S S.length) (hlen : S.length < 777) (hroom : kc + 1 ≤ R.cells ∧ kn + k ≤ R.slots)
    (kk : AW M X R mc ms Q (kc + 1) (kn + k) (S ++ [.inr (.inl (0, k))]) (upC σ S.length (fun _ => 0)) pc2 L (.ref S.length :: st)) : AW M X R mc ms Q kc kn S σ pc L (.int n :: st) := by
  subst hp
  intro p l e s m args below meth c Z D N A ad0 n0 hC hK hA hX hR ad H locs ls hW hl
  have harr : (Cond.arrayClass .int).before args s = true := hC.2.2.2.2.1 _ gt_int
  have hbt : k * componentBytes .int ≤ 536870912 := by simp only [componentBytes]; omega
  have hcl : ∀ cA : ClassId, vp_cell cA (k, .inl (fun _ => 0)) = arrV cA k (fun _ => defaultValue .int) := fun cA => rfl
  refine va_newa (atype := .int) (ty := .int) (a0 := (k, .inl (fun _ => 0))) hC.1 hC.2.1 harr rfl hK hW.2.2.1 hW.2.2.2.1 hW.2.2.2.2 hA hcl hn hk hbt hroom.1 hroom.2 (tok_at hT ht).1 (fun q cA H1 hK1 hP hD hSS => ?_)
  have hcA := cls_I hK hK1
  subst hcA
  have hN := hv
  simp only [Bool.and_eq_true] at hN
  have hvk : ∀ z : Nat, ∀ k, k < nv ∨ 777 ≤ k → va_up ad S.length z k = ad k := fun z k h => by
    have : ¬ k = S.length := by omega
    simp [va_up, this]
  have eq9 := cw_push (N := N) (ad := ad) (σ := σ) (q := q) (c := .inr (.inl (0, k))) hso trivial
  have h := kk p l e s m args below meth c Z D N A ad0 n0 hC hK hA hX hR (va_up ad S.length q) H1 locs ls ⟨by have := hW.1; simp; omega, ad_push hW.2.1 hW.1 hlen, ws_P (by rw [eq9]; rfl) hP, ws_D (by rw [eq9]; rfl) hD, hSS⟩ (by rw [vokL_eq hN.1 (hvk q)]; exact hl)
  rw [List.map_cons, vokS_eq hN.2 (hvk q)] at h
  have h9 : vc (va_up ad S.length q) (.ref S.length) = .ref q := by simp [vc, va_up]
  rw [h9] at h
  exact h
theorem aw_newaZ {M : MI} {X : EX} {R : Room} {mc ms : Nat} {Q : QT} {kc kn : Nat} {S : List SC} {σ : St} {pc : Nat} {L : LV} {st : List Value} {n : Int32} {k : Nat} {tab : List (Nat × TE)} {v0 : Int32} {v2 : Int64} (hT : tOK M.1.cls M.2.1 tab = true) (ht : tget tab pc = some (.newarray .boolean, 2, v0, v2)) (pc2 : Nat) (hp : pc + 2 = pc2) (hn : ¬ n < 0) (hk : n.toNatClampNeg = k) (hkb : k ≤ 1000) (nv : Nat) (hnv : nv ≤ S.length) (hv : (L.all (fun q => vok nv q.2) && st.all (vok nv)) = true) (hso : sokP S S.length) (hlen : S.length < 777) (hroom : kc + 1 ≤ R.cells ∧ kn + k ≤ R.slots)
    (kk : AW M X R mc ms Q (kc + 1) (kn + k) (S ++ [.inr (.inl (1, k))]) (upC σ S.length (fun _ => 0)) pc2 L (.ref S.length :: st)) : AW M X R mc ms Q kc kn S σ pc L (.int n :: st) := by
  subst hp
  intro p l e s m args below meth c Z D N A ad0 n0 hC hK hA hX hR ad H locs ls hW hl
  have harr : (Cond.arrayClass .boolean).before args s = true := hC.2.2.2.2.1 _ gt_boolean
  have hbt : k * componentBytes .boolean ≤ 536870912 := by simp only [componentBytes]; omega
  have hcl : ∀ cA : ClassId, vp_cell cA (k, .inl (fun _ => 0)) = arrV cA k (fun _ => defaultValue .boolean) := fun cA => rfl
  refine va_newa (atype := .boolean) (ty := .boolean) (a0 := (k, .inl (fun _ => 0))) hC.1 hC.2.1 harr rfl hK hW.2.2.1 hW.2.2.2.1 hW.2.2.2.2 hA hcl hn hk hbt hroom.1 hroom.2 (tok_at hT ht).1 (fun q cA H1 hK1 hP hD hSS => ?_)
  have hcA := cls_Z hK hK1
  subst hcA
  have hN := hv
  simp only [Bool.and_eq_true] at hN
  have hvk : ∀ z : Nat, ∀ k, k < nv ∨ 777 ≤ k → va_up ad S.length z k = ad k := fun z k h => by
    have : ¬ k = S.length := by omega
    simp [va_up, this]
  have eq9 := cw_push (N := N) (ad := ad) (σ := σ) (q := q) (c := .inr (.inl (1, k))) hso trivial
  have h := kk p l e s m args below meth c Z D N A ad0 n0 hC hK hA hX hR (va_up ad S.length q) H1 locs ls ⟨by have := hW.1; simp; omega, ad_push hW.2.1 hW.1 hlen, ws_P (by rw [eq9]; rfl) hP, ws_D (by rw [eq9]; rfl) hD, hSS⟩ (by rw [vokL_eq hN.1 (hvk q)]; exact hl)
  rw [List.map_cons, vokS_eq hN.2 (hvk q)] at h
  have h9 : vc (va_up ad S.length q) (.ref S.length) = .ref q := by simp [vc, va_up]
  rw [h9] at h
  exact h
theorem aw_newq {M : MI} {X : EX} {R : Room} {mc ms : Nat} {Q : QT} {kc kn : Nat} {S : List SC} {σ : St} {pc : Nat} {L : LV} {st : List Value} {idx : Nat} {n : Int32} {k : Nat} {tab : List (Nat × TE)} {v0 : Int32} {v2 : Int64} (hT : tOK M.1.cls M.2.1 tab = true) (ht : tget tab pc = some (.anewarray idx, 3, v0, v2)) (pc2 : Nat) (hp : pc + 3 = pc2) (hlk : Cond.classLink M.1.cls idx RX0 ∈ gtbl) (hn : ¬ n < 0) (hk : n.toNatClampNeg = k) (hkb : k ≤ 1000) (nv : Nat) (hnv : nv ≤ S.length) (hv : (L.all (fun q => vok nv q.2) && st.all (vok nv)) = true) (hso : sokP S S.length) (hlen : S.length < 777) (hroom : kc + 1 ≤ R.cells ∧ kn + k ≤ R.slots)
    (kk : AW M X R mc ms Q (kc + 1) (kn + k) (S ++ [.inr (.inr (k, fun _ => none))]) (upC σ S.length (fun _ => 0)) pc2 L (.ref S.length :: st)) : AW M X R mc ms Q kc kn S σ pc L (.int n :: st) := by
  subst hp
  intro p l e s m args below meth c Z D N A ad0 n0 hC hK hA hX hR ad H locs ls hW hl
  refine va_newq (C := RX0) hC.1 hC.2.1 hC.2.2.2.1 (hC.2.2.2.2.1 _ hlk) hC.2.2.2.2.2.2.2 hK hW.2.2.1 hW.2.2.2.1 hW.2.2.2.2 hA hn hk (by omega) hroom.1 hroom.2 (tok_at hT ht).1 (fun q cA H1 hK1 hP hD hSS => ?_)
  have hcA := cls_L hK hK1
  subst hcA
  have hN := hv
  simp only [Bool.and_eq_true] at hN
  have hvk : ∀ z : Nat, ∀ k, k < nv ∨ 777 ≤ k → va_up ad S.length z k = ad k := fun z k h => by
    have : ¬ k = S.length := by omega
    simp [va_up, this]
  have eq9 := cw_push (N := N) (ad := ad) (σ := σ) (q := q) (c := .inr (.inr (k, fun _ => none))) hso (fun j k h => by cases h)
  have h := kk p l e s m args below meth c Z D N A ad0 n0 hC hK hA hX hR (va_up ad S.length q) H1 locs ls ⟨by have := hW.1; simp; omega, ad_push hW.2.1 hW.1 hlen, ws_P (by rw [eq9]; rfl) hP, ws_D (by rw [eq9]; rfl) hD, hSS⟩ (by rw [vokL_eq hN.1 (hvk q)]; exact hl)
  rw [List.map_cons, vokS_eq hN.2 (hvk q)] at h
  have h9 : vc (va_up ad S.length q) (.ref S.length) = .ref q := by simp [vc, va_up]
  rw [h9] at h
  exact h
theorem aw_objInit {M : MI} {X : EX} {R : Room} {mc ms : Nat} {Q : QT} {kc kn : Nat} {S : List SC} {σ : St} {pc : Nat} {L : LV} {st : List Value} {idx a : Nat} {tab : List (Nat × TE)} {v0 : Int32} {v2 : Int64} (hT : tOK M.1.cls M.2.1 tab = true) (ht : tget tab pc = some (.invokespecial idx, 3, v0, v2)) (pc2 : Nat) (hp : pc + 3 = pc2) (hk : LK M.1.cls idx objectInit) (hfr : 1 ≤ R.frames) (hlo : (st.map fun v => v.category).sum + 12 ≤ R.locals)
    (kk : AW M X R mc ms Q kc kn S σ pc2 L st) : AW M X R mc ms Q kc kn S σ pc L (.ref a :: st) := by
  subst hp
  intro p l e s m args below meth c Z D N A ad0 n0 hC hK hA hX hR ad H locs ls hW hl
  exact W.objInit (idx := idx) hC.1 hC.2.1 hC.2.2.2.1 (hC.2.2.2.2.1 _ hk) (hC.2.2.2.2.1 (.instanceMethod objectInit) (by decide +kernel)) (hC.2.2.2.2.1 (.code objectInit ⟨#[0xb1]⟩ 1 none) (by decide +kernel)) rfl (hl.1.trans hC.2.2.1.symm) rfl (tok_at hT ht).1 hfr (by rw [cat_eq]; simpa [JFrame.monitorRoom] using hlo) (kk p l e s m args below meth c Z D N A ad0 n0 hC hK hA hX hR ad H locs ls hW hl)
theorem aw_table {M : MI} {X : EX} {R : Room} {mc ms : Nat} {Q : QT} {kc kn : Nat} {S : List SC} {σ : St} {pc : Nat} {L : LV} {st : List Value} {dflt lo hi off : Int} {offs : Array Int} {len : Nat} {x : Int32} {tab : List (Nat × TE)} {v0 : Int32} {v2 : Int64} (hT : tOK M.1.cls M.2.1 tab = true) (ht : tget tab pc = some (.tableswitch dflt lo hi offs, len, v0, v2)) (h1 : ¬ x.toInt < lo) (h2 : ¬ hi < x.toInt) (ho : offs[(x.toInt - lo).toNat]? = some off) (tgt : Nat) (hj : (pc : Int) + off = (tgt : Int))
    (kk : AW M X R mc ms Q kc kn S σ tgt L st) : AW M X R mc ms Q kc kn S σ pc L (.int x :: st) := by
  intro p l e s m args below meth c Z D N A ad0 n0 hC hK hA hX hR ad H locs ls hW hl
  exact lv_tableIn hC.1 hC.2.1 (tok_at hT ht).1 h1 h2 ho hj (kk p l e s m args below meth c Z D N A ad0 n0 hC hK hA hX hR ad H locs ls hW hl)
theorem aw_tableD {M : MI} {X : EX} {R : Room} {mc ms : Nat} {Q : QT} {kc kn : Nat} {S : List SC} {σ : St} {pc : Nat} {L : LV} {st : List Value} {dflt lo hi : Int} {offs : Array Int} {len : Nat} {x : Int32} {tab : List (Nat × TE)} {v0 : Int32} {v2 : Int64} (hT : tOK M.1.cls M.2.1 tab = true) (ht : tget tab pc = some (.tableswitch dflt lo hi offs, len, v0, v2)) (h1 : x.toInt < lo ∨ hi < x.toInt) (tgt : Nat) (hj : (pc : Int) + dflt = (tgt : Int))
    (kk : AW M X R mc ms Q kc kn S σ tgt L st) : AW M X R mc ms Q kc kn S σ pc L (.int x :: st) := by
  intro p l e s m args below meth c Z D N A ad0 n0 hC hK hA hX hR ad H locs ls hW hl
  exact lv_tableOut hC.1 hC.2.1 (tok_at hT ht).1 h1 hj (kk p l e s m args below meth c Z D N A ad0 n0 hC hK hA hX hR ad H locs ls hW hl)
theorem aw_lookup {M : MI} {X : EX} {R : Room} {mc ms : Nat} {Q : QT} {kc kn : Nat} {S : List SC} {σ : St} {pc : Nat} {L : LV} {st : List Value} {dflt off : Int} {ps : Array (Int × Int)} {len : Nat} {x : Int32} {tab : List (Nat × TE)} {v0 : Int32} {v2 : Int64} (hT : tOK M.1.cls M.2.1 tab = true) (ht : tget tab pc = some (.lookupswitch dflt ps, len, v0, v2)) (hp : (ps.toList.zip (ps.toList.drop 1)).all (fun (a, next) => a.1 < next.1) = true) (ho : Op.lookupswitch.offset ps.toList dflt x.toInt = off) (tgt : Nat) (hj : (pc : Int) + off = (tgt : Int))
    (kk : AW M X R mc ms Q kc kn S σ tgt L st) : AW M X R mc ms Q kc kn S σ pc L (.int x :: st) := by
  intro p l e s m args below meth c Z D N A ad0 n0 hC hK hA hX hR ad H locs ls hW hl
  exact lv_lookup hC.1 hC.2.1 (tok_at hT ht).1 hp ho hj (kk p l e s m args below meth c Z D N A ad0 n0 hC hK hA hX hR ad H locs ls hW hl)
/-! the law's own script, at the logical address 777 -/
def XS (b n : Nat) (xs : Nat → Int32) : EX := fun s A ad0 => ad0 777 = b ∧ va_X b n xs s s.heap ∧ b < s.heap.size ∧ ¬ A b
theorem aw_sld {M : MI} {b n : Nat} {xs : Nat → Int32} {R : Room} {mc ms : Nat} {Q : QT} {kc kn : Nat} {S : List SC} {σ : St} {pc : Nat} {L : LV} {st : List Value} {i : Int32} {tab : List (Nat × TE)} {v0 : Int32} {v2 : Int64} (hT : tOK M.1.cls M.2.1 tab = true) (ht : tget tab pc = some (.iaload, 1, v0, v2)) (pc2 : Nat) (hp : pc + 1 = pc2) (hi : vp_in i n)
    (kk : AW M (XS b n xs) R mc ms Q kc kn S σ pc2 L (.int (xs i.toNatClampNeg) :: st)) : AW M (XS b n xs) R mc ms Q kc kn S σ pc L (.int i :: .ref 777 :: st) := by
  subst hp
  intro p l e s m args below meth c Z D N A ad0 n0 hC hK hA hX hR ad H locs ls hW hl
  have hb9 : ad 777 = b := (hW.2.1 777 (Or.inr (Nat.le_refl _))).trans hX.1
  have h := va_sld (pc := pc) (ls := ls) (rest := st.map (vc ad)) (p := p) (l := l) (e := e) (R := R) (m := m) (args := args) (below := below) (meth := meth) (c := c) (cells := kc) (slots := kn) (Q := Z) hC.1 hC.2.1 hX.2.1 hX.2.2.1 hX.2.2.2 hW.2.2.2.2 hi (tok_at hT ht).1 (kk p l e s m args below meth c Z D N A ad0 n0 hC hK hA hX hR ad H locs ls hW hl)
  rw [← hb9] at h
  exact h
theorem aw_slen {M : MI} {b n : Nat} {xs : Nat → Int32} {R : Room} {mc ms : Nat} {Q : QT} {kc kn : Nat} {S : List SC} {σ : St} {pc : Nat} {L : LV} {st : List Value} {tab : List (Nat × TE)} {v0 : Int32} {v2 : Int64} (hT : tOK M.1.cls M.2.1 tab = true) (ht : tget tab pc = some (.arraylength, 1, v0, v2)) (pc2 : Nat) (hp : pc + 1 = pc2)
    (kk : AW M (XS b n xs) R mc ms Q kc kn S σ pc2 L (.int (Int32.ofNat n) :: st)) : AW M (XS b n xs) R mc ms Q kc kn S σ pc L (.ref 777 :: st) := by
  subst hp
  intro p l e s m args below meth c Z D N A ad0 n0 hC hK hA hX hR ad H locs ls hW hl
  have hb9 : ad 777 = b := (hW.2.1 777 (Or.inr (Nat.le_refl _))).trans hX.1
  have h := va_slen (pc := pc) (ls := ls) (rest := st.map (vc ad)) (p := p) (l := l) (e := e) (R := R) (m := m) (args := args) (below := below) (meth := meth) (c := c) (cells := kc) (slots := kn) (Q := Z) hC.1 hC.2.1 hX.2.1 hX.2.2.1 hX.2.2.2 hW.2.2.2.2 (tok_at hT ht).1 (kk p l e s m args below meth c Z D N A ad0 n0 hC hK hA hX hR ad H locs ls hW hl)
  rw [← hb9] at h
  exact h
end
section
/-! ===== lifted programs: option values, guards, loops ===== -/
def ok {α : Type} (o : Option α) (K : α → Prop) : Prop := ∃ r, o = some r ∧ K r
theorem ok_s {α : Type} {r : α} {K : α → Prop} (h : K r) : ok (some r) K := ⟨r, rfl, h⟩
theorem ok_r {α : Type} {r : α} {K : α → Prop} (h : ok (some r) K) : K r := by
  obtain ⟨x, hx, h⟩ := h
  cases hx
  exact h
theorem ok_m {α : Type} {o : Option α} {K K2 : α → Prop} (h : ok o K) (hk : ∀ r, K r → K2 r) : ok o K2 := by
  obtain ⟨x, hx, h⟩ := h
  exact ⟨x, hx, hk x h⟩
theorem ok_t {α : Type} {c : Prop} [Decidable c] {a b : Option α} {K : α → Prop} (hc : c) (h : ok (if c then a else b) K) : ok a K := by
  rw [if_pos hc] at h
  exact h
theorem ok_f {α : Type} {c : Prop} [Decidable c] {a b : Option α} {K : α → Prop} (hc : ¬ c) (h : ok (if c then a else b) K) : ok b K := by
  rw [if_neg hc] at h
  exact h
theorem ok_fn {α : Type} {c : Prop} [Decidable c] {a b : Option α} {K : α → Prop} (hc : c) (h : ok (if ¬ c then a else b) K) : ok b K := by
  rw [if_neg (fun q => q hc)] at h
  exact h
theorem ok_b {α β : Type} {o : Option α} {f : α → Option β} {K : β → Prop} (h : ok (o.bind f) K) : ok o (fun x => ok (f x) K) := by
  obtain ⟨r, hr, h⟩ := h
  cases ho : o with
  | none => rw [ho] at hr; cases hr
  | some x => rw [ho] at hr; exact ⟨x, rfl, r, hr, h⟩
/-- an index within -/
def gi {α : Type} (i : Int32) (n : Nat) (o : Option α) : Option α := if i < 0 ∨ n ≤ i.toNatClampNeg then none else o
theorem ok_gi {α : Type} {i : Int32} {n : Nat} {o : Option α} {K : α → Prop} (h : ok (gi i n o) K) : vp_in i n ∧ ok o K := by
  unfold gi at h
  by_cases hc : i < 0 ∨ n ≤ i.toNatClampNeg
  · rw [if_pos hc] at h
    obtain ⟨_, hr, _⟩ := h
    cases hr
  · rw [if_neg hc] at h
    exact ⟨hc, h⟩
def gz {α : Type} (y : Int32) (o : Option α) : Option α := if y = 0 then none else o
theorem ok_gz {α : Type} {y : Int32} {o : Option α} {K : α → Prop} (h : ok (gz y o) K) : ¬ y = 0 ∧ ok o K := by
  unfold gz at h
  by_cases hc : y = 0
  · rw [if_pos hc] at h
    obtain ⟨_, hr, _⟩ := h
    cases hr
  · rw [if_neg hc] at h
    exact ⟨hc, h⟩
def gzL {α : Type} (y : Int64) (o : Option α) : Option α := if y = 0 then none else o
theorem ok_gzL {α : Type} {y : Int64} {o : Option α} {K : α → Prop} (h : ok (gzL y o) K) : ¬ y = 0 ∧ ok o K := by
  unfold gzL at h
  by_cases hc : y = 0
  · rw [if_pos hc] at h
    obtain ⟨_, hr, _⟩ := h
    cases hr
  · rw [if_neg hc] at h
    exact ⟨hc, h⟩
def gb {α : Type} (x : Int32) (o : Option α) : Option α := if x = 0 ∨ x = 1 then o else none
theorem ok_gb {α : Type} {x : Int32} {o : Option α} {K : α → Prop} (h : ok (gb x o) K) : narrow .boolean (.int x) = .int x ∧ ok o K := by
  unfold gb at h
  by_cases hc : x = 0 ∨ x = 1
  · rw [if_pos hc] at h
    refine ⟨?_, h⟩
    rcases hc with rfl | rfl <;> rfl
  · rw [if_neg hc] at h
    obtain ⟨_, hr, _⟩ := h
    cases hr
def nm {α β : Type} (e : α) (f : α → Option β) : Option β := f e
theorem ok_nm {α β : Type} {e : α} {f : α → Option β} {K : β → Prop} (h : ok (nm e f) K) (x : α) (hx : x = e) : ok (f x) K := by
  subst hx
  exact h
theorem aw_nm {M : MI} {X : EX} {R : Room} {mc ms : Nat} {Q : QT} {kc kn : Nat} {S : List SC} {σ : St} {pc : Nat} {L : LV} {st : List Value} {y : Int32} (k : ∀ x : Int32, x = y → AW M X R mc ms Q kc kn S σ pc L (.int x :: st)) : AW M X R mc ms Q kc kn S σ pc L (.int y :: st) := k y rfl
theorem aw_nmL {M : MI} {X : EX} {R : Room} {mc ms : Nat} {Q : QT} {kc kn : Nat} {S : List SC} {σ : St} {pc : Nat} {L : LV} {st : List Value} {y : Int64} (k : ∀ x : Int64, x = y → AW M X R mc ms Q kc kn S σ pc L (.long x :: st)) : AW M X R mc ms Q kc kn S σ pc L (.long y :: st) := k y rfl
def loop {S X : Type} (body : S → Option (S ⊕ X)) (n : Nat) (s : S) : Option X := match n with
  | 0 => none
  | n + 1 => (body s).bind (fun r => match r with
    | .inl s' => loop body n s'
    | .inr x => some x)
theorem loop_P {S X : Type} {body : S → Option (S ⊕ X)} {P : S → Prop} {E : X → Prop} (step : ∀ s, ok (body s) (fun r => match r with
    | .inl s' => P s'
    | .inr x => E x) → P s) : ∀ (n : Nat) (s : S), ok (loop body n s) E → P s := by
  intro n
  induction n with
  | zero => intro s h; obtain ⟨_, hr, _⟩ := h; cases hr
  | succ n ih =>
    intro s h
    refine step s (ok_m (ok_b h) (fun r hr => ?_))
    cases r with
    | inl s' => exact ih s' hr
    | inr x => exact ok_r (r := x) (K := E) hr
/-! switches by keys -/
theorem aw_tableK {M : MI} {X : EX} {R : Room} {mc ms : Nat} {Q : QT} {kc kn : Nat} {S : List SC} {σ : St} {pc : Nat} {L : LV} {st : List Value} {dflt lo hi off : Int} {offs : Array Int} {len : Nat} {x : Int32} {tab : List (Nat × TE)} {v0 : Int32} {v2 : Int64} (hT : tOK M.1.cls M.2.1 tab = true) (ht : tget tab pc = some (.tableswitch dflt lo hi offs, len, v0, v2)) (k : Int32) (hx : x = k) (h : decide (¬ k.toInt < lo ∧ ¬ hi < k.toInt ∧ offs[(k.toInt - lo).toNat]? = some off) = true) (tgt : Nat) (hj : (pc : Int) + off = (tgt : Int))
    (kk : AW M X R mc ms Q kc kn S σ tgt L st) : AW M X R mc ms Q kc kn S σ pc L (.int x :: st) := by
  subst hx
  have h := of_decide_eq_true h
  exact aw_table hT ht h.1 h.2.1 h.2.2 tgt hj kk
theorem aw_tableN {M : MI} {X : EX} {R : Room} {mc ms : Nat} {Q : QT} {kc kn : Nat} {S : List SC} {σ : St} {pc : Nat} {L : LV} {st : List Value} {dflt lo hi : Int} {offs : Array Int} {len : Nat} {x : Int32} {tab : List (Nat × TE)} {v0 : Int32} {v2 : Int64} (hT : tOK M.1.cls M.2.1 tab = true) (ht : tget tab pc = some (.tableswitch dflt lo hi offs, len, v0, v2)) (ks : List Int32) (hx : ∀ k ∈ ks, ¬ x = k) (h : (List.range (hi - lo + 1).toNat).all (fun j => ks.any (fun k => k.toInt == lo + (j : Int))) = true) (tgt : Nat) (hj : (pc : Int) + dflt = (tgt : Int))
    (kk : AW M X R mc ms Q kc kn S σ tgt L st) : AW M X R mc ms Q kc kn S σ pc L (.int x :: st) := by
  refine aw_tableD hT ht ?_ tgt hj kk
  by_cases h1 : x.toInt < lo
  · exact Or.inl h1
  · by_cases h2 : hi < x.toInt
    · exact Or.inr h2
    · exfalso
      have hr := List.all_eq_true.mp h (x.toInt - lo).toNat (List.mem_range.mpr (by omega))
      obtain ⟨k, hk, he⟩ := List.any_eq_true.mp hr
      have he : k.toInt = lo + ((x.toInt - lo).toNat : Int) := by simpa using he
      exact hx k hk (Int32.toInt_inj.mp (by omega))
theorem look_none (ps : List (Int × Int)) (d k : Int) (h : ∀ q ∈ ps, ¬ q.1 = k) : Op.lookupswitch.offset ps d k = d := by
  induction ps with
  | nil => rfl
  | cons q l ih =>
    obtain ⟨a, b⟩ := q
    have h1 : ¬ a = k := h (a, b) List.mem_cons_self
    have h2 := ih (fun q hq => h q (List.mem_cons_of_mem _ hq))
    unfold Op.lookupswitch.offset
    simp [h2, Ne.symm h1, h1]
theorem aw_lookupK {M : MI} {X : EX} {R : Room} {mc ms : Nat} {Q : QT} {kc kn : Nat} {S : List SC} {σ : St} {pc : Nat} {L : LV} {st : List Value} {dflt off : Int} {ps : Array (Int × Int)} {len : Nat} {x : Int32} {tab : List (Nat × TE)} {v0 : Int32} {v2 : Int64} (hT : tOK M.1.cls M.2.1 tab = true) (ht : tget tab pc = some (.lookupswitch dflt ps, len, v0, v2)) (k : Int32) (hx : x = k) (hp : (ps.toList.zip (ps.toList.drop 1)).all (fun (a, next) => a.1 < next.1) = true) (ho : Op.lookupswitch.offset ps.toList dflt k.toInt = off) (tgt : Nat) (hj : (pc : Int) + off = (tgt : Int))
    (kk : AW M X R mc ms Q kc kn S σ tgt L st) : AW M X R mc ms Q kc kn S σ pc L (.int x :: st) := by
  subst hx
  exact aw_lookup hT ht hp ho tgt hj kk
theorem aw_lookupN {M : MI} {X : EX} {R : Room} {mc ms : Nat} {Q : QT} {kc kn : Nat} {S : List SC} {σ : St} {pc : Nat} {L : LV} {st : List Value} {dflt : Int} {ps : Array (Int × Int)} {len : Nat} {x : Int32} {tab : List (Nat × TE)} {v0 : Int32} {v2 : Int64} (hT : tOK M.1.cls M.2.1 tab = true) (ht : tget tab pc = some (.lookupswitch dflt ps, len, v0, v2)) (ks : List Int32) (hx : ∀ k ∈ ks, ¬ x = k) (h : ps.toList.all (fun q => ks.any (fun k => k.toInt == q.1)) = true) (hp : (ps.toList.zip (ps.toList.drop 1)).all (fun (a, next) => a.1 < next.1) = true) (tgt : Nat) (hj : (pc : Int) + dflt = (tgt : Int))
    (kk : AW M X R mc ms Q kc kn S σ tgt L st) : AW M X R mc ms Q kc kn S σ pc L (.int x :: st) := by
  refine aw_lookup hT ht hp (look_none _ _ _ ?_) tgt hj kk
  intro q hq he
  obtain ⟨k, hk, h2⟩ := List.any_eq_true.mp (List.all_eq_true.mp h q hq)
  have h2 : k.toInt = q.1 := by simpa using h2
  exact hx k hk (Int32.toInt_inj.mp (he.symm.trans h2.symm))
theorem gt_at {w : Cond} (k : Nat) (h : tables_1[k]? = some w) (hg : goodWord w = true) : w ∈ gtbl := gt_mem (List.mem_of_getElem? h) hg
theorem gt_pv {w : Cond} (k : Nat) (h : lw_tbl[k]? = some w) (hg : goodWord w = true) : w ∈ gtbl := List.mem_filter.mpr ⟨List.mem_of_getElem? h, hg⟩
end
section
/-! ===== the program's tables, links, methods; the world's shape ===== -/
abbrev E0 : EX := fun _ _ _ => True
def Fn (M : MI) (rm : Room) (av : List Value) (S : List SC) (σ : St) (v : Option Value) (τ : St) : Prop := Sp M rm 0 0 av S σ (fun v' S' σ' => v' = v ∧ S' = S ∧ σ' = τ)
theorem aw_nmS {M : MI} {X : EX} {R : Room} {mc ms : Nat} {Q : QT} {kc kn : Nat} {S : List SC} {σ : St} {pc : Nat} {L : LV} {st : List Value} (k : ∀ τ : St, τ = σ → AW M X R mc ms Q kc kn S τ pc L st) : AW M X R mc ms Q kc kn S σ pc L st := k σ rfl
theorem aw_cV {M : MI} {X : EX} {R : Room} {mc ms : Nat} {Q : QT} {kc kn : Nat} {S : List SC} {σ : St} {pc : Nat} {L : LV} {st : List Value} {idx n : Nat} {M' : MI} {rm : Room} {av rest : List Value} {v : Option Value} {τ : St} {tab : List (Nat × TE)} {v0 : Int32} {v2 : Int64} (hT : tOK M.1.cls M.2.1 tab = true) (ht : tget tab pc = some (.invokevirtual idx, 3, v0, v2)) (pc2 : Nat) (hp : pc + 3 = pc2) {a ci : Nat} {fr : List (Option (Option Nat))} (hst : st = av.reverse ++ .ref a :: rest) (hk : LK M.1.cls idx M'.1) (hM : MV M' n) (hn : av.length = n) (hS : S[a]? = some (.inl (ci, fr))) (hcl : ∃ T k, vwCl[ci]? = some (M'.1.cls, T, k)) (hsp : Fn M' rm (.ref a :: av) S σ v τ)
    (hrm : rmOK rm R M' 0 0 kc kn) (hcat : (rest.map fun v => v.category).sum ≤ 8) (nv : Nat) (hnv : nv ≤ S.length) (hv : (L.all (fun q => vok nv q.2) && rest.all (vok nv)) = true) (st2 : List Value) (hst2 : v.toList ++ rest = st2)
    (kk : AW M X R mc ms Q kc kn S τ pc2 L st2) : AW M X R mc ms Q kc kn S σ pc L st := by
  refine aw_callV hT ht pc2 hp hst hk hM hn hS hcl hsp hrm hcat nv hnv hv (fun v' S' σ' q => ?_)
  obtain ⟨rfl, rfl, rfl⟩ := q
  rw [hst2]
  exact kk
theorem aw_cS {M : MI} {X : EX} {R : Room} {mc ms : Nat} {Q : QT} {kc kn : Nat} {S : List SC} {σ : St} {pc : Nat} {L : LV} {st : List Value} {idx n : Nat} {M' : MI} {rm : Room} {av rest : List Value} {v : Option Value} {τ : St} {tab : List (Nat × TE)} {v0 : Int32} {v2 : Int64} (hT : tOK M.1.cls M.2.1 tab = true) (ht : tget tab pc = some (.invokestatic idx, 3, v0, v2)) (pc2 : Nat) (hp : pc + 3 = pc2) (hst : st = av.reverse ++ rest) (hk : LK M.1.cls idx M'.1) (hM : MSt M' n) (hn : av.length = n) (hsp : Fn M' rm av S σ v τ)
    (hrm : rmOK rm R M' 0 0 kc kn) (hcat : (rest.map fun v => v.category).sum ≤ 8) (nv : Nat) (hnv : nv ≤ S.length) (hv : (L.all (fun q => vok nv q.2) && rest.all (vok nv)) = true) (st2 : List Value) (hst2 : v.toList ++ rest = st2)
    (kk : AW M X R mc ms Q kc kn S τ pc2 L st2) : AW M X R mc ms Q kc kn S σ pc L st := by
  refine aw_callS hT ht pc2 hp hst hk hM hn hsp hrm hcat nv hnv hv (fun v' S' σ' q => ?_)
  obtain ⟨rfl, rfl, rfl⟩ := q
  rw [hst2]
  exact kk
theorem aw_cSN {M : MI} {X : EX} {R : Room} {mc ms : Nat} {Q : QT} {kc kn : Nat} {S : List SC} {σ : St} {pc : Nat} {L : LV} {st : List Value} {idx n : Nat} {M' : MI} {rm : Room} {av rest : List Value} {v : Option Value} {τ : St} {tab : List (Nat × TE)} {v0 : Int32} {v2 : Int64} (hT : tOK M.1.cls M.2.1 tab = true) (ht : tget tab pc = some (.invokestatic idx, 3, v0, v2)) (pc2 : Nat) (hp : pc + 3 = pc2) {host : String} (hst : st = av.reverse ++ rest) (hk : (M.1.cls, idx, M'.1, host) ∈ nestL) (hM : MSt M' n) (hn : av.length = n) (hsp : Fn M' rm av S σ v τ)
    (hrm : rmOK rm R M' 0 0 kc kn) (hcat : (rest.map fun v => v.category).sum ≤ 8) (nv : Nat) (hnv : nv ≤ S.length) (hv : (L.all (fun q => vok nv q.2) && rest.all (vok nv)) = true) (st2 : List Value) (hst2 : v.toList ++ rest = st2)
    (kk : AW M X R mc ms Q kc kn S τ pc2 L st2) : AW M X R mc ms Q kc kn S σ pc L st := by
  refine aw_callSN hT ht pc2 hp hst hk hM hn hsp hrm hcat nv hnv hv (fun v' S' σ' q => ?_)
  obtain ⟨rfl, rfl, rfl⟩ := q
  rw [hst2]
  exact kk
def shp (g : Nat → Option Nat) : List SC := [.inl (5, [some (some 1), some (some 9), some (some 17), some (some 18), some (some 20), some (some 23), some (some 27)]),
  .inl (0, [some (some 2), some (some 3), some (some 4), some (some 5), some (some 6), some (some 7), some (some 8), none, none, none, none, none, none]),
  .inr (.inl (0, 6)),
  .inr (.inl (0, 6)),
  .inr (.inl (0, 6)),
  .inr (.inl (0, 6)),
  .inr (.inl (0, 6)),
  .inr (.inl (0, 8)),
  .inr (.inl (0, 8)),
  .inl (0, [some (some 10), some (some 11), some (some 12), some (some 13), some (some 14), some (some 15), some (some 16), none, none, none, none, none, none]),
  .inr (.inl (0, 6)),
  .inr (.inl (0, 6)),
  .inr (.inl (0, 6)),
  .inr (.inl (0, 6)),
  .inr (.inl (0, 6)),
  .inr (.inl (0, 8)),
  .inr (.inl (0, 8)),
  .inr (.inr (2, g)),
  .inl (1, [some (some 19), none, none, none]),
  .inr (.inl (0, 60)),
  .inl (2, [some (some 21), some (some 22)]),
  .inr (.inl (0, 6)),
  .inr (.inl (0, 64)),
  .inl (3, [some (some 24), some (some 25), some (some 26)]),
  .inr (.inl (0, 64)),
  .inr (.inl (0, 64)),
  .inr (.inl (0, 100)),
  .inl (4, [some (some 28), none, none]),
  .inr (.inl (0, 64)),
  .inl (6, [none, some (some 30), none, none, none, none, some (some 31), some (some 32), some (some 33), some (some 34), some (some 35), none, none, some (some 36), some (some 37), some (some 38), some (some 39), some (some 40), none, none, none, none, none, none, some (some 41), none, none, none, some (some 42), some (some 43), some (some 44), some (some 45)]),
  .inr (.inl (0, 6)),
  .inr (.inl (0, 16)),
  .inr (.inl (0, 6)),
  .inr (.inl (0, 6)),
  .inr (.inl (0, 6)),
  .inr (.inl (0, 6)),
  .inr (.inl (0, 60)),
  .inr (.inl (0, 6)),
  .inr (.inl (0, 6)),
  .inr (.inl (0, 6)),
  .inr (.inl (0, 6)),
  .inr (.inl (1, 384)),
  .inr (.inl (0, 600)),
  .inr (.inl (0, 64)),
  .inr (.inl (0, 140)),
  .inr (.inl (1, 2))]
def Wf (g : Nat → Option Nat) (S : List SC) : Prop := S.take 46 = shp g
theorem wf_len {g : Nat → Option Nat} {S : List SC} (h : Wf g S) : 46 ≤ S.length := by
  have h1 : (S.take 46).length = 46 := by rw [h]; rfl
  rw [List.length_take] at h1
  omega
theorem wf_at {g : Nat → Option Nat} {S : List SC} (h : Wf g S) (k : Nat) {c : SC} (hk : (shp g)[k]? = some c) : S[k]? = some c := by
  rw [← h, List.getElem?_take] at hk
  split at hk
  · exact hk
  · cases hk
theorem w_0 {g : Nat → Option Nat} {S : List SC} (h : Wf g S) : S[0]? = some (.inl (5, [some (some 1), some (some 9), some (some 17), some (some 18), some (some 20), some (some 23), some (some 27)])) := wf_at h 0 rfl
theorem w_1 {g : Nat → Option Nat} {S : List SC} (h : Wf g S) : S[1]? = some (.inl (0, [some (some 2), some (some 3), some (some 4), some (some 5), some (some 6), some (some 7), some (some 8), none, none, none, none, none, none])) := wf_at h 1 rfl
theorem w_2 {g : Nat → Option Nat} {S : List SC} (h : Wf g S) : S[2]? = some (.inr (.inl (0, 6))) := wf_at h 2 rfl
theorem w_3 {g : Nat → Option Nat} {S : List SC} (h : Wf g S) : S[3]? = some (.inr (.inl (0, 6))) := wf_at h 3 rfl
theorem w_4 {g : Nat → Option Nat} {S : List SC} (h : Wf g S) : S[4]? = some (.inr (.inl (0, 6))) := wf_at h 4 rfl
theorem w_5 {g : Nat → Option Nat} {S : List SC} (h : Wf g S) : S[5]? = some (.inr (.inl (0, 6))) := wf_at h 5 rfl
theorem w_6 {g : Nat → Option Nat} {S : List SC} (h : Wf g S) : S[6]? = some (.inr (.inl (0, 6))) := wf_at h 6 rfl
theorem w_7 {g : Nat → Option Nat} {S : List SC} (h : Wf g S) : S[7]? = some (.inr (.inl (0, 8))) := wf_at h 7 rfl
theorem w_8 {g : Nat → Option Nat} {S : List SC} (h : Wf g S) : S[8]? = some (.inr (.inl (0, 8))) := wf_at h 8 rfl
theorem w_9 {g : Nat → Option Nat} {S : List SC} (h : Wf g S) : S[9]? = some (.inl (0, [some (some 10), some (some 11), some (some 12), some (some 13), some (some 14), some (some 15), some (some 16), none, none, none, none, none, none])) := wf_at h 9 rfl
theorem w_10 {g : Nat → Option Nat} {S : List SC} (h : Wf g S) : S[10]? = some (.inr (.inl (0, 6))) := wf_at h 10 rfl
theorem w_11 {g : Nat → Option Nat} {S : List SC} (h : Wf g S) : S[11]? = some (.inr (.inl (0, 6))) := wf_at h 11 rfl
theorem w_12 {g : Nat → Option Nat} {S : List SC} (h : Wf g S) : S[12]? = some (.inr (.inl (0, 6))) := wf_at h 12 rfl
theorem w_13 {g : Nat → Option Nat} {S : List SC} (h : Wf g S) : S[13]? = some (.inr (.inl (0, 6))) := wf_at h 13 rfl
theorem w_14 {g : Nat → Option Nat} {S : List SC} (h : Wf g S) : S[14]? = some (.inr (.inl (0, 6))) := wf_at h 14 rfl
theorem w_15 {g : Nat → Option Nat} {S : List SC} (h : Wf g S) : S[15]? = some (.inr (.inl (0, 8))) := wf_at h 15 rfl
theorem w_16 {g : Nat → Option Nat} {S : List SC} (h : Wf g S) : S[16]? = some (.inr (.inl (0, 8))) := wf_at h 16 rfl
theorem w_17 {g : Nat → Option Nat} {S : List SC} (h : Wf g S) : S[17]? = some (.inr (.inr (2, g))) := wf_at h 17 rfl
theorem w_18 {g : Nat → Option Nat} {S : List SC} (h : Wf g S) : S[18]? = some (.inl (1, [some (some 19), none, none, none])) := wf_at h 18 rfl
theorem w_19 {g : Nat → Option Nat} {S : List SC} (h : Wf g S) : S[19]? = some (.inr (.inl (0, 60))) := wf_at h 19 rfl
theorem w_20 {g : Nat → Option Nat} {S : List SC} (h : Wf g S) : S[20]? = some (.inl (2, [some (some 21), some (some 22)])) := wf_at h 20 rfl
theorem w_21 {g : Nat → Option Nat} {S : List SC} (h : Wf g S) : S[21]? = some (.inr (.inl (0, 6))) := wf_at h 21 rfl
theorem w_22 {g : Nat → Option Nat} {S : List SC} (h : Wf g S) : S[22]? = some (.inr (.inl (0, 64))) := wf_at h 22 rfl
theorem w_23 {g : Nat → Option Nat} {S : List SC} (h : Wf g S) : S[23]? = some (.inl (3, [some (some 24), some (some 25), some (some 26)])) := wf_at h 23 rfl
theorem w_24 {g : Nat → Option Nat} {S : List SC} (h : Wf g S) : S[24]? = some (.inr (.inl (0, 64))) := wf_at h 24 rfl
theorem w_25 {g : Nat → Option Nat} {S : List SC} (h : Wf g S) : S[25]? = some (.inr (.inl (0, 64))) := wf_at h 25 rfl
theorem w_26 {g : Nat → Option Nat} {S : List SC} (h : Wf g S) : S[26]? = some (.inr (.inl (0, 100))) := wf_at h 26 rfl
theorem w_27 {g : Nat → Option Nat} {S : List SC} (h : Wf g S) : S[27]? = some (.inl (4, [some (some 28), none, none])) := wf_at h 27 rfl
theorem w_28 {g : Nat → Option Nat} {S : List SC} (h : Wf g S) : S[28]? = some (.inr (.inl (0, 64))) := wf_at h 28 rfl
theorem w_29 {g : Nat → Option Nat} {S : List SC} (h : Wf g S) : S[29]? = some (.inl (6, [none, some (some 30), none, none, none, none, some (some 31), some (some 32), some (some 33), some (some 34), some (some 35), none, none, some (some 36), some (some 37), some (some 38), some (some 39), some (some 40), none, none, none, none, none, none, some (some 41), none, none, none, some (some 42), some (some 43), some (some 44), some (some 45)])) := wf_at h 29 rfl
theorem w_30 {g : Nat → Option Nat} {S : List SC} (h : Wf g S) : S[30]? = some (.inr (.inl (0, 6))) := wf_at h 30 rfl
theorem w_31 {g : Nat → Option Nat} {S : List SC} (h : Wf g S) : S[31]? = some (.inr (.inl (0, 16))) := wf_at h 31 rfl
theorem w_32 {g : Nat → Option Nat} {S : List SC} (h : Wf g S) : S[32]? = some (.inr (.inl (0, 6))) := wf_at h 32 rfl
theorem w_33 {g : Nat → Option Nat} {S : List SC} (h : Wf g S) : S[33]? = some (.inr (.inl (0, 6))) := wf_at h 33 rfl
theorem w_34 {g : Nat → Option Nat} {S : List SC} (h : Wf g S) : S[34]? = some (.inr (.inl (0, 6))) := wf_at h 34 rfl
theorem w_35 {g : Nat → Option Nat} {S : List SC} (h : Wf g S) : S[35]? = some (.inr (.inl (0, 6))) := wf_at h 35 rfl
theorem w_36 {g : Nat → Option Nat} {S : List SC} (h : Wf g S) : S[36]? = some (.inr (.inl (0, 60))) := wf_at h 36 rfl
theorem w_37 {g : Nat → Option Nat} {S : List SC} (h : Wf g S) : S[37]? = some (.inr (.inl (0, 6))) := wf_at h 37 rfl
theorem w_38 {g : Nat → Option Nat} {S : List SC} (h : Wf g S) : S[38]? = some (.inr (.inl (0, 6))) := wf_at h 38 rfl
theorem w_39 {g : Nat → Option Nat} {S : List SC} (h : Wf g S) : S[39]? = some (.inr (.inl (0, 6))) := wf_at h 39 rfl
theorem w_40 {g : Nat → Option Nat} {S : List SC} (h : Wf g S) : S[40]? = some (.inr (.inl (0, 6))) := wf_at h 40 rfl
theorem w_41 {g : Nat → Option Nat} {S : List SC} (h : Wf g S) : S[41]? = some (.inr (.inl (1, 384))) := wf_at h 41 rfl
theorem w_42 {g : Nat → Option Nat} {S : List SC} (h : Wf g S) : S[42]? = some (.inr (.inl (0, 600))) := wf_at h 42 rfl
theorem w_43 {g : Nat → Option Nat} {S : List SC} (h : Wf g S) : S[43]? = some (.inr (.inl (0, 64))) := wf_at h 43 rfl
theorem w_44 {g : Nat → Option Nat} {S : List SC} (h : Wf g S) : S[44]? = some (.inr (.inl (0, 140))) := wf_at h 44 rfl
theorem w_45 {g : Nat → Option Nat} {S : List SC} (h : Wf g S) : S[45]? = some (.inr (.inl (1, 2))) := wf_at h 45 rfl
def LA (S : List SC) (b : Nat) : Prop := S[b]? = some (.inl (0, [some (some (b + 1)), some (some (b + 2)), some (some (b + 3)), some (some (b + 4)), some (some (b + 5)), some (some (b + 6)), some (some (b + 7)), none, none, none, none, none, none])) ∧ S[b + 1]? = some (.inr (.inl (0, 6))) ∧ S[b + 2]? = some (.inr (.inl (0, 6))) ∧ S[b + 3]? = some (.inr (.inl (0, 6))) ∧ S[b + 4]? = some (.inr (.inl (0, 6))) ∧ S[b + 5]? = some (.inr (.inl (0, 6))) ∧ S[b + 6]? = some (.inr (.inl (0, 8))) ∧ S[b + 7]? = some (.inr (.inl (0, 8)))
theorem la_1 {g : Nat → Option Nat} {S : List SC} (h : Wf g S) : LA S 1 := ⟨w_1 h, w_2 h, w_3 h, w_4 h, w_5 h, w_6 h, w_7 h, w_8 h⟩
theorem la_9 {g : Nat → Option Nat} {S : List SC} (h : Wf g S) : LA S 9 := ⟨w_9 h, w_10 h, w_11 h, w_12 h, w_13 h, w_14 h, w_15 h, w_16 h⟩
theorem flX5_12 : FL RX5 12 5 0 := ⟨RX5, TX5, 7, rfl, by decide, iwX5, gt_at 147 (by decide +kernel) rfl⟩
theorem fpX5_12 : FP RX5 12 5 0 (.object "StolenApples$Land") true := ⟨RX5, TX5, 7, tyX5, rfl, by decide, iwX5, gt_at 147 (by decide +kernel) rfl, tyX5_ok, nmX5, rfl, by decide +kernel, fun h => by first | rfl | cases h⟩
theorem flX5_16 : FL RX5 16 5 1 := ⟨RX5, TX5, 7, rfl, by decide, iwX5, gt_at 148 (by decide +kernel) rfl⟩
theorem fpX5_16 : FP RX5 16 5 1 (.object "StolenApples$Land") true := ⟨RX5, TX5, 7, tyX5, rfl, by decide, iwX5, gt_at 148 (by decide +kernel) rfl, tyX5_ok, nmX5, rfl, by decide +kernel, fun h => by first | rfl | cases h⟩
theorem flX5_19 : FL RX5 19 5 2 := ⟨RX5, TX5, 7, rfl, by decide, iwX5, gt_at 149 (by decide +kernel) rfl⟩
theorem fpX5_19 : FP RX5 19 5 2 (.array (.object "StolenApples$Land")) true := ⟨RX5, TX5, 7, tyX5, rfl, by decide, iwX5, gt_at 149 (by decide +kernel) rfl, tyX5_ok, nmX5, rfl, by decide +kernel, fun h => by first | rfl | cases h⟩
theorem flX5_26 : FL RX5 26 5 3 := ⟨RX5, TX5, 7, rfl, by decide, iwX5, gt_at 150 (by decide +kernel) rfl⟩
theorem fpX5_26 : FP RX5 26 5 3 (.object "StolenApples$Nights") true := ⟨RX5, TX5, 7, tyX5, rfl, by decide, iwX5, gt_at 150 (by decide +kernel) rfl, tyX5_ok, nmX5, rfl, by decide +kernel, fun h => by first | rfl | cases h⟩
theorem flX5_33 : FL RX5 33 5 4 := ⟨RX5, TX5, 7, rfl, by decide, iwX5, gt_at 151 (by decide +kernel) rfl⟩
theorem fpX5_33 : FP RX5 33 5 4 (.object "StolenApples$Paths") true := ⟨RX5, TX5, 7, tyX5, rfl, by decide, iwX5, gt_at 151 (by decide +kernel) rfl, tyX5_ok, nmX5, rfl, by decide +kernel, fun h => by first | rfl | cases h⟩
theorem flX5_40 : FL RX5 40 5 5 := ⟨RX5, TX5, 7, rfl, by decide, iwX5, gt_at 152 (by decide +kernel) rfl⟩
theorem fpX5_40 : FP RX5 40 5 5 (.object "StolenApples$Rows") true := ⟨RX5, TX5, 7, tyX5, rfl, by decide, iwX5, gt_at 152 (by decide +kernel) rfl, tyX5_ok, nmX5, rfl, by decide +kernel, fun h => by first | rfl | cases h⟩
theorem flX5_47 : FL RX5 47 5 6 := ⟨RX5, TX5, 7, rfl, by decide, iwX5, gt_at 153 (by decide +kernel) rfl⟩
theorem fpX5_47 : FP RX5 47 5 6 (.object "StolenApples$Turns") true := ⟨RX5, TX5, 7, tyX5, rfl, by decide, iwX5, gt_at 153 (by decide +kernel) rfl, tyX5_ok, nmX5, rfl, by decide +kernel, fun h => by first | rfl | cases h⟩
theorem flX5_71 : FL RX5 71 0 12 := ⟨RX0, TX0, 13, rfl, by decide, iwX0, gt_at 48 (by decide +kernel) rfl⟩
theorem fpX5_71 : FP RX5 71 0 12 .int false := ⟨RX0, TX0, 13, tyX0, rfl, by decide, iwX0, gt_at 48 (by decide +kernel) rfl, tyX0_ok, nmX0, rfl, by decide +kernel, fun h => by first | rfl | cases h⟩
theorem flX5_78 : FL RX5 78 1 1 := ⟨RX1, TX1, 4, rfl, by decide, iwX1, gt_at 86 (by decide +kernel) rfl⟩
theorem fpX5_78 : FP RX5 78 1 1 .int false := ⟨RX1, TX1, 4, tyX1, rfl, by decide, iwX1, gt_at 86 (by decide +kernel) rfl, tyX1_ok, nmX1, rfl, by decide +kernel, fun h => by first | rfl | cases h⟩
theorem flX5_88 : FL RX5 88 1 2 := ⟨RX1, TX1, 4, rfl, by decide, iwX1, gt_at 88 (by decide +kernel) rfl⟩
theorem fpX5_88 : FP RX5 88 1 2 .int false := ⟨RX1, TX1, 4, tyX1, rfl, by decide, iwX1, gt_at 88 (by decide +kernel) rfl, tyX1_ok, nmX1, rfl, by decide +kernel, fun h => by first | rfl | cases h⟩
theorem flX5_91 : FL RX5 91 1 3 := ⟨RX1, TX1, 4, rfl, by decide, iwX1, gt_at 90 (by decide +kernel) rfl⟩
theorem fpX5_91 : FP RX5 91 1 3 .int false := ⟨RX1, TX1, 4, tyX1, rfl, by decide, iwX1, gt_at 90 (by decide +kernel) rfl, tyX1_ok, nmX1, rfl, by decide +kernel, fun h => by first | rfl | cases h⟩
theorem flX5_105 : FL RX5 105 0 8 := ⟨RX0, TX0, 13, rfl, by decide, iwX0, gt_at 41 (by decide +kernel) rfl⟩
theorem fpX5_105 : FP RX5 105 0 8 .int false := ⟨RX0, TX0, 13, tyX0, rfl, by decide, iwX0, gt_at 41 (by decide +kernel) rfl, tyX0_ok, nmX0, rfl, by decide +kernel, fun h => by first | rfl | cases h⟩
theorem flX5_139 : FL RX5 139 0 0 := ⟨RX0, TX0, 13, rfl, by decide, iwX0, gt_at 28 (by decide +kernel) rfl⟩
theorem flX5_146 : FL RX5 146 0 1 := ⟨RX0, TX0, 13, rfl, by decide, iwX0, gt_at 31 (by decide +kernel) rfl⟩
theorem flX5_157 : FL RX5 157 0 7 := ⟨RX0, TX0, 13, rfl, by decide, iwX0, gt_at 39 (by decide +kernel) rfl⟩
theorem fpX5_157 : FP RX5 157 0 7 .int false := ⟨RX0, TX0, 13, tyX0, rfl, by decide, iwX0, gt_at 39 (by decide +kernel) rfl, tyX0_ok, nmX0, rfl, by decide +kernel, fun h => by first | rfl | cases h⟩
theorem flX5_184 : FL RX5 184 4 1 := ⟨RX4, TX4, 3, rfl, by decide, iwX4, gt_at 137 (by decide +kernel) rfl⟩
theorem fpX5_184 : FP RX5 184 4 1 .int false := ⟨RX4, TX4, 3, tyX4, rfl, by decide, iwX4, gt_at 137 (by decide +kernel) rfl, tyX4_ok, nmX4, rfl, by decide +kernel, fun h => by first | rfl | cases h⟩
theorem flX5_187 : FL RX5 187 4 2 := ⟨RX4, TX4, 3, rfl, by decide, iwX4, gt_at 139 (by decide +kernel) rfl⟩
theorem fpX5_187 : FP RX5 187 4 2 .int false := ⟨RX4, TX4, 3, tyX4, rfl, by decide, iwX4, gt_at 139 (by decide +kernel) rfl, tyX4_ok, nmX4, rfl, by decide +kernel, fun h => by first | rfl | cases h⟩
theorem flX5_199 : FL RX5 199 0 2 := ⟨RX0, TX0, 13, rfl, by decide, iwX0, gt_at 33 (by decide +kernel) rfl⟩
theorem flX5_220 : FL RX5 220 0 10 := ⟨RX0, TX0, 13, rfl, by decide, iwX0, gt_at 44 (by decide +kernel) rfl⟩
theorem fpX5_220 : FP RX5 220 0 10 .int false := ⟨RX0, TX0, 13, tyX0, rfl, by decide, iwX0, gt_at 44 (by decide +kernel) rfl, tyX0_ok, nmX0, rfl, by decide +kernel, fun h => by first | rfl | cases h⟩
theorem flX5_223 : FL RX5 223 0 11 := ⟨RX0, TX0, 13, rfl, by decide, iwX0, gt_at 46 (by decide +kernel) rfl⟩
theorem fpX5_223 : FP RX5 223 0 11 .int false := ⟨RX0, TX0, 13, tyX0, rfl, by decide, iwX0, gt_at 46 (by decide +kernel) rfl, tyX0_ok, nmX0, rfl, by decide +kernel, fun h => by first | rfl | cases h⟩
theorem flX0_9 : FL RX0 9 0 0 := ⟨RX0, TX0, 13, rfl, by decide, iwX0, gt_at 26 (by decide +kernel) rfl⟩
theorem fpX0_9 : FP RX0 9 0 0 (.array .int) true := ⟨RX0, TX0, 13, tyX0, rfl, by decide, iwX0, gt_at 26 (by decide +kernel) rfl, tyX0_ok, nmX0, rfl, by decide +kernel, fun h => by first | rfl | cases h⟩
theorem flX0_15 : FL RX0 15 0 1 := ⟨RX0, TX0, 13, rfl, by decide, iwX0, gt_at 29 (by decide +kernel) rfl⟩
theorem fpX0_15 : FP RX0 15 0 1 (.array .int) true := ⟨RX0, TX0, 13, tyX0, rfl, by decide, iwX0, gt_at 29 (by decide +kernel) rfl, tyX0_ok, nmX0, rfl, by decide +kernel, fun h => by first | rfl | cases h⟩
theorem flX0_18 : FL RX0 18 0 2 := ⟨RX0, TX0, 13, rfl, by decide, iwX0, gt_at 32 (by decide +kernel) rfl⟩
theorem fpX0_18 : FP RX0 18 0 2 (.array .int) true := ⟨RX0, TX0, 13, tyX0, rfl, by decide, iwX0, gt_at 32 (by decide +kernel) rfl, tyX0_ok, nmX0, rfl, by decide +kernel, fun h => by first | rfl | cases h⟩
theorem flX0_21 : FL RX0 21 0 3 := ⟨RX0, TX0, 13, rfl, by decide, iwX0, gt_at 34 (by decide +kernel) rfl⟩
theorem fpX0_21 : FP RX0 21 0 3 (.array .int) true := ⟨RX0, TX0, 13, tyX0, rfl, by decide, iwX0, gt_at 34 (by decide +kernel) rfl, tyX0_ok, nmX0, rfl, by decide +kernel, fun h => by first | rfl | cases h⟩
theorem flX0_24 : FL RX0 24 0 4 := ⟨RX0, TX0, 13, rfl, by decide, iwX0, gt_at 35 (by decide +kernel) rfl⟩
theorem fpX0_24 : FP RX0 24 0 4 (.array .int) true := ⟨RX0, TX0, 13, tyX0, rfl, by decide, iwX0, gt_at 35 (by decide +kernel) rfl, tyX0_ok, nmX0, rfl, by decide +kernel, fun h => by first | rfl | cases h⟩
theorem flX0_27 : FL RX0 27 0 5 := ⟨RX0, TX0, 13, rfl, by decide, iwX0, gt_at 36 (by decide +kernel) rfl⟩
theorem fpX0_27 : FP RX0 27 0 5 (.array .int) true := ⟨RX0, TX0, 13, tyX0, rfl, by decide, iwX0, gt_at 36 (by decide +kernel) rfl, tyX0_ok, nmX0, rfl, by decide +kernel, fun h => by first | rfl | cases h⟩
theorem flX0_30 : FL RX0 30 0 6 := ⟨RX0, TX0, 13, rfl, by decide, iwX0, gt_at 37 (by decide +kernel) rfl⟩
theorem fpX0_30 : FP RX0 30 0 6 (.array .int) true := ⟨RX0, TX0, 13, tyX0, rfl, by decide, iwX0, gt_at 37 (by decide +kernel) rfl, tyX0_ok, nmX0, rfl, by decide +kernel, fun h => by first | rfl | cases h⟩
theorem flX0_33 : FL RX0 33 0 7 := ⟨RX0, TX0, 13, rfl, by decide, iwX0, gt_at 38 (by decide +kernel) rfl⟩
theorem fpX0_33 : FP RX0 33 0 7 .int false := ⟨RX0, TX0, 13, tyX0, rfl, by decide, iwX0, gt_at 38 (by decide +kernel) rfl, tyX0_ok, nmX0, rfl, by decide +kernel, fun h => by first | rfl | cases h⟩
theorem flX0_37 : FL RX0 37 0 8 := ⟨RX0, TX0, 13, rfl, by decide, iwX0, gt_at 40 (by decide +kernel) rfl⟩
theorem fpX0_37 : FP RX0 37 0 8 .int false := ⟨RX0, TX0, 13, tyX0, rfl, by decide, iwX0, gt_at 40 (by decide +kernel) rfl, tyX0_ok, nmX0, rfl, by decide +kernel, fun h => by first | rfl | cases h⟩
theorem flX0_40 : FL RX0 40 0 9 := ⟨RX0, TX0, 13, rfl, by decide, iwX0, gt_at 42 (by decide +kernel) rfl⟩
theorem fpX0_40 : FP RX0 40 0 9 .int false := ⟨RX0, TX0, 13, tyX0, rfl, by decide, iwX0, gt_at 42 (by decide +kernel) rfl, tyX0_ok, nmX0, rfl, by decide +kernel, fun h => by first | rfl | cases h⟩
theorem flX0_43 : FL RX0 43 0 10 := ⟨RX0, TX0, 13, rfl, by decide, iwX0, gt_at 43 (by decide +kernel) rfl⟩
theorem fpX0_43 : FP RX0 43 0 10 .int false := ⟨RX0, TX0, 13, tyX0, rfl, by decide, iwX0, gt_at 43 (by decide +kernel) rfl, tyX0_ok, nmX0, rfl, by decide +kernel, fun h => by first | rfl | cases h⟩
theorem flX0_46 : FL RX0 46 0 11 := ⟨RX0, TX0, 13, rfl, by decide, iwX0, gt_at 45 (by decide +kernel) rfl⟩
theorem fpX0_46 : FP RX0 46 0 11 .int false := ⟨RX0, TX0, 13, tyX0, rfl, by decide, iwX0, gt_at 45 (by decide +kernel) rfl, tyX0_ok, nmX0, rfl, by decide +kernel, fun h => by first | rfl | cases h⟩
theorem flX0_49 : FL RX0 49 0 12 := ⟨RX0, TX0, 13, rfl, by decide, iwX0, gt_at 47 (by decide +kernel) rfl⟩
theorem fpX0_49 : FP RX0 49 0 12 .int false := ⟨RX0, TX0, 13, tyX0, rfl, by decide, iwX0, gt_at 47 (by decide +kernel) rfl, tyX0_ok, nmX0, rfl, by decide +kernel, fun h => by first | rfl | cases h⟩
theorem flX1_9 : FL RX1 9 1 0 := ⟨RX1, TX1, 4, rfl, by decide, iwX1, gt_at 84 (by decide +kernel) rfl⟩
theorem fpX1_9 : FP RX1 9 1 0 (.array .int) true := ⟨RX1, TX1, 4, tyX1, rfl, by decide, iwX1, gt_at 84 (by decide +kernel) rfl, tyX1_ok, nmX1, rfl, by decide +kernel, fun h => by first | rfl | cases h⟩
theorem flX1_15 : FL RX1 15 1 1 := ⟨RX1, TX1, 4, rfl, by decide, iwX1, gt_at 85 (by decide +kernel) rfl⟩
theorem fpX1_15 : FP RX1 15 1 1 .int false := ⟨RX1, TX1, 4, tyX1, rfl, by decide, iwX1, gt_at 85 (by decide +kernel) rfl, tyX1_ok, nmX1, rfl, by decide +kernel, fun h => by first | rfl | cases h⟩
theorem flX1_19 : FL RX1 19 1 2 := ⟨RX1, TX1, 4, rfl, by decide, iwX1, gt_at 87 (by decide +kernel) rfl⟩
theorem fpX1_19 : FP RX1 19 1 2 .int false := ⟨RX1, TX1, 4, tyX1, rfl, by decide, iwX1, gt_at 87 (by decide +kernel) rfl, tyX1_ok, nmX1, rfl, by decide +kernel, fun h => by first | rfl | cases h⟩
theorem flX1_22 : FL RX1 22 1 3 := ⟨RX1, TX1, 4, rfl, by decide, iwX1, gt_at 89 (by decide +kernel) rfl⟩
theorem fpX1_22 : FP RX1 22 1 3 .int false := ⟨RX1, TX1, 4, tyX1, rfl, by decide, iwX1, gt_at 89 (by decide +kernel) rfl, tyX1_ok, nmX1, rfl, by decide +kernel, fun h => by first | rfl | cases h⟩
theorem flX2_9 : FL RX2 9 2 0 := ⟨RX2, TX2, 2, rfl, by decide, iwX2, gt_at 106 (by decide +kernel) rfl⟩
theorem fpX2_9 : FP RX2 9 2 0 (.array .int) true := ⟨RX2, TX2, 2, tyX2, rfl, by decide, iwX2, gt_at 106 (by decide +kernel) rfl, tyX2_ok, nmX2, rfl, by decide +kernel, fun h => by first | rfl | cases h⟩
theorem flX2_15 : FL RX2 15 2 1 := ⟨RX2, TX2, 2, rfl, by decide, iwX2, gt_at 107 (by decide +kernel) rfl⟩
theorem fpX2_15 : FP RX2 15 2 1 (.array .int) true := ⟨RX2, TX2, 2, tyX2, rfl, by decide, iwX2, gt_at 107 (by decide +kernel) rfl, tyX2_ok, nmX2, rfl, by decide +kernel, fun h => by first | rfl | cases h⟩
theorem flX3_9 : FL RX3 9 3 0 := ⟨RX3, TX3, 3, rfl, by decide, iwX3, gt_at 119 (by decide +kernel) rfl⟩
theorem fpX3_9 : FP RX3 9 3 0 (.array .int) true := ⟨RX3, TX3, 3, tyX3, rfl, by decide, iwX3, gt_at 119 (by decide +kernel) rfl, tyX3_ok, nmX3, rfl, by decide +kernel, fun h => by first | rfl | cases h⟩
theorem flX3_15 : FL RX3 15 3 1 := ⟨RX3, TX3, 3, rfl, by decide, iwX3, gt_at 120 (by decide +kernel) rfl⟩
theorem fpX3_15 : FP RX3 15 3 1 (.array .int) true := ⟨RX3, TX3, 3, tyX3, rfl, by decide, iwX3, gt_at 120 (by decide +kernel) rfl, tyX3_ok, nmX3, rfl, by decide +kernel, fun h => by first | rfl | cases h⟩
theorem flX3_18 : FL RX3 18 3 2 := ⟨RX3, TX3, 3, rfl, by decide, iwX3, gt_at 121 (by decide +kernel) rfl⟩
theorem fpX3_18 : FP RX3 18 3 2 (.array .int) true := ⟨RX3, TX3, 3, tyX3, rfl, by decide, iwX3, gt_at 121 (by decide +kernel) rfl, tyX3_ok, nmX3, rfl, by decide +kernel, fun h => by first | rfl | cases h⟩
theorem flX3_37 : FL RX3 37 0 0 := ⟨RX0, TX0, 13, rfl, by decide, iwX0, gt_at 27 (by decide +kernel) rfl⟩
theorem flX3_46 : FL RX3 46 0 1 := ⟨RX0, TX0, 13, rfl, by decide, iwX0, gt_at 30 (by decide +kernel) rfl⟩
theorem flX4_9 : FL RX4 9 4 0 := ⟨RX4, TX4, 3, rfl, by decide, iwX4, gt_at 135 (by decide +kernel) rfl⟩
theorem fpX4_9 : FP RX4 9 4 0 (.array .int) true := ⟨RX4, TX4, 3, tyX4, rfl, by decide, iwX4, gt_at 135 (by decide +kernel) rfl, tyX4_ok, nmX4, rfl, by decide +kernel, fun h => by first | rfl | cases h⟩
theorem flX4_15 : FL RX4 15 4 1 := ⟨RX4, TX4, 3, rfl, by decide, iwX4, gt_at 136 (by decide +kernel) rfl⟩
theorem fpX4_15 : FP RX4 15 4 1 .int false := ⟨RX4, TX4, 3, tyX4, rfl, by decide, iwX4, gt_at 136 (by decide +kernel) rfl, tyX4_ok, nmX4, rfl, by decide +kernel, fun h => by first | rfl | cases h⟩
theorem flX4_19 : FL RX4 19 4 2 := ⟨RX4, TX4, 3, rfl, by decide, iwX4, gt_at 138 (by decide +kernel) rfl⟩
theorem fpX4_19 : FP RX4 19 4 2 .int false := ⟨RX4, TX4, 3, tyX4, rfl, by decide, iwX4, gt_at 138 (by decide +kernel) rfl, tyX4_ok, nmX4, rfl, by decide +kernel, fun h => by first | rfl | cases h⟩
theorem flX6_7 : FL RX6 7 6 1 := ⟨RX6, TX6, 32, rfl, by decide, iwX6, gt_at 580 (by decide +kernel) rfl⟩
theorem fpX6_7 : FP RX6 7 6 1 (.array .int) true := ⟨RX6, TX6, 32, tyX6, rfl, by decide, iwX6, gt_at 580 (by decide +kernel) rfl, tyX6_ok, nmX6, rfl, by decide +kernel, fun h => by first | rfl | cases h⟩
theorem flX6_13 : FL RX6 13 6 4 := ⟨RX6, TX6, 32, rfl, by decide, iwX6, gt_at 583 (by decide +kernel) rfl⟩
theorem fpX6_13 : FP RX6 13 6 4 .int false := ⟨RX6, TX6, 32, tyX6, rfl, by decide, iwX6, gt_at 583 (by decide +kernel) rfl, tyX6_ok, nmX6, rfl, by decide +kernel, fun h => by first | rfl | cases h⟩
theorem flX6_17 : FL RX6 17 6 6 := ⟨RX6, TX6, 32, rfl, by decide, iwX6, gt_at 585 (by decide +kernel) rfl⟩
theorem fpX6_17 : FP RX6 17 6 6 (.array .int) true := ⟨RX6, TX6, 32, tyX6, rfl, by decide, iwX6, gt_at 585 (by decide +kernel) rfl, tyX6_ok, nmX6, rfl, by decide +kernel, fun h => by first | rfl | cases h⟩
theorem flX6_20 : FL RX6 20 6 7 := ⟨RX6, TX6, 32, rfl, by decide, iwX6, gt_at 586 (by decide +kernel) rfl⟩
theorem fpX6_20 : FP RX6 20 6 7 (.array .int) true := ⟨RX6, TX6, 32, tyX6, rfl, by decide, iwX6, gt_at 586 (by decide +kernel) rfl, tyX6_ok, nmX6, rfl, by decide +kernel, fun h => by first | rfl | cases h⟩
theorem flX6_23 : FL RX6 23 6 8 := ⟨RX6, TX6, 32, rfl, by decide, iwX6, gt_at 587 (by decide +kernel) rfl⟩
theorem fpX6_23 : FP RX6 23 6 8 (.array .int) true := ⟨RX6, TX6, 32, tyX6, rfl, by decide, iwX6, gt_at 587 (by decide +kernel) rfl, tyX6_ok, nmX6, rfl, by decide +kernel, fun h => by first | rfl | cases h⟩
theorem flX6_26 : FL RX6 26 6 9 := ⟨RX6, TX6, 32, rfl, by decide, iwX6, gt_at 588 (by decide +kernel) rfl⟩
theorem fpX6_26 : FP RX6 26 6 9 (.array .int) true := ⟨RX6, TX6, 32, tyX6, rfl, by decide, iwX6, gt_at 588 (by decide +kernel) rfl, tyX6_ok, nmX6, rfl, by decide +kernel, fun h => by first | rfl | cases h⟩
theorem flX6_29 : FL RX6 29 6 10 := ⟨RX6, TX6, 32, rfl, by decide, iwX6, gt_at 589 (by decide +kernel) rfl⟩
theorem fpX6_29 : FP RX6 29 6 10 (.array .int) true := ⟨RX6, TX6, 32, tyX6, rfl, by decide, iwX6, gt_at 589 (by decide +kernel) rfl, tyX6_ok, nmX6, rfl, by decide +kernel, fun h => by first | rfl | cases h⟩
theorem flX6_32 : FL RX6 32 6 13 := ⟨RX6, TX6, 32, rfl, by decide, iwX6, gt_at 592 (by decide +kernel) rfl⟩
theorem fpX6_32 : FP RX6 32 6 13 (.array .int) true := ⟨RX6, TX6, 32, tyX6, rfl, by decide, iwX6, gt_at 592 (by decide +kernel) rfl, tyX6_ok, nmX6, rfl, by decide +kernel, fun h => by first | rfl | cases h⟩
theorem flX6_35 : FL RX6 35 6 14 := ⟨RX6, TX6, 32, rfl, by decide, iwX6, gt_at 593 (by decide +kernel) rfl⟩
theorem fpX6_35 : FP RX6 35 6 14 (.array .int) true := ⟨RX6, TX6, 32, tyX6, rfl, by decide, iwX6, gt_at 593 (by decide +kernel) rfl, tyX6_ok, nmX6, rfl, by decide +kernel, fun h => by first | rfl | cases h⟩
theorem flX6_38 : FL RX6 38 6 15 := ⟨RX6, TX6, 32, rfl, by decide, iwX6, gt_at 594 (by decide +kernel) rfl⟩
theorem fpX6_38 : FP RX6 38 6 15 (.array .int) true := ⟨RX6, TX6, 32, tyX6, rfl, by decide, iwX6, gt_at 594 (by decide +kernel) rfl, tyX6_ok, nmX6, rfl, by decide +kernel, fun h => by first | rfl | cases h⟩
theorem flX6_41 : FL RX6 41 6 16 := ⟨RX6, TX6, 32, rfl, by decide, iwX6, gt_at 595 (by decide +kernel) rfl⟩
theorem fpX6_41 : FP RX6 41 6 16 (.array .int) true := ⟨RX6, TX6, 32, tyX6, rfl, by decide, iwX6, gt_at 595 (by decide +kernel) rfl, tyX6_ok, nmX6, rfl, by decide +kernel, fun h => by first | rfl | cases h⟩
theorem flX6_44 : FL RX6 44 6 17 := ⟨RX6, TX6, 32, rfl, by decide, iwX6, gt_at 596 (by decide +kernel) rfl⟩
theorem fpX6_44 : FP RX6 44 6 17 (.array .int) true := ⟨RX6, TX6, 32, tyX6, rfl, by decide, iwX6, gt_at 596 (by decide +kernel) rfl, tyX6_ok, nmX6, rfl, by decide +kernel, fun h => by first | rfl | cases h⟩
theorem flX6_47 : FL RX6 47 6 24 := ⟨RX6, TX6, 32, rfl, by decide, iwX6, gt_at 603 (by decide +kernel) rfl⟩
theorem fpX6_47 : FP RX6 47 6 24 (.array .boolean) true := ⟨RX6, TX6, 32, tyX6, rfl, by decide, iwX6, gt_at 603 (by decide +kernel) rfl, tyX6_ok, nmX6, rfl, by decide +kernel, fun h => by first | rfl | cases h⟩
theorem flX6_51 : FL RX6 51 6 28 := ⟨RX6, TX6, 32, rfl, by decide, iwX6, gt_at 607 (by decide +kernel) rfl⟩
theorem fpX6_51 : FP RX6 51 6 28 (.array .int) true := ⟨RX6, TX6, 32, tyX6, rfl, by decide, iwX6, gt_at 607 (by decide +kernel) rfl, tyX6_ok, nmX6, rfl, by decide +kernel, fun h => by first | rfl | cases h⟩
theorem flX6_54 : FL RX6 54 6 29 := ⟨RX6, TX6, 32, rfl, by decide, iwX6, gt_at 608 (by decide +kernel) rfl⟩
theorem fpX6_54 : FP RX6 54 6 29 (.array .int) true := ⟨RX6, TX6, 32, tyX6, rfl, by decide, iwX6, gt_at 608 (by decide +kernel) rfl, tyX6_ok, nmX6, rfl, by decide +kernel, fun h => by first | rfl | cases h⟩
theorem flX6_57 : FL RX6 57 6 30 := ⟨RX6, TX6, 32, rfl, by decide, iwX6, gt_at 609 (by decide +kernel) rfl⟩
theorem fpX6_57 : FP RX6 57 6 30 (.array .int) true := ⟨RX6, TX6, 32, tyX6, rfl, by decide, iwX6, gt_at 609 (by decide +kernel) rfl, tyX6_ok, nmX6, rfl, by decide +kernel, fun h => by first | rfl | cases h⟩
theorem flX6_60 : FL RX6 60 6 31 := ⟨RX6, TX6, 32, rfl, by decide, iwX6, gt_at 610 (by decide +kernel) rfl⟩
theorem fpX6_60 : FP RX6 60 6 31 (.array .boolean) true := ⟨RX6, TX6, 32, tyX6, rfl, by decide, iwX6, gt_at 610 (by decide +kernel) rfl, tyX6_ok, nmX6, rfl, by decide +kernel, fun h => by first | rfl | cases h⟩
theorem flX6_63 : FL RX6 63 6 0 := ⟨RX6, TX6, 32, rfl, by decide, iwX6, gt_at 579 (by decide +kernel) rfl⟩
theorem fpX6_63 : FP RX6 63 6 0 .int false := ⟨RX6, TX6, 32, tyX6, rfl, by decide, iwX6, gt_at 579 (by decide +kernel) rfl, tyX6_ok, nmX6, rfl, by decide +kernel, fun h => by first | rfl | cases h⟩
theorem flX6_82 : FL RX6 82 6 2 := ⟨RX6, TX6, 32, rfl, by decide, iwX6, gt_at 581 (by decide +kernel) rfl⟩
theorem fpX6_82 : FP RX6 82 6 2 .int false := ⟨RX6, TX6, 32, tyX6, rfl, by decide, iwX6, gt_at 581 (by decide +kernel) rfl, tyX6_ok, nmX6, rfl, by decide +kernel, fun h => by first | rfl | cases h⟩
theorem flX6_85 : FL RX6 85 6 3 := ⟨RX6, TX6, 32, rfl, by decide, iwX6, gt_at 582 (by decide +kernel) rfl⟩
theorem fpX6_85 : FP RX6 85 6 3 .int false := ⟨RX6, TX6, 32, tyX6, rfl, by decide, iwX6, gt_at 582 (by decide +kernel) rfl, tyX6_ok, nmX6, rfl, by decide +kernel, fun h => by first | rfl | cases h⟩
theorem flX6_88 : FL RX6 88 6 11 := ⟨RX6, TX6, 32, rfl, by decide, iwX6, gt_at 590 (by decide +kernel) rfl⟩
theorem fpX6_88 : FP RX6 88 6 11 .int false := ⟨RX6, TX6, 32, tyX6, rfl, by decide, iwX6, gt_at 590 (by decide +kernel) rfl, tyX6_ok, nmX6, rfl, by decide +kernel, fun h => by first | rfl | cases h⟩
theorem flX6_91 : FL RX6 91 6 12 := ⟨RX6, TX6, 32, rfl, by decide, iwX6, gt_at 591 (by decide +kernel) rfl⟩
theorem fpX6_91 : FP RX6 91 6 12 .int false := ⟨RX6, TX6, 32, tyX6, rfl, by decide, iwX6, gt_at 591 (by decide +kernel) rfl, tyX6_ok, nmX6, rfl, by decide +kernel, fun h => by first | rfl | cases h⟩
theorem flX6_101 : FL RX6 101 6 18 := ⟨RX6, TX6, 32, rfl, by decide, iwX6, gt_at 597 (by decide +kernel) rfl⟩
theorem fpX6_101 : FP RX6 101 6 18 .int false := ⟨RX6, TX6, 32, tyX6, rfl, by decide, iwX6, gt_at 597 (by decide +kernel) rfl, tyX6_ok, nmX6, rfl, by decide +kernel, fun h => by first | rfl | cases h⟩
theorem flX6_104 : FL RX6 104 6 19 := ⟨RX6, TX6, 32, rfl, by decide, iwX6, gt_at 598 (by decide +kernel) rfl⟩
theorem fpX6_104 : FP RX6 104 6 19 .int false := ⟨RX6, TX6, 32, tyX6, rfl, by decide, iwX6, gt_at 598 (by decide +kernel) rfl, tyX6_ok, nmX6, rfl, by decide +kernel, fun h => by first | rfl | cases h⟩
theorem flX6_107 : FL RX6 107 6 20 := ⟨RX6, TX6, 32, rfl, by decide, iwX6, gt_at 599 (by decide +kernel) rfl⟩
theorem fpX6_107 : FP RX6 107 6 20 .int false := ⟨RX6, TX6, 32, tyX6, rfl, by decide, iwX6, gt_at 599 (by decide +kernel) rfl, tyX6_ok, nmX6, rfl, by decide +kernel, fun h => by first | rfl | cases h⟩
theorem flX6_110 : FL RX6 110 6 21 := ⟨RX6, TX6, 32, rfl, by decide, iwX6, gt_at 600 (by decide +kernel) rfl⟩
theorem fpX6_110 : FP RX6 110 6 21 .int false := ⟨RX6, TX6, 32, tyX6, rfl, by decide, iwX6, gt_at 600 (by decide +kernel) rfl, tyX6_ok, nmX6, rfl, by decide +kernel, fun h => by first | rfl | cases h⟩
theorem flX6_140 : FL RX6 140 6 23 := ⟨RX6, TX6, 32, rfl, by decide, iwX6, gt_at 602 (by decide +kernel) rfl⟩
theorem fpX6_140 : FP RX6 140 6 23 .int false := ⟨RX6, TX6, 32, tyX6, rfl, by decide, iwX6, gt_at 602 (by decide +kernel) rfl, tyX6_ok, nmX6, rfl, by decide +kernel, fun h => by first | rfl | cases h⟩
theorem flX6_146 : FL RX6 146 6 22 := ⟨RX6, TX6, 32, rfl, by decide, iwX6, gt_at 601 (by decide +kernel) rfl⟩
theorem fpX6_146 : FP RX6 146 6 22 .int false := ⟨RX6, TX6, 32, tyX6, rfl, by decide, iwX6, gt_at 601 (by decide +kernel) rfl, tyX6_ok, nmX6, rfl, by decide +kernel, fun h => by first | rfl | cases h⟩
theorem flX6_174 : FL RX6 174 6 5 := ⟨RX6, TX6, 32, rfl, by decide, iwX6, gt_at 584 (by decide +kernel) rfl⟩
theorem fpX6_174 : FP RX6 174 6 5 .int false := ⟨RX6, TX6, 32, tyX6, rfl, by decide, iwX6, gt_at 584 (by decide +kernel) rfl, tyX6_ok, nmX6, rfl, by decide +kernel, fun h => by first | rfl | cases h⟩
theorem flX6_177 : FL RX6 177 6 25 := ⟨RX6, TX6, 32, rfl, by decide, iwX6, gt_at 604 (by decide +kernel) rfl⟩
theorem fpX6_177 : FP RX6 177 6 25 .int false := ⟨RX6, TX6, 32, tyX6, rfl, by decide, iwX6, gt_at 604 (by decide +kernel) rfl, tyX6_ok, nmX6, rfl, by decide +kernel, fun h => by first | rfl | cases h⟩
theorem flX6_180 : FL RX6 180 6 26 := ⟨RX6, TX6, 32, rfl, by decide, iwX6, gt_at 605 (by decide +kernel) rfl⟩
theorem fpX6_180 : FP RX6 180 6 26 .int false := ⟨RX6, TX6, 32, tyX6, rfl, by decide, iwX6, gt_at 605 (by decide +kernel) rfl, tyX6_ok, nmX6, rfl, by decide +kernel, fun h => by first | rfl | cases h⟩
theorem flX6_183 : FL RX6 183 6 27 := ⟨RX6, TX6, 32, rfl, by decide, iwX6, gt_at 606 (by decide +kernel) rfl⟩
theorem fpX6_183 : FP RX6 183 6 27 .int false := ⟨RX6, TX6, 32, tyX6, rfl, by decide, iwX6, gt_at 606 (by decide +kernel) rfl, tyX6_ok, nmX6, rfl, by decide +kernel, fun h => by first | rfl | cases h⟩
theorem lkX5_3 : LK RX5 3 objectInit := gt_at 17 (by decide +kernel) rfl
theorem lkX5_51 : LK RX5 51 yX5_within := gt_at 173 (by decide +kernel) rfl
theorem lkX5_55 : LK RX5 55 yX0_settle := gt_at 176 (by decide +kernel) rfl
theorem lkX5_59 : LK RX5 59 yX0_count := gt_at 180 (by decide +kernel) rfl
theorem lkX5_63 : LK RX5 63 yX0_has := gt_at 194 (by decide +kernel) rfl
theorem lkX5_67 : LK RX5 67 yX0_leave := gt_at 198 (by decide +kernel) rfl
theorem lkX5_75 : LK RX5 75 yX1_write := gt_at 210 (by decide +kernel) rfl
theorem lkX5_81 : LK RX5 81 yX1_faultPlace := gt_at 222 (by decide +kernel) rfl
theorem lkX5_84 : LK RX5 84 yX5_draftNights := gt_at 240 (by decide +kernel) rfl
theorem lkX5_94 : LK RX5 94 yX0_become := gt_at 244 (by decide +kernel) rfl
theorem lkX5_98 : LK RX5 98 yX0_tell := gt_at 309 (by decide +kernel) rfl
theorem lkX5_102 : LK RX5 102 yX0_bareTrees := gt_at 321 (by decide +kernel) rfl
theorem lkX5_108 : LK RX5 108 yX0_robbedTrees := gt_at 325 (by decide +kernel) rfl
theorem lkX5_111 : LK RX5 111 yX0_greatestHeap := gt_at 329 (by decide +kernel) rfl
theorem lkX5_114 : LK RX5 114 yX0_canRobNow := gt_at 337 (by decide +kernel) rfl
theorem lkX5_118 : LK RX5 118 yX0_mayRobOf := gt_at 345 (by decide +kernel) rfl
theorem lkX5_121 : LK RX5 121 yX0_wantedTogether := gt_at 361 (by decide +kernel) rfl
theorem lkX5_124 : LK RX5 124 yX5_mostThefts := gt_at 372 (by decide +kernel) rfl
theorem lkX5_128 : LK RX5 128 yX2_longestRound := gt_at 390 (by decide +kernel) rfl
theorem lkX5_132 : LK RX5 132 yX0_hasTwo := gt_at 420 (by decide +kernel) rfl
theorem lkX5_136 : LK RX5 136 yX2_longestChain := gt_at 421 (by decide +kernel) rfl
theorem lkX5_143 : LK RX5 143 yX0_load := gt_at 429 (by decide +kernel) rfl
theorem lkX5_149 : LK RX5 149 yJ9_min_7cf53 := gt_at 381 (by decide +kernel) rfl
theorem lkX5_154 : LK RX5 154 yX0_addSight := gt_at 434 (by decide +kernel) rfl
theorem lkX5_160 : LK RX5 160 yX3_countWithout := gt_at 446 (by decide +kernel) rfl
theorem lkX5_164 : LK RX5 164 yX3_total := gt_at 469 (by decide +kernel) rfl
theorem lkX5_167 : LK RX5 167 yX3_outInSome := gt_at 477 (by decide +kernel) rfl
theorem lkX5_170 : LK RX5 170 yX3_outInAll := gt_at 481 (by decide +kernel) rfl
theorem lkX5_173 : LK RX5 173 yX0_hasSightOf := gt_at 490 (by decide +kernel) rfl
theorem lkX5_176 : LK RX5 176 yX3_mostLeftBy := gt_at 494 (by decide +kernel) rfl
theorem lkX5_180 : LK RX5 180 yX4_play := gt_at 505 (by decide +kernel) rfl
theorem lkX5_194 : LK RX5 194 yX0_robBar := gt_at 522 (by decide +kernel) rfl
theorem lkX5_202 : LK RX5 202 yJ9_max_7cf53 := gt_at 524 (by decide +kernel) rfl
theorem lkX5_205 : LK RX5 205 yX5_sharedWithTenths := gt_at 525 (by decide +kernel) rfl
theorem lkX5_208 : LK RX5 208 yX0_smallerHeaps := gt_at 532 (by decide +kernel) rfl
theorem lkX5_211 : LK RX5 211 yX0_runYear := gt_at 540 (by decide +kernel) rfl
theorem lkX5_214 : LK RX5 214 yX0_heapsTogether := gt_at 549 (by decide +kernel) rfl
theorem lkX5_217 : LK RX5 217 yX0_applesTogether := gt_at 553 (by decide +kernel) rfl
theorem lkX5_226 : LK RX5 226 yX5_toldBag := gt_at 569 (by decide +kernel) rfl
theorem lkX5_229 : LK RX5 229 yX1_runOn := gt_at 251 (by decide +kernel) rfl
theorem lkX5_233 : LK RX5 233 yJ6_bitCount_0f7a4 := gt_at 375 (by decide +kernel) rfl
theorem lkX5_238 : LK RX5 238 yX0_thievesOf := gt_at 376 (by decide +kernel) rfl
theorem lkX5_241 : LK RX5 241 yX0_wanted := gt_at 380 (by decide +kernel) rfl
theorem lkX0_3 : LK RX0 3 objectInit := gt_at 25 (by decide +kernel) rfl
theorem lkX0_58 : LK RX0 58 yX0_has := gt_at 267 (by decide +kernel) rfl
theorem lkX0_62 : LK RX0 62 yJ6_bitCount_0f7a4 := gt_at 184 (by decide +kernel) rfl
theorem lkX0_68 : LK RX0 68 yX0_holds := gt_at 268 (by decide +kernel) rfl
theorem lkX0_72 : LK RX0 72 yJ9_min_7cf53 := gt_at 287 (by decide +kernel) rfl
theorem lkX0_78 : LK RX0 78 yX0_isGuarded := gt_at 271 (by decide +kernel) rfl
theorem lkX0_81 : LK RX0 81 yX0_hasTwo := gt_at 353 (by decide +kernel) rfl
theorem lkX0_84 : LK RX0 84 yX0_robBar := gt_at 263 (by decide +kernel) rfl
theorem lkX0_87 : LK RX0 87 yX0_mayRob := gt_at 349 (by decide +kernel) rfl
theorem lkX0_90 : LK RX0 90 yX0_catchBar := gt_at 275 (by decide +kernel) rfl
theorem lkX0_93 : LK RX0 93 yX0_actBar := gt_at 259 (by decide +kernel) rfl
theorem lkX0_97 : LK RX0 97 yX0_rob := gt_at 279 (by decide +kernel) rfl
theorem lkX0_101 : LK RX0 101 yX0_giveBack := gt_at 290 (by decide +kernel) rfl
theorem lkX0_104 : LK RX0 104 yX0_endYear := gt_at 294 (by decide +kernel) rfl
theorem lkX0_107 : LK RX0 107 yX0_load := gt_at 283 (by decide +kernel) rfl
theorem lkX0_110 : LK RX0 110 yJ7_fill_53178 := gt_at 298 (by decide +kernel) rfl
theorem lkX0_117 : LK RX0 117 yX0_drawnKind := gt_at 545 (by decide +kernel) rfl
theorem lkX0_120 : LK RX0 120 yX0_tryAct := gt_at 548 (by decide +kernel) rfl
theorem lkX0_123 : LK RX0 123 yJ9_max_7cf53 := gt_at 369 (by decide +kernel) rfl
theorem lkX0_126 : LK RX0 126 yX0_wanted := gt_at 365 (by decide +kernel) rfl
theorem lkX1_3 : LK RX1 3 objectInit := gt_at 83 (by decide +kernel) rfl
theorem lkX1_25 : LK RX1 25 yX1_endsAct := gt_at 226 (by decide +kernel) rfl
theorem lkX1_29 : LK RX1 29 yX1_isLetter := gt_at 229 (by decide +kernel) rfl
theorem lkX1_32 : LK RX1 32 yX1_standsAlone := gt_at 233 (by decide +kernel) rfl
theorem lkX1_35 : LK RX1 35 yX0_tryAct := gt_at 255 (by decide +kernel) rfl
theorem lkX2_3 : LK RX2 3 objectInit := gt_at 105 (by decide +kernel) rfl
theorem lkX2_18 : LK RX2 18 yX2_readNext := gt_at 394 (by decide +kernel) rfl
theorem lkX2_22 : LK RX2 22 yX2_followFrom := gt_at 399 (by decide +kernel) rfl
theorem lkX2_26 : LK RX2 26 yX2_longestEnding := gt_at 410 (by decide +kernel) rfl
theorem lkX2_30 : LK RX2 30 yX0_thievesOf := gt_at 409 (by decide +kernel) rfl
theorem lkX2_35 : LK RX2 35 yJ9_max_7cf53 := gt_at 415 (by decide +kernel) rfl
theorem lkX2_41 : LK RX2 41 yX0_mayRobOf := gt_at 398 (by decide +kernel) rfl
theorem lkX2_44 : LK RX2 44 yJ7_fill_53178 := gt_at 403 (by decide +kernel) rfl
theorem lkX2_50 : LK RX2 50 yX2_leadsTo := gt_at 404 (by decide +kernel) rfl
theorem lkX2_54 : LK RX2 54 yX0_holds := gt_at 408 (by decide +kernel) rfl
theorem lkX2_57 : LK RX2 57 yJ6_bitCount_0f7a4 := gt_at 414 (by decide +kernel) rfl
theorem lkX3_3 : LK RX3 3 objectInit := gt_at 118 (by decide +kernel) rfl
theorem lkX3_21 : LK RX3 21 yJ7_fill_53178 := gt_at 450 (by decide +kernel) rfl
theorem lkX3_27 : LK RX3 27 yX3_fillLeft := gt_at 451 (by decide +kernel) rfl
theorem lkX3_31 : LK RX3 31 yX3_keepFitting := gt_at 457 (by decide +kernel) rfl
theorem lkX3_34 : LK RX3 34 yX3_spread := gt_at 465 (by decide +kernel) rfl
theorem lkX3_42 : LK RX3 42 yX0_robBar := gt_at 455 (by decide +kernel) rfl
theorem lkX3_49 : LK RX3 49 yJ9_min_7cf53 := gt_at 456 (by decide +kernel) rfl
theorem lkX3_54 : LK RX3 54 yX0_fitsSights := gt_at 461 (by decide +kernel) rfl
theorem lkX3_58 : LK RX3 58 yX3_waysWithin := gt_at 473 (by decide +kernel) rfl
theorem lkX3_62 : LK RX3 62 yX3_total := gt_at 485 (by decide +kernel) rfl
theorem lkX3_66 : LK RX3 66 yX3_countWithout := gt_at 498 (by decide +kernel) rfl
theorem lkX3_73 : LK RX3 73 yJ9_max_7cf53 := gt_at 500 (by decide +kernel) rfl
theorem lkX4_3 : LK RX4 3 objectInit := gt_at 134 (by decide +kernel) rfl
theorem lkX4_22 : LK RX4 22 yJ6_bitCount_0f7a4 := gt_at 509 (by decide +kernel) rfl
theorem lkX4_28 : LK RX4 28 yX4_takeBest := gt_at 510 (by decide +kernel) rfl
theorem lkX4_32 : LK RX4 32 yX0_holds := gt_at 514 (by decide +kernel) rfl
theorem lkX4_38 : LK RX4 38 yX0_load := gt_at 515 (by decide +kernel) rfl
theorem lkL_9 : LK RL 9 yX5_init := gt_at 14 (by decide +kernel) rfl
theorem lkL_12 : LK RL 12 yX6_init := gt_at 575 (by decide +kernel) rfl
theorem lkL_13 : LK RL 13 yX5_neighbour := gt_at 169 (by decide +kernel) rfl
theorem lkL_17 : LK RL 17 yX6_neighbour := gt_at 677 (by decide +kernel) rfl
theorem lkL_18 : LK RL 18 yX5_move := gt_at 190 (by decide +kernel) rfl
theorem lkL_22 : LK RL 22 yX6_move := gt_at 690 (by decide +kernel) rfl
theorem lkL_23 : LK RL 23 yX5_frost := gt_at 202 (by decide +kernel) rfl
theorem lkL_26 : LK RL 26 yX6_frost := gt_at 698 (by decide +kernel) rfl
theorem lkL_27 : LK RL 27 yX5_say := gt_at 206 (by decide +kernel) rfl
theorem lkL_30 : LK RL 30 yX6_say := gt_at 702 (by decide +kernel) rfl
theorem lkL_31 : LK RL 31 yX5_wipe := gt_at 214 (by decide +kernel) rfl
theorem lkL_35 : LK RL 35 yX6_wipe := gt_at 706 (by decide +kernel) rfl
theorem lkL_36 : LK RL 36 yX5_fault := gt_at 218 (by decide +kernel) rfl
theorem lkL_39 : LK RL 39 yX6_fault := gt_at 710 (by decide +kernel) rfl
theorem lkL_40 : LK RL 40 yX5_judge := gt_at 236 (by decide +kernel) rfl
theorem lkL_43 : LK RL 43 yX6_judge := gt_at 721 (by decide +kernel) rfl
theorem lkL_44 : LK RL 44 yX5_done := gt_at 301 (by decide +kernel) rfl
theorem lkL_47 : LK RL 47 yX6_done := gt_at 769 (by decide +kernel) rfl
theorem lkL_48 : LK RL 48 yX5_state := gt_at 305 (by decide +kernel) rfl
theorem lkL_52 : LK RL 52 yX6_state := gt_at 777 (by decide +kernel) rfl
theorem lkL_53 : LK RL 53 yX5_behind := gt_at 313 (by decide +kernel) rfl
theorem lkL_56 : LK RL 56 yX6_behind := gt_at 785 (by decide +kernel) rfl
theorem lkL_57 : LK RL 57 yX5_trees := gt_at 317 (by decide +kernel) rfl
theorem lkL_60 : LK RL 60 yX6_trees := gt_at 789 (by decide +kernel) rfl
theorem lkL_61 : LK RL 61 yX5_may := gt_at 333 (by decide +kernel) rfl
theorem lkL_64 : LK RL 64 yX6_may := gt_at 793 (by decide +kernel) rfl
theorem lkL_65 : LK RL 65 yX5_safe := gt_at 341 (by decide +kernel) rfl
theorem lkL_68 : LK RL 68 yX6_safe := gt_at 797 (by decide +kernel) rfl
theorem lkL_69 : LK RL 69 yX5_stripped := gt_at 357 (by decide +kernel) rfl
theorem lkL_72 : LK RL 72 yX6_stripped := gt_at 805 (by decide +kernel) rfl
theorem lkL_73 : LK RL 73 yX5_thefts := gt_at 382 (by decide +kernel) rfl
theorem lkL_76 : LK RL 76 yX6_thefts := gt_at 818 (by decide +kernel) rfl
theorem lkL_77 : LK RL 77 yX5_round := gt_at 386 (by decide +kernel) rfl
theorem lkL_80 : LK RL 80 yX6_round := gt_at 822 (by decide +kernel) rfl
theorem lkL_81 : LK RL 81 yX5_chain := gt_at 416 (by decide +kernel) rfl
theorem lkL_84 : LK RL 84 yX6_chain := gt_at 830 (by decide +kernel) rfl
theorem lkL_85 : LK RL 85 yX5_exchange := gt_at 425 (by decide +kernel) rfl
theorem lkL_88 : LK RL 88 yX6_exchange := gt_at 834 (by decide +kernel) rfl
theorem lkL_89 : LK RL 89 yX5_seen := gt_at 430 (by decide +kernel) rfl
theorem lkL_92 : LK RL 92 yX6_seen := gt_at 838 (by decide +kernel) rfl
theorem lkL_93 : LK RL 93 yX5_forget := gt_at 438 (by decide +kernel) rfl
theorem lkL_96 : LK RL 96 yX6_forget := gt_at 842 (by decide +kernel) rfl
theorem lkL_97 : LK RL 97 yX5_boots := gt_at 442 (by decide +kernel) rfl
theorem lkL_100 : LK RL 100 yX6_boots := gt_at 846 (by decide +kernel) rfl
theorem lkL_101 : LK RL 101 yX5_look := gt_at 486 (by decide +kernel) rfl
theorem lkL_104 : LK RL 104 yX6_look := gt_at 859 (by decide +kernel) rfl
theorem lkL_105 : LK RL 105 yX5_duel := gt_at 501 (by decide +kernel) rfl
theorem lkL_109 : LK RL 109 yX6_duel := gt_at 863 (by decide +kernel) rfl
theorem lkL_110 : LK RL 110 yX5_caught := gt_at 516 (by decide +kernel) rfl
theorem lkL_114 : LK RL 114 yX6_caught := gt_at 872 (by decide +kernel) rfl
theorem lkL_115 : LK RL 115 yX5_moons := gt_at 528 (by decide +kernel) rfl
theorem lkL_118 : LK RL 118 yX6_moons := gt_at 880 (by decide +kernel) rfl
theorem lkL_119 : LK RL 119 yX5_year := gt_at 536 (by decide +kernel) rfl
theorem lkL_122 : LK RL 122 yX6_year := gt_at 884 (by decide +kernel) rfl
theorem lkL_123 : LK RL 123 yX5_image := gt_at 557 (by decide +kernel) rfl
theorem lkL_126 : LK RL 126 yX6_image := gt_at 889 (by decide +kernel) rfl
theorem lkL_127 : LK RL 127 yX5_restore := gt_at 561 (by decide +kernel) rfl
theorem lkL_130 : LK RL 130 yX6_restore := gt_at 893 (by decide +kernel) rfl
theorem lkL_131 : LK RL 131 yX5_told := gt_at 565 (by decide +kernel) rfl
theorem lkL_134 : LK RL 134 yX6_told := gt_at 897 (by decide +kernel) rfl
theorem lkX6_1 : LK RX6 1 objectInit := gt_at 578 (by decide +kernel) rfl
theorem lkX6_66 : LK RX6 66 yX6_in := gt_at 681 (by decide +kernel) rfl
theorem lkX6_70 : LK RX6 70 yX6_has := gt_at 684 (by decide +kernel) rfl
theorem lkX6_74 : LK RX6 74 yX6_bits := gt_at 687 (by decide +kernel) rfl
theorem lkX6_78 : LK RX6 78 yX6_isThere := gt_at 694 (by decide +kernel) rfl
theorem lkX6_94 : LK RX6 94 yX6_isLetter := gt_at 718 (by decide +kernel) rfl
theorem lkX6_97 : LK RX6 97 yX6_faultOf := gt_at 714 (by decide +kernel) rfl
theorem lkX6_113 : LK RX6 113 yX6_bar := gt_at 749 (by decide +kernel) rfl
theorem lkX6_117 : LK RX6 117 yX6_takes := gt_at 757 (by decide +kernel) rfl
theorem lkX6_120 : LK RX6 120 yX6_whyNot := gt_at 745 (by decide +kernel) rfl
theorem lkX6_123 : LK RX6 123 yX6_rob := gt_at 753 (by decide +kernel) rfl
theorem lkX6_127 : LK RX6 127 yX6_whyNotCaught := gt_at 761 (by decide +kernel) rfl
theorem lkX6_130 : LK RX6 130 yX6_caughtNow := gt_at 765 (by decide +kernel) rfl
theorem lkX6_134 : LK RX6 134 yX6_nobodyOut := gt_at 737 (by decide +kernel) rfl
theorem lkX6_137 : LK RX6 137 yX6_asNow := gt_at 729 (by decide +kernel) rfl
theorem lkX6_143 : LK RX6 143 yX6_endNight := gt_at 733 (by decide +kernel) rfl
theorem lkX6_149 : LK RX6 149 yX6_act := gt_at 741 (by decide +kernel) rfl
theorem lkX6_152 : LK RX6 152 yX6_goNights := gt_at 725 (by decide +kernel) rfl
theorem lkX6_155 : LK RX6 155 yX6_barOfNights := gt_at 773 (by decide +kernel) rfl
theorem lkX6_158 : LK RX6 158 yX6_stateNow := gt_at 781 (by decide +kernel) rfl
theorem lkX6_161 : LK RX6 161 yX6_mayRob := gt_at 801 (by decide +kernel) rfl
theorem lkX6_165 : LK RX6 165 yX6_wanted := gt_at 809 (by decide +kernel) rfl
theorem lkX6_168 : LK RX6 168 yX6_mostThefts := gt_at 813 (by decide +kernel) rfl
theorem lkX6_171 : LK RX6 171 yX6_layChains := gt_at 826 (by decide +kernel) rfl
theorem lkX6_187 : LK RX6 187 yX6_tryBoots := gt_at 855 (by decide +kernel) rfl
theorem lkX6_190 : LK RX6 190 yX6_layBoots := gt_at 850 (by decide +kernel) rfl
theorem lkX6_194 : LK RX6 194 yX6_worth := gt_at 868 (by decide +kernel) rfl
theorem lkNX5_11 : (RX5, 11, yX0_init, "StolenApples") ∈ nestL := by decide +kernel
theorem lkNX5_25 : (RX5, 25, yX1_init, "StolenApples") ∈ nestL := by decide +kernel
theorem lkNX5_32 : (RX5, 32, yX2_init, "StolenApples") ∈ nestL := by decide +kernel
theorem lkNX5_39 : (RX5, 39, yX3_init, "StolenApples") ∈ nestL := by decide +kernel
theorem lkNX5_46 : (RX5, 46, yX4_init, "StolenApples") ∈ nestL := by decide +kernel
theorem lkNX1_41 : (RX1, 41, yX5_within, "StolenApples") ∈ nestL := by decide +kernel
theorem lkNX3_69 : (RX3, 69, yX5_within, "StolenApples") ∈ nestL := by decide +kernel
end
section
abbrev MX0_init : MI := (yX0_init, cX0_init, 1, none)
abbrev rmX0_init : Room := { frames := 1, cells := 7, slots := 46, locals := 20 }
def tabX0_init : List (Nat × TE) := [(0, .aload_n 0, 1, 0, 0), (1, .invokespecial 3, 3, 0, 0), (4, .aload_n 0, 1, 0, 0), (5, .bipush 6, 2, 6, 0), (7, .newarray .int, 2, 0, 0), (9, .putfield 9, 3, 0, 0), (12, .aload_n 0, 1, 0, 0), (13, .bipush 6, 2, 6, 0), (15, .newarray .int, 2, 0, 0), (17, .putfield 15, 3, 0, 0), (20, .aload_n 0, 1, 0, 0), (21, .bipush 6, 2, 6, 0), (23, .newarray .int, 2, 0, 0), (25, .putfield 18, 3, 0, 0), (28, .aload_n 0, 1, 0, 0), (29, .bipush 6, 2, 6, 0), (31, .newarray .int, 2, 0, 0), (33, .putfield 21, 3, 0, 0), (36, .aload_n 0, 1, 0, 0), (37, .bipush 6, 2, 6, 0), (39, .newarray .int, 2, 0, 0), (41, .putfield 24, 3, 0, 0), (44, .aload_n 0, 1, 0, 0), (45, .bipush 8, 2, 8, 0), (47, .newarray .int, 2, 0, 0), (49, .putfield 27, 3, 0, 0), (52, .aload_n 0, 1, 0, 0), (53, .bipush 8, 2, 8, 0), (55, .newarray .int, 2, 0, 0), (57, .putfield 30, 3, 0, 0), (60, .aload_n 0, 1, 0, 0), (61, .iconst 0, 1, 0, 0), (62, .putfield 33, 3, 0, 0), (65, .aload_n 0, 1, 0, 0), (66, .iconst 0, 1, 0, 0), (67, .putfield 37, 3, 0, 0), (70, .aload_n 0, 1, 0, 0), (71, .iconst 0, 1, 0, 0), (72, .putfield 40, 3, 0, 0), (75, .aload_n 0, 1, 0, 0), (76, .iconst 0, 1, 0, 0), (77, .putfield 43, 3, 0, 0), (80, .aload_n 0, 1, 0, 0), (81, .iconst 0, 1, 0, 0), (82, .putfield 46, 3, 0, 0), (85, .aload_n 0, 1, 0, 0), (86, .bipush 10, 2, 10, 0), (88, .putfield 49, 3, 0, 0), (91, .return_, 1, 0, 0)]
theorem tTX0_init : tOK RX0 cX0_init tabX0_init = true := by decide +kernel
theorem hMX0_init : MIn MX0_init 0 := ⟨gt_at 23 (by decide +kernel) rfl, gt_at 2 (by decide +kernel) rfl, gt_at 24 (by decide +kernel) rfl, rfl, rfl, by decide +kernel, by decide +kernel, by decide +kernel⟩
abbrev MX0_become : MI := (yX0_become, cX0_become, 2, none)
abbrev rmX0_become : Room := { frames := 1, cells := 0, slots := 0, locals := 40 }
def tabX0_become : List (Nat × TE) := [(0, .aload_n 1, 1, 0, 0), (1, .getfield 9, 3, 0, 0), (4, .iconst 0, 1, 0, 0), (5, .aload_n 0, 1, 0, 0), (6, .getfield 9, 3, 0, 0), (9, .iconst 0, 1, 0, 0), (10, .bipush 6, 2, 6, 0), (12, .invokestatic 52, 3, 0, 0), (15, .aload_n 1, 1, 0, 0), (16, .getfield 15, 3, 0, 0), (19, .iconst 0, 1, 0, 0), (20, .aload_n 0, 1, 0, 0), (21, .getfield 15, 3, 0, 0), (24, .iconst 0, 1, 0, 0), (25, .bipush 6, 2, 6, 0), (27, .invokestatic 52, 3, 0, 0), (30, .aload_n 1, 1, 0, 0), (31, .getfield 18, 3, 0, 0), (34, .iconst 0, 1, 0, 0), (35, .aload_n 0, 1, 0, 0), (36, .getfield 18, 3, 0, 0), (39, .iconst 0, 1, 0, 0), (40, .bipush 6, 2, 6, 0), (42, .invokestatic 52, 3, 0, 0), (45, .aload_n 1, 1, 0, 0), (46, .getfield 21, 3, 0, 0), (49, .iconst 0, 1, 0, 0), (50, .aload_n 0, 1, 0, 0), (51, .getfield 21, 3, 0, 0), (54, .iconst 0, 1, 0, 0), (55, .bipush 6, 2, 6, 0), (57, .invokestatic 52, 3, 0, 0), (60, .aload_n 1, 1, 0, 0), (61, .getfield 24, 3, 0, 0), (64, .iconst 0, 1, 0, 0), (65, .aload_n 0, 1, 0, 0), (66, .getfield 24, 3, 0, 0), (69, .iconst 0, 1, 0, 0), (70, .bipush 6, 2, 6, 0), (72, .invokestatic 52, 3, 0, 0), (75, .aload_n 1, 1, 0, 0), (76, .getfield 27, 3, 0, 0), (79, .iconst 0, 1, 0, 0), (80, .aload_n 0, 1, 0, 0), (81, .getfield 27, 3, 0, 0), (84, .iconst 0, 1, 0, 0), (85, .bipush 8, 2, 8, 0), (87, .invokestatic 52, 3, 0, 0), (90, .aload_n 1, 1, 0, 0), (91, .getfield 30, 3, 0, 0), (94, .iconst 0, 1, 0, 0), (95, .aload_n 0, 1, 0, 0), (96, .getfield 30, 3, 0, 0), (99, .iconst 0, 1, 0, 0), (100, .bipush 8, 2, 8, 0), (102, .invokestatic 52, 3, 0, 0), (105, .aload_n 0, 1, 0, 0), (106, .aload_n 1, 1, 0, 0), (107, .getfield 33, 3, 0, 0), (110, .putfield 33, 3, 0, 0), (113, .aload_n 0, 1, 0, 0), (114, .aload_n 1, 1, 0, 0), (115, .getfield 37, 3, 0, 0), (118, .putfield 37, 3, 0, 0), (121, .aload_n 0, 1, 0, 0), (122, .aload_n 1, 1, 0, 0), (123, .getfield 40, 3, 0, 0), (126, .putfield 40, 3, 0, 0), (129, .aload_n 0, 1, 0, 0), (130, .aload_n 1, 1, 0, 0), (131, .getfield 43, 3, 0, 0), (134, .putfield 43, 3, 0, 0), (137, .aload_n 0, 1, 0, 0), (138, .aload_n 1, 1, 0, 0), (139, .getfield 46, 3, 0, 0), (142, .putfield 46, 3, 0, 0), (145, .aload_n 0, 1, 0, 0), (146, .aload_n 1, 1, 0, 0), (147, .getfield 49, 3, 0, 0), (150, .putfield 49, 3, 0, 0), (153, .return_, 1, 0, 0)]
theorem tTX0_become : tOK RX0 cX0_become tabX0_become = true := by decide +kernel
theorem hMX0_become : MV MX0_become 1 := ⟨gt_at 245 (by decide +kernel) rfl, gt_at 246 (by decide +kernel) rfl, gt_at 2 (by decide +kernel) rfl, gt_at 247 (by decide +kernel) rfl, by decide +kernel, by decide +kernel, by decide +kernel⟩
abbrev MX0_has : MI := (yX0_has, cX0_has, 2, (some .boolean))
abbrev rmX0_has : Room := { frames := 0, cells := 0, slots := 0, locals := 0 }
def tabX0_has : List (Nat × TE) := [(0, .iload_n 1, 1, 0, 0), (1, .ifCond .lt 24, 3, 0, 0), (4, .iload_n 1, 1, 0, 0), (5, .bipush 6, 2, 6, 0), (7, .if_icmp .ge 18, 3, 0, 0), (10, .aload_n 0, 1, 0, 0), (11, .getfield 37, 3, 0, 0), (14, .iconst 1, 1, 1, 0), (15, .iload_n 1, 1, 0, 0), (16, .ishl, 1, 0, 0), (17, .iand, 1, 0, 0), (18, .ifCond .eq 7, 3, 0, 0), (21, .iconst 1, 1, 1, 0), (22, .goto 4, 3, 0, 0), (25, .iconst 0, 1, 0, 0), (26, .ireturn, 1, 0, 0)]
theorem tTX0_has : tOK RX0 cX0_has tabX0_has = true := by decide +kernel
theorem hMX0_has : MV MX0_has 1 := ⟨gt_at 195 (by decide +kernel) rfl, gt_at 196 (by decide +kernel) rfl, gt_at 2 (by decide +kernel) rfl, gt_at 197 (by decide +kernel) rfl, by decide +kernel, by decide +kernel, by decide +kernel⟩
abbrev MX0_hasTwo : MI := (yX0_hasTwo, cX0_hasTwo, 3, (some .boolean))
abbrev rmX0_hasTwo : Room := { frames := 1, cells := 0, slots := 0, locals := 21 }
def tabX0_hasTwo : List (Nat × TE) := [(0, .aload_n 0, 1, 0, 0), (1, .iload_n 1, 1, 0, 0), (2, .invokevirtual 58, 3, 0, 0), (5, .ifCond .eq 20, 3, 0, 0), (8, .aload_n 0, 1, 0, 0), (9, .iload_n 2, 1, 0, 0), (10, .invokevirtual 58, 3, 0, 0), (13, .ifCond .eq 12, 3, 0, 0), (16, .iload_n 1, 1, 0, 0), (17, .iload_n 2, 1, 0, 0), (18, .if_icmp .eq 7, 3, 0, 0), (21, .iconst 1, 1, 1, 0), (22, .goto 4, 3, 0, 0), (25, .iconst 0, 1, 0, 0), (26, .ireturn, 1, 0, 0)]
theorem tTX0_hasTwo : tOK RX0 cX0_hasTwo tabX0_hasTwo = true := by decide +kernel
theorem hMX0_hasTwo : MV MX0_hasTwo 2 := ⟨gt_at 354 (by decide +kernel) rfl, gt_at 355 (by decide +kernel) rfl, gt_at 2 (by decide +kernel) rfl, gt_at 356 (by decide +kernel) rfl, by decide +kernel, by decide +kernel, by decide +kernel⟩
abbrev MX0_count : MI := (yX0_count, cX0_count, 1, (some .int))
abbrev rmX0_count : Room := { frames := 1, cells := 0, slots := 0, locals := 20 }
def tabX0_count : List (Nat × TE) := [(0, .aload_n 0, 1, 0, 0), (1, .getfield 37, 3, 0, 0), (4, .invokestatic 62, 3, 0, 0), (7, .ireturn, 1, 0, 0)]
theorem tTX0_count : tOK RX0 cX0_count tabX0_count = true := by decide +kernel
theorem hMX0_count : MV MX0_count 0 := ⟨gt_at 181 (by decide +kernel) rfl, gt_at 182 (by decide +kernel) rfl, gt_at 2 (by decide +kernel) rfl, gt_at 183 (by decide +kernel) rfl, by decide +kernel, by decide +kernel, by decide +kernel⟩
abbrev MX0_settle : MI := (yX0_settle, cX0_settle, 4, none)
abbrev rmX0_settle : Room := { frames := 0, cells := 0, slots := 0, locals := 0 }
def tabX0_settle : List (Nat × TE) := [(0, .aload_n 0, 1, 0, 0), (1, .dup, 1, 0, 0), (2, .getfield 37, 3, 0, 0), (5, .iconst 1, 1, 1, 0), (6, .iload_n 1, 1, 0, 0), (7, .ishl, 1, 0, 0), (8, .ior, 1, 0, 0), (9, .putfield 37, 3, 0, 0), (12, .aload_n 0, 1, 0, 0), (13, .getfield 9, 3, 0, 0), (16, .iload_n 1, 1, 0, 0), (17, .iload_n 2, 1, 0, 0), (18, .iastore, 1, 0, 0), (19, .aload_n 0, 1, 0, 0), (20, .getfield 15, 3, 0, 0), (23, .iload_n 1, 1, 0, 0), (24, .iload_n 3, 1, 0, 0), (25, .iastore, 1, 0, 0), (26, .return_, 1, 0, 0)]
theorem tTX0_settle : tOK RX0 cX0_settle tabX0_settle = true := by decide +kernel
theorem hMX0_settle : MV MX0_settle 3 := ⟨gt_at 177 (by decide +kernel) rfl, gt_at 178 (by decide +kernel) rfl, gt_at 2 (by decide +kernel) rfl, gt_at 179 (by decide +kernel) rfl, by decide +kernel, by decide +kernel, by decide +kernel⟩
abbrev MX0_leave : MI := (yX0_leave, cX0_leave, 4, none)
abbrev rmX0_leave : Room := { frames := 0, cells := 0, slots := 0, locals := 0 }
def tabX0_leave : List (Nat × TE) := [(0, .iconst 1, 1, 1, 0), (1, .iload_n 1, 1, 0, 0), (2, .ishl, 1, 0, 0), (3, .iconst (-1), 1, (-1), 0), (4, .ixor, 1, 0, 0), (5, .istore_n 2, 1, 0, 0), (6, .aload_n 0, 1, 0, 0), (7, .dup, 1, 0, 0), (8, .getfield 37, 3, 0, 0), (11, .iload_n 2, 1, 0, 0), (12, .iand, 1, 0, 0), (13, .putfield 37, 3, 0, 0), (16, .aload_n 0, 1, 0, 0), (17, .dup, 1, 0, 0), (18, .getfield 40, 3, 0, 0), (21, .iload_n 2, 1, 0, 0), (22, .iand, 1, 0, 0), (23, .putfield 40, 3, 0, 0), (26, .aload_n 0, 1, 0, 0), (27, .dup, 1, 0, 0), (28, .getfield 43, 3, 0, 0), (31, .iload_n 2, 1, 0, 0), (32, .iand, 1, 0, 0), (33, .putfield 43, 3, 0, 0), (36, .aload_n 0, 1, 0, 0), (37, .dup, 1, 0, 0), (38, .getfield 46, 3, 0, 0), (41, .iload_n 2, 1, 0, 0), (42, .iand, 1, 0, 0), (43, .putfield 46, 3, 0, 0), (46, .aload_n 0, 1, 0, 0), (47, .getfield 9, 3, 0, 0), (50, .iload_n 1, 1, 0, 0), (51, .iconst 0, 1, 0, 0), (52, .iastore, 1, 0, 0), (53, .aload_n 0, 1, 0, 0), (54, .getfield 15, 3, 0, 0), (57, .iload_n 1, 1, 0, 0), (58, .iconst 0, 1, 0, 0), (59, .iastore, 1, 0, 0), (60, .aload_n 0, 1, 0, 0), (61, .getfield 18, 3, 0, 0), (64, .iload_n 1, 1, 0, 0), (65, .iconst 0, 1, 0, 0), (66, .iastore, 1, 0, 0), (67, .aload_n 0, 1, 0, 0), (68, .getfield 21, 3, 0, 0), (71, .iload_n 1, 1, 0, 0), (72, .iconst 0, 1, 0, 0), (73, .iastore, 1, 0, 0), (74, .iconst 0, 1, 0, 0), (75, .istore_n 3, 1, 0, 0), (76, .iload_n 3, 1, 0, 0), (77, .bipush 6, 2, 6, 0), (79, .if_icmp .ge 37, 3, 0, 0), (82, .aload_n 0, 1, 0, 0), (83, .getfield 21, 3, 0, 0), (86, .iload_n 3, 1, 0, 0), (87, .dup2, 1, 0, 0), (88, .iaload, 1, 0, 0), (89, .iload_n 2, 1, 0, 0), (90, .iand, 1, 0, 0), (91, .iastore, 1, 0, 0), (92, .aload_n 0, 1, 0, 0), (93, .getfield 24, 3, 0, 0), (96, .iload_n 3, 1, 0, 0), (97, .iaload, 1, 0, 0), (98, .iload_n 1, 1, 0, 0), (99, .if_icmp .ne 11, 3, 0, 0), (102, .aload_n 0, 1, 0, 0), (103, .getfield 24, 3, 0, 0), (106, .iload_n 3, 1, 0, 0), (107, .bipush (-6), 2, (-6), 0), (109, .iastore, 1, 0, 0), (110, .iinc 3 1, 3, 1, 0), (113, .goto (-37), 3, 0, 0), (116, .return_, 1, 0, 0)]
theorem tTX0_leave : tOK RX0 cX0_leave tabX0_leave = true := by decide +kernel
theorem hMX0_leave : MV MX0_leave 1 := ⟨gt_at 199 (by decide +kernel) rfl, gt_at 200 (by decide +kernel) rfl, gt_at 2 (by decide +kernel) rfl, gt_at 201 (by decide +kernel) rfl, by decide +kernel, by decide +kernel, by decide +kernel⟩
abbrev MX0_tell : MI := (yX0_tell, cX0_tell, 3, (some .int))
abbrev rmX0_tell : Room := { frames := 1, cells := 0, slots := 0, locals := 21 }
def tabX0_tell : List (Nat × TE) := [(0, .iload_n 2, 1, 0, 0), (1, .tableswitch 58 0 2 #[27, 34, 41], 27, 0, 0), (28, .aload_n 0, 1, 0, 0), (29, .getfield 9, 3, 0, 0), (32, .iload_n 1, 1, 0, 0), (33, .iaload, 1, 0, 0), (34, .ireturn, 1, 0, 0), (35, .aload_n 0, 1, 0, 0), (36, .getfield 18, 3, 0, 0), (39, .iload_n 1, 1, 0, 0), (40, .iaload, 1, 0, 0), (41, .ireturn, 1, 0, 0), (42, .aload_n 0, 1, 0, 0), (43, .getfield 40, 3, 0, 0), (46, .iload_n 1, 1, 0, 0), (47, .invokestatic 68, 3, 0, 0), (50, .ifCond .eq 7, 3, 0, 0), (53, .iconst 1, 1, 1, 0), (54, .goto 4, 3, 0, 0), (57, .iconst 0, 1, 0, 0), (58, .ireturn, 1, 0, 0), (59, .aload_n 0, 1, 0, 0), (60, .getfield 21, 3, 0, 0), (63, .iload_n 1, 1, 0, 0), (64, .iaload, 1, 0, 0), (65, .ireturn, 1, 0, 0)]
theorem tTX0_tell : tOK RX0 cX0_tell tabX0_tell = true := by decide +kernel
theorem hMX0_tell : MV MX0_tell 2 := ⟨gt_at 310 (by decide +kernel) rfl, gt_at 311 (by decide +kernel) rfl, gt_at 2 (by decide +kernel) rfl, gt_at 312 (by decide +kernel) rfl, by decide +kernel, by decide +kernel, by decide +kernel⟩
abbrev MX0_load : MI := (yX0_load, cX0_load, 3, (some .int))
abbrev rmX0_load : Room := { frames := 1, cells := 0, slots := 0, locals := 21 }
def tabX0_load : List (Nat × TE) := [(0, .aload_n 0, 1, 0, 0), (1, .getfield 15, 3, 0, 0), (4, .iload_n 1, 1, 0, 0), (5, .iaload, 1, 0, 0), (6, .aload_n 0, 1, 0, 0), (7, .getfield 9, 3, 0, 0), (10, .iload_n 2, 1, 0, 0), (11, .iaload, 1, 0, 0), (12, .invokestatic 72, 3, 0, 0), (15, .ireturn, 1, 0, 0)]
theorem tTX0_load : tOK RX0 cX0_load tabX0_load = true := by decide +kernel
theorem hMX0_load : MV MX0_load 2 := ⟨gt_at 284 (by decide +kernel) rfl, gt_at 285 (by decide +kernel) rfl, gt_at 2 (by decide +kernel) rfl, gt_at 286 (by decide +kernel) rfl, by decide +kernel, by decide +kernel, by decide +kernel⟩
abbrev MX0_robBar : MI := (yX0_robBar, cX0_robBar, 3, (some .int))
abbrev rmX0_robBar : Room := { frames := 1, cells := 0, slots := 0, locals := 21 }
def tabX0_robBar : List (Nat × TE) := [(0, .aload_n 0, 1, 0, 0), (1, .iload_n 1, 1, 0, 0), (2, .invokevirtual 58, 3, 0, 0), (5, .ifCond .eq 11, 3, 0, 0), (8, .aload_n 0, 1, 0, 0), (9, .iload_n 2, 1, 0, 0), (10, .invokevirtual 58, 3, 0, 0), (13, .ifCond .ne 5, 3, 0, 0), (16, .iconst 1, 1, 1, 0), (17, .ireturn, 1, 0, 0), (18, .iload_n 1, 1, 0, 0), (19, .iload_n 2, 1, 0, 0), (20, .if_icmp .ne 5, 3, 0, 0), (23, .iconst 2, 1, 2, 0), (24, .ireturn, 1, 0, 0), (25, .aload_n 0, 1, 0, 0), (26, .getfield 21, 3, 0, 0), (29, .iload_n 1, 1, 0, 0), (30, .iaload, 1, 0, 0), (31, .iload_n 2, 1, 0, 0), (32, .invokestatic 68, 3, 0, 0), (35, .ifCond .eq 5, 3, 0, 0), (38, .iconst 3, 1, 3, 0), (39, .ireturn, 1, 0, 0), (40, .aload_n 0, 1, 0, 0), (41, .getfield 40, 3, 0, 0), (44, .iload_n 1, 1, 0, 0), (45, .invokestatic 68, 3, 0, 0), (48, .ifCond .eq 5, 3, 0, 0), (51, .iconst 4, 1, 4, 0), (52, .ireturn, 1, 0, 0), (53, .aload_n 0, 1, 0, 0), (54, .iload_n 2, 1, 0, 0), (55, .invokevirtual 78, 3, 0, 0), (58, .ifCond .eq 5, 3, 0, 0), (61, .iconst 5, 1, 5, 0), (62, .ireturn, 1, 0, 0), (63, .aload_n 0, 1, 0, 0), (64, .getfield 9, 3, 0, 0), (67, .iload_n 2, 1, 0, 0), (68, .iaload, 1, 0, 0), (69, .ifCond .ne 6, 3, 0, 0), (72, .bipush 6, 2, 6, 0), (74, .ireturn, 1, 0, 0), (75, .aload_n 0, 1, 0, 0), (76, .getfield 49, 3, 0, 0), (79, .ifCond .ne 8, 3, 0, 0), (82, .bipush 7, 2, 7, 0), (84, .goto 4, 3, 0, 0), (87, .iconst 0, 1, 0, 0), (88, .ireturn, 1, 0, 0)]
theorem tTX0_robBar : tOK RX0 cX0_robBar tabX0_robBar = true := by decide +kernel
theorem hMX0_robBar : MV MX0_robBar 2 := ⟨gt_at 264 (by decide +kernel) rfl, gt_at 265 (by decide +kernel) rfl, gt_at 2 (by decide +kernel) rfl, gt_at 266 (by decide +kernel) rfl, by decide +kernel, by decide +kernel, by decide +kernel⟩
abbrev MX0_isGuarded : MI := (yX0_isGuarded, cX0_isGuarded, 2, (some .boolean))
abbrev rmX0_isGuarded : Room := { frames := 0, cells := 0, slots := 0, locals := 0 }
def tabX0_isGuarded : List (Nat × TE) := [(0, .aload_n 0, 1, 0, 0), (1, .getfield 43, 3, 0, 0), (4, .aload_n 0, 1, 0, 0), (5, .getfield 46, 3, 0, 0), (8, .iconst (-1), 1, (-1), 0), (9, .ixor, 1, 0, 0), (10, .iand, 1, 0, 0), (11, .iconst 1, 1, 1, 0), (12, .iload_n 1, 1, 0, 0), (13, .ishl, 1, 0, 0), (14, .iand, 1, 0, 0), (15, .ifCond .eq 7, 3, 0, 0), (18, .iconst 1, 1, 1, 0), (19, .goto 4, 3, 0, 0), (22, .iconst 0, 1, 0, 0), (23, .ireturn, 1, 0, 0)]
theorem tTX0_isGuarded : tOK RX0 cX0_isGuarded tabX0_isGuarded = true := by decide +kernel
theorem hMX0_isGuarded : MV MX0_isGuarded 1 := ⟨gt_at 272 (by decide +kernel) rfl, gt_at 273 (by decide +kernel) rfl, gt_at 2 (by decide +kernel) rfl, gt_at 274 (by decide +kernel) rfl, by decide +kernel, by decide +kernel, by decide +kernel⟩
abbrev MX0_mayRob : MI := (yX0_mayRob, cX0_mayRob, 3, (some .boolean))
abbrev rmX0_mayRob : Room := { frames := 2, cells := 0, slots := 0, locals := 43 }
def tabX0_mayRob : List (Nat × TE) := [(0, .aload_n 0, 1, 0, 0), (1, .iload_n 1, 1, 0, 0), (2, .iload_n 2, 1, 0, 0), (3, .invokevirtual 81, 3, 0, 0), (6, .ifCond .eq 37, 3, 0, 0), (9, .aload_n 0, 1, 0, 0), (10, .getfield 21, 3, 0, 0), (13, .iload_n 1, 1, 0, 0), (14, .iaload, 1, 0, 0), (15, .iload_n 2, 1, 0, 0), (16, .invokestatic 68, 3, 0, 0), (19, .ifCond .ne 24, 3, 0, 0), (22, .aload_n 0, 1, 0, 0), (23, .iload_n 2, 1, 0, 0), (24, .invokevirtual 78, 3, 0, 0), (27, .ifCond .ne 16, 3, 0, 0), (30, .aload_n 0, 1, 0, 0), (31, .getfield 9, 3, 0, 0), (34, .iload_n 2, 1, 0, 0), (35, .iaload, 1, 0, 0), (36, .ifCond .le 7, 3, 0, 0), (39, .iconst 1, 1, 1, 0), (40, .goto 4, 3, 0, 0), (43, .iconst 0, 1, 0, 0), (44, .ireturn, 1, 0, 0)]
theorem tTX0_mayRob : tOK RX0 cX0_mayRob tabX0_mayRob = true := by decide +kernel
theorem hMX0_mayRob : MV MX0_mayRob 2 := ⟨gt_at 350 (by decide +kernel) rfl, gt_at 351 (by decide +kernel) rfl, gt_at 2 (by decide +kernel) rfl, gt_at 352 (by decide +kernel) rfl, by decide +kernel, by decide +kernel, by decide +kernel⟩
abbrev MX0_canRobNow : MI := (yX0_canRobNow, cX0_canRobNow, 4, (some .int))
abbrev rmX0_canRobNow : Room := { frames := 2, cells := 0, slots := 0, locals := 43 }
def tabX0_canRobNow : List (Nat × TE) := [(0, .iconst 0, 1, 0, 0), (1, .istore_n 2, 1, 0, 0), (2, .iconst 0, 1, 0, 0), (3, .istore_n 3, 1, 0, 0), (4, .iload_n 3, 1, 0, 0), (5, .bipush 6, 2, 6, 0), (7, .if_icmp .ge 24, 3, 0, 0), (10, .aload_n 0, 1, 0, 0), (11, .iload_n 1, 1, 0, 0), (12, .iload_n 3, 1, 0, 0), (13, .invokevirtual 84, 3, 0, 0), (16, .ifCond .ne 9, 3, 0, 0), (19, .iload_n 2, 1, 0, 0), (20, .iconst 1, 1, 1, 0), (21, .iload_n 3, 1, 0, 0), (22, .ishl, 1, 0, 0), (23, .ior, 1, 0, 0), (24, .istore_n 2, 1, 0, 0), (25, .iinc 3 1, 3, 1, 0), (28, .goto (-24), 3, 0, 0), (31, .iload_n 2, 1, 0, 0), (32, .ireturn, 1, 0, 0)]
theorem tTX0_canRobNow : tOK RX0 cX0_canRobNow tabX0_canRobNow = true := by decide +kernel
theorem hMX0_canRobNow : MV MX0_canRobNow 1 := ⟨gt_at 338 (by decide +kernel) rfl, gt_at 339 (by decide +kernel) rfl, gt_at 2 (by decide +kernel) rfl, gt_at 340 (by decide +kernel) rfl, by decide +kernel, by decide +kernel, by decide +kernel⟩
abbrev MX0_mayRobOf : MI := (yX0_mayRobOf, cX0_mayRobOf, 4, (some .int))
abbrev rmX0_mayRobOf : Room := { frames := 3, cells := 0, slots := 0, locals := 65 }
def tabX0_mayRobOf : List (Nat × TE) := [(0, .iconst 0, 1, 0, 0), (1, .istore_n 2, 1, 0, 0), (2, .iconst 0, 1, 0, 0), (3, .istore_n 3, 1, 0, 0), (4, .iload_n 3, 1, 0, 0), (5, .bipush 6, 2, 6, 0), (7, .if_icmp .ge 24, 3, 0, 0), (10, .aload_n 0, 1, 0, 0), (11, .iload_n 1, 1, 0, 0), (12, .iload_n 3, 1, 0, 0), (13, .invokevirtual 87, 3, 0, 0), (16, .ifCond .eq 9, 3, 0, 0), (19, .iload_n 2, 1, 0, 0), (20, .iconst 1, 1, 1, 0), (21, .iload_n 3, 1, 0, 0), (22, .ishl, 1, 0, 0), (23, .ior, 1, 0, 0), (24, .istore_n 2, 1, 0, 0), (25, .iinc 3 1, 3, 1, 0), (28, .goto (-24), 3, 0, 0), (31, .iload_n 2, 1, 0, 0), (32, .ireturn, 1, 0, 0)]
theorem tTX0_mayRobOf : tOK RX0 cX0_mayRobOf tabX0_mayRobOf = true := by decide +kernel
theorem hMX0_mayRobOf : MV MX0_mayRobOf 1 := ⟨gt_at 346 (by decide +kernel) rfl, gt_at 347 (by decide +kernel) rfl, gt_at 2 (by decide +kernel) rfl, gt_at 348 (by decide +kernel) rfl, by decide +kernel, by decide +kernel, by decide +kernel⟩
abbrev MX0_thievesOf : MI := (yX0_thievesOf, cX0_thievesOf, 4, (some .int))
abbrev rmX0_thievesOf : Room := { frames := 3, cells := 0, slots := 0, locals := 65 }
def tabX0_thievesOf : List (Nat × TE) := [(0, .iconst 0, 1, 0, 0), (1, .istore_n 2, 1, 0, 0), (2, .iconst 0, 1, 0, 0), (3, .istore_n 3, 1, 0, 0), (4, .iload_n 3, 1, 0, 0), (5, .bipush 6, 2, 6, 0), (7, .if_icmp .ge 24, 3, 0, 0), (10, .aload_n 0, 1, 0, 0), (11, .iload_n 3, 1, 0, 0), (12, .iload_n 1, 1, 0, 0), (13, .invokevirtual 87, 3, 0, 0), (16, .ifCond .eq 9, 3, 0, 0), (19, .iload_n 2, 1, 0, 0), (20, .iconst 1, 1, 1, 0), (21, .iload_n 3, 1, 0, 0), (22, .ishl, 1, 0, 0), (23, .ior, 1, 0, 0), (24, .istore_n 2, 1, 0, 0), (25, .iinc 3 1, 3, 1, 0), (28, .goto (-24), 3, 0, 0), (31, .iload_n 2, 1, 0, 0), (32, .ireturn, 1, 0, 0)]
theorem tTX0_thievesOf : tOK RX0 cX0_thievesOf tabX0_thievesOf = true := by decide +kernel
theorem hMX0_thievesOf : MV MX0_thievesOf 1 := ⟨gt_at 377 (by decide +kernel) rfl, gt_at 378 (by decide +kernel) rfl, gt_at 2 (by decide +kernel) rfl, gt_at 379 (by decide +kernel) rfl, by decide +kernel, by decide +kernel, by decide +kernel⟩
abbrev MX0_catchBar : MI := (yX0_catchBar, cX0_catchBar, 2, (some .int))
abbrev rmX0_catchBar : Room := { frames := 1, cells := 0, slots := 0, locals := 21 }
def tabX0_catchBar : List (Nat × TE) := [(0, .aload_n 0, 1, 0, 0), (1, .iload_n 1, 1, 0, 0), (2, .invokevirtual 58, 3, 0, 0), (5, .ifCond .ne 5, 3, 0, 0), (8, .iconst 1, 1, 1, 0), (9, .ireturn, 1, 0, 0), (10, .aload_n 0, 1, 0, 0), (11, .getfield 40, 3, 0, 0), (14, .iload_n 1, 1, 0, 0), (15, .invokestatic 68, 3, 0, 0), (18, .ifCond .eq 20, 3, 0, 0), (21, .aload_n 0, 1, 0, 0), (22, .aload_n 0, 1, 0, 0), (23, .getfield 24, 3, 0, 0), (26, .iload_n 1, 1, 0, 0), (27, .iaload, 1, 0, 0), (28, .invokevirtual 58, 3, 0, 0), (31, .ifCond .eq 7, 3, 0, 0), (34, .iconst 0, 1, 0, 0), (35, .goto 5, 3, 0, 0), (38, .bipush 8, 2, 8, 0), (40, .ireturn, 1, 0, 0)]
theorem tTX0_catchBar : tOK RX0 cX0_catchBar tabX0_catchBar = true := by decide +kernel
theorem hMX0_catchBar : MV MX0_catchBar 1 := ⟨gt_at 276 (by decide +kernel) rfl, gt_at 277 (by decide +kernel) rfl, gt_at 2 (by decide +kernel) rfl, gt_at 278 (by decide +kernel) rfl, by decide +kernel, by decide +kernel, by decide +kernel⟩
abbrev MX0_actBar : MI := (yX0_actBar, cX0_actBar, 4, (some .int))
abbrev rmX0_actBar : Room := { frames := 2, cells := 0, slots := 0, locals := 43 }
def tabX0_actBar : List (Nat × TE) := [(0, .iload_n 1, 1, 0, 0), (1, .lookupswitch 72 #[(0, 43), (33, 50), (36, 70), (46, 56)], 43, 0, 0), (44, .aload_n 0, 1, 0, 0), (45, .iload_n 2, 1, 0, 0), (46, .iload_n 3, 1, 0, 0), (47, .invokevirtual 84, 3, 0, 0), (50, .ireturn, 1, 0, 0), (51, .aload_n 0, 1, 0, 0), (52, .iload_n 2, 1, 0, 0), (53, .invokevirtual 90, 3, 0, 0), (56, .ireturn, 1, 0, 0), (57, .aload_n 0, 1, 0, 0), (58, .getfield 49, 3, 0, 0), (61, .ifCond .ne 8, 3, 0, 0), (64, .bipush 7, 2, 7, 0), (66, .goto 4, 3, 0, 0), (69, .iconst 0, 1, 0, 0), (70, .ireturn, 1, 0, 0), (71, .iconst 0, 1, 0, 0), (72, .ireturn, 1, 0, 0), (73, .aload_n 0, 1, 0, 0), (74, .iload_n 2, 1, 0, 0), (75, .invokevirtual 58, 3, 0, 0), (78, .ifCond .eq 7, 3, 0, 0), (81, .iconst 0, 1, 0, 0), (82, .goto 4, 3, 0, 0), (85, .iconst 1, 1, 1, 0), (86, .ireturn, 1, 0, 0)]
theorem tTX0_actBar : tOK RX0 cX0_actBar tabX0_actBar = true := by decide +kernel
theorem hMX0_actBar : MV MX0_actBar 3 := ⟨gt_at 260 (by decide +kernel) rfl, gt_at 261 (by decide +kernel) rfl, gt_at 2 (by decide +kernel) rfl, gt_at 262 (by decide +kernel) rfl, by decide +kernel, by decide +kernel, by decide +kernel⟩
abbrev MX0_tryAct : MI := (yX0_tryAct, cX0_tryAct, 5, (some .int))
abbrev rmX0_tryAct : Room := { frames := 3, cells := 0, slots := 0, locals := 66 }
def tabX0_tryAct : List (Nat × TE) := [(0, .aload_n 0, 1, 0, 0), (1, .iload_n 1, 1, 0, 0), (2, .iload_n 2, 1, 0, 0), (3, .iload_n 3, 1, 0, 0), (4, .invokevirtual 93, 3, 0, 0), (7, .istore 4, 2, 0, 0), (9, .iload 4, 2, 0, 0), (11, .ifCond .eq 6, 3, 0, 0), (14, .iload 4, 2, 0, 0), (16, .ireturn, 1, 0, 0), (17, .iload_n 1, 1, 0, 0), (18, .lookupswitch 121 #[(0, 50), (33, 59), (42, 73), (46, 103), (126, 88)], 50, 0, 0), (68, .aload_n 0, 1, 0, 0), (69, .iload_n 2, 1, 0, 0), (70, .iload_n 3, 1, 0, 0), (71, .invokevirtual 97, 3, 0, 0), (74, .goto 69, 3, 0, 0), (77, .aload_n 0, 1, 0, 0), (78, .iload_n 2, 1, 0, 0), (79, .aload_n 0, 1, 0, 0), (80, .getfield 24, 3, 0, 0), (83, .iload_n 2, 1, 0, 0), (84, .iaload, 1, 0, 0), (85, .invokevirtual 101, 3, 0, 0), (88, .goto 55, 3, 0, 0), (91, .aload_n 0, 1, 0, 0), (92, .dup, 1, 0, 0), (93, .getfield 46, 3, 0, 0), (96, .iconst 1, 1, 1, 0), (97, .iload_n 2, 1, 0, 0), (98, .ishl, 1, 0, 0), (99, .ixor, 1, 0, 0), (100, .putfield 46, 3, 0, 0), (103, .goto 40, 3, 0, 0), (106, .aload_n 0, 1, 0, 0), (107, .dup, 1, 0, 0), (108, .getfield 43, 3, 0, 0), (111, .iconst 1, 1, 1, 0), (112, .iload_n 2, 1, 0, 0), (113, .ishl, 1, 0, 0), (114, .ixor, 1, 0, 0), (115, .putfield 43, 3, 0, 0), (118, .goto 25, 3, 0, 0), (121, .aload_n 0, 1, 0, 0), (122, .iconst 0, 1, 0, 0), (123, .putfield 40, 3, 0, 0), (126, .aload_n 0, 1, 0, 0), (127, .dup, 1, 0, 0), (128, .getfield 49, 3, 0, 0), (131, .iconst 1, 1, 1, 0), (132, .isub, 1, 0, 0), (133, .putfield 49, 3, 0, 0), (136, .goto 7, 3, 0, 0), (139, .aload_n 0, 1, 0, 0), (140, .invokevirtual 104, 3, 0, 0), (143, .iconst 0, 1, 0, 0), (144, .ireturn, 1, 0, 0)]
theorem tTX0_tryAct : tOK RX0 cX0_tryAct tabX0_tryAct = true := by decide +kernel
theorem hMX0_tryAct : MV MX0_tryAct 3 := ⟨gt_at 256 (by decide +kernel) rfl, gt_at 257 (by decide +kernel) rfl, gt_at 2 (by decide +kernel) rfl, gt_at 258 (by decide +kernel) rfl, by decide +kernel, by decide +kernel, by decide +kernel⟩
abbrev MX0_rob : MI := (yX0_rob, cX0_rob, 4, none)
abbrev rmX0_rob : Room := { frames := 2, cells := 0, slots := 0, locals := 43 }
def tabX0_rob : List (Nat × TE) := [(0, .aload_n 0, 1, 0, 0), (1, .iload_n 1, 1, 0, 0), (2, .iload_n 2, 1, 0, 0), (3, .invokevirtual 107, 3, 0, 0), (6, .istore_n 3, 1, 0, 0), (7, .aload_n 0, 1, 0, 0), (8, .getfield 9, 3, 0, 0), (11, .iload_n 2, 1, 0, 0), (12, .dup2, 1, 0, 0), (13, .iaload, 1, 0, 0), (14, .iload_n 3, 1, 0, 0), (15, .isub, 1, 0, 0), (16, .iastore, 1, 0, 0), (17, .aload_n 0, 1, 0, 0), (18, .getfield 18, 3, 0, 0), (21, .iload_n 1, 1, 0, 0), (22, .dup2, 1, 0, 0), (23, .iaload, 1, 0, 0), (24, .iload_n 3, 1, 0, 0), (25, .iadd, 1, 0, 0), (26, .iastore, 1, 0, 0), (27, .aload_n 0, 1, 0, 0), (28, .getfield 21, 3, 0, 0), (31, .iload_n 1, 1, 0, 0), (32, .dup2, 1, 0, 0), (33, .iaload, 1, 0, 0), (34, .iconst 1, 1, 1, 0), (35, .iload_n 2, 1, 0, 0), (36, .ishl, 1, 0, 0), (37, .ior, 1, 0, 0), (38, .iastore, 1, 0, 0), (39, .aload_n 0, 1, 0, 0), (40, .dup, 1, 0, 0), (41, .getfield 40, 3, 0, 0), (44, .iconst 1, 1, 1, 0), (45, .iload_n 1, 1, 0, 0), (46, .ishl, 1, 0, 0), (47, .ior, 1, 0, 0), (48, .putfield 40, 3, 0, 0), (51, .aload_n 0, 1, 0, 0), (52, .getfield 24, 3, 0, 0), (55, .iload_n 1, 1, 0, 0), (56, .iload_n 2, 1, 0, 0), (57, .iastore, 1, 0, 0), (58, .return_, 1, 0, 0)]
theorem tTX0_rob : tOK RX0 cX0_rob tabX0_rob = true := by decide +kernel
theorem hMX0_rob : MV MX0_rob 2 := ⟨gt_at 280 (by decide +kernel) rfl, gt_at 281 (by decide +kernel) rfl, gt_at 2 (by decide +kernel) rfl, gt_at 282 (by decide +kernel) rfl, by decide +kernel, by decide +kernel, by decide +kernel⟩
abbrev MX0_giveBack : MI := (yX0_giveBack, cX0_giveBack, 4, none)
abbrev rmX0_giveBack : Room := { frames := 1, cells := 0, slots := 0, locals := 21 }
def tabX0_giveBack : List (Nat × TE) := [(0, .bipush 9, 2, 9, 0), (2, .aload_n 0, 1, 0, 0), (3, .getfield 18, 3, 0, 0), (6, .iload_n 1, 1, 0, 0), (7, .iaload, 1, 0, 0), (8, .invokestatic 72, 3, 0, 0), (11, .istore_n 3, 1, 0, 0), (12, .aload_n 0, 1, 0, 0), (13, .getfield 18, 3, 0, 0), (16, .iload_n 1, 1, 0, 0), (17, .dup2, 1, 0, 0), (18, .iaload, 1, 0, 0), (19, .iload_n 3, 1, 0, 0), (20, .isub, 1, 0, 0), (21, .iastore, 1, 0, 0), (22, .aload_n 0, 1, 0, 0), (23, .getfield 9, 3, 0, 0), (26, .iload_n 2, 1, 0, 0), (27, .bipush 99, 2, 99, 0), (29, .aload_n 0, 1, 0, 0), (30, .getfield 9, 3, 0, 0), (33, .iload_n 2, 1, 0, 0), (34, .iaload, 1, 0, 0), (35, .iload_n 3, 1, 0, 0), (36, .iadd, 1, 0, 0), (37, .invokestatic 72, 3, 0, 0), (40, .iastore, 1, 0, 0), (41, .return_, 1, 0, 0)]
theorem tTX0_giveBack : tOK RX0 cX0_giveBack tabX0_giveBack = true := by decide +kernel
theorem hMX0_giveBack : MV MX0_giveBack 2 := ⟨gt_at 291 (by decide +kernel) rfl, gt_at 292 (by decide +kernel) rfl, gt_at 2 (by decide +kernel) rfl, gt_at 293 (by decide +kernel) rfl, by decide +kernel, by decide +kernel, by decide +kernel⟩
abbrev MX0_endYear : MI := (yX0_endYear, cX0_endYear, 1, none)
abbrev rmX0_endYear : Room := { frames := 1, cells := 0, slots := 0, locals := 23 }
def tabX0_endYear : List (Nat × TE) := [(0, .aload_n 0, 1, 0, 0), (1, .iconst 0, 1, 0, 0), (2, .putfield 40, 3, 0, 0), (5, .aload_n 0, 1, 0, 0), (6, .getfield 21, 3, 0, 0), (9, .iconst 0, 1, 0, 0), (10, .invokestatic 110, 3, 0, 0), (13, .return_, 1, 0, 0)]
theorem tTX0_endYear : tOK RX0 cX0_endYear tabX0_endYear = true := by decide +kernel
theorem hMX0_endYear : MV MX0_endYear 0 := ⟨gt_at 295 (by decide +kernel) rfl, gt_at 296 (by decide +kernel) rfl, gt_at 2 (by decide +kernel) rfl, gt_at 297 (by decide +kernel) rfl, by decide +kernel, by decide +kernel, by decide +kernel⟩
abbrev MX0_runYear : MI := (yX0_runYear, cX0_runYear, 8, (some .int))
abbrev rmX0_runYear : Room := { frames := 4, cells := 0, slots := 0, locals := 90 }
def tabX0_runYear : List (Nat × TE) := [(0, .iconst 0, 1, 0, 0), (1, .istore_n 3, 1, 0, 0), (2, .iload_n 1, 1, 0, 0), (3, .istore 4, 2, 0, 0), (5, .iconst 0, 1, 0, 0), (6, .istore 5, 2, 0, 0), (8, .iload 5, 2, 0, 0), (10, .iload_n 2, 1, 0, 0), (11, .if_icmp .ge 69, 3, 0, 0), (14, .bipush 75, 2, 75, 0), (16, .iload 4, 2, 0, 0), (18, .imul, 1, 0, 0), (19, .bipush 74, 2, 74, 0), (21, .iadd, 1, 0, 0), (22, .ldc 116, 2, 65537, 0), (24, .irem, 1, 0, 0), (25, .istore 4, 2, 0, 0), (27, .iload 4, 2, 0, 0), (29, .bipush 8, 2, 8, 0), (31, .irem, 1, 0, 0), (32, .invokestatic 117, 3, 0, 0), (35, .istore 6, 2, 0, 0), (37, .aload_n 0, 1, 0, 0), (38, .iload 6, 2, 0, 0), (40, .iload 4, 2, 0, 0), (42, .bipush 8, 2, 8, 0), (44, .idiv, 1, 0, 0), (45, .bipush 6, 2, 6, 0), (47, .irem, 1, 0, 0), (48, .iload 4, 2, 0, 0), (50, .bipush 64, 2, 64, 0), (52, .idiv, 1, 0, 0), (53, .bipush 6, 2, 6, 0), (55, .irem, 1, 0, 0), (56, .invokevirtual 120, 3, 0, 0), (59, .istore 7, 2, 0, 0), (61, .iload 6, 2, 0, 0), (63, .ifCond .ne 11, 3, 0, 0), (66, .iload 7, 2, 0, 0), (68, .ifCond .ne 6, 3, 0, 0), (71, .iinc 3 1, 3, 1, 0), (74, .iinc 5 1, 3, 1, 0), (77, .goto (-69), 3, 0, 0), (80, .iload_n 3, 1, 0, 0), (81, .ireturn, 1, 0, 0)]
theorem tTX0_runYear : tOK RX0 cX0_runYear tabX0_runYear = true := by decide +kernel
theorem hMX0_runYear : MV MX0_runYear 2 := ⟨gt_at 541 (by decide +kernel) rfl, gt_at 542 (by decide +kernel) rfl, gt_at 2 (by decide +kernel) rfl, gt_at 543 (by decide +kernel) rfl, by decide +kernel, by decide +kernel, by decide +kernel⟩
abbrev MX0_bareTrees : MI := (yX0_bareTrees, cX0_bareTrees, 3, (some .int))
abbrev rmX0_bareTrees : Room := { frames := 1, cells := 0, slots := 0, locals := 21 }
def tabX0_bareTrees : List (Nat × TE) := [(0, .iconst 0, 1, 0, 0), (1, .istore_n 1, 1, 0, 0), (2, .iconst 0, 1, 0, 0), (3, .istore_n 2, 1, 0, 0), (4, .iload_n 2, 1, 0, 0), (5, .bipush 6, 2, 6, 0), (7, .if_icmp .ge 32, 3, 0, 0), (10, .aload_n 0, 1, 0, 0), (11, .iload_n 2, 1, 0, 0), (12, .invokevirtual 58, 3, 0, 0), (15, .ifCond .eq 18, 3, 0, 0), (18, .aload_n 0, 1, 0, 0), (19, .getfield 9, 3, 0, 0), (22, .iload_n 2, 1, 0, 0), (23, .iaload, 1, 0, 0), (24, .ifCond .ne 9, 3, 0, 0), (27, .iload_n 1, 1, 0, 0), (28, .iconst 1, 1, 1, 0), (29, .iload_n 2, 1, 0, 0), (30, .ishl, 1, 0, 0), (31, .ior, 1, 0, 0), (32, .istore_n 1, 1, 0, 0), (33, .iinc 2 1, 3, 1, 0), (36, .goto (-32), 3, 0, 0), (39, .iload_n 1, 1, 0, 0), (40, .ireturn, 1, 0, 0)]
theorem tTX0_bareTrees : tOK RX0 cX0_bareTrees tabX0_bareTrees = true := by decide +kernel
theorem hMX0_bareTrees : MV MX0_bareTrees 0 := ⟨gt_at 322 (by decide +kernel) rfl, gt_at 323 (by decide +kernel) rfl, gt_at 2 (by decide +kernel) rfl, gt_at 324 (by decide +kernel) rfl, by decide +kernel, by decide +kernel, by decide +kernel⟩
abbrev MX0_robbedTrees : MI := (yX0_robbedTrees, cX0_robbedTrees, 3, (some .int))
abbrev rmX0_robbedTrees : Room := { frames := 0, cells := 0, slots := 0, locals := 0 }
def tabX0_robbedTrees : List (Nat × TE) := [(0, .iconst 0, 1, 0, 0), (1, .istore_n 1, 1, 0, 0), (2, .iconst 0, 1, 0, 0), (3, .istore_n 2, 1, 0, 0), (4, .iload_n 2, 1, 0, 0), (5, .bipush 6, 2, 6, 0), (7, .if_icmp .ge 18, 3, 0, 0), (10, .iload_n 1, 1, 0, 0), (11, .aload_n 0, 1, 0, 0), (12, .getfield 21, 3, 0, 0), (15, .iload_n 2, 1, 0, 0), (16, .iaload, 1, 0, 0), (17, .ior, 1, 0, 0), (18, .istore_n 1, 1, 0, 0), (19, .iinc 2 1, 3, 1, 0), (22, .goto (-18), 3, 0, 0), (25, .iload_n 1, 1, 0, 0), (26, .ireturn, 1, 0, 0)]
theorem tTX0_robbedTrees : tOK RX0 cX0_robbedTrees tabX0_robbedTrees = true := by decide +kernel
theorem hMX0_robbedTrees : MV MX0_robbedTrees 0 := ⟨gt_at 326 (by decide +kernel) rfl, gt_at 327 (by decide +kernel) rfl, gt_at 2 (by decide +kernel) rfl, gt_at 328 (by decide +kernel) rfl, by decide +kernel, by decide +kernel, by decide +kernel⟩
abbrev MX0_greatestHeap : MI := (yX0_greatestHeap, cX0_greatestHeap, 3, (some .int))
abbrev rmX0_greatestHeap : Room := { frames := 1, cells := 0, slots := 0, locals := 21 }
def tabX0_greatestHeap : List (Nat × TE) := [(0, .bipush (-6), 2, (-6), 0), (2, .istore_n 1, 1, 0, 0), (3, .iconst 0, 1, 0, 0), (4, .istore_n 2, 1, 0, 0), (5, .iload_n 2, 1, 0, 0), (6, .bipush 6, 2, 6, 0), (8, .if_icmp .ge 40, 3, 0, 0), (11, .aload_n 0, 1, 0, 0), (12, .iload_n 2, 1, 0, 0), (13, .invokevirtual 58, 3, 0, 0), (16, .ifCond .eq 26, 3, 0, 0), (19, .iload_n 1, 1, 0, 0), (20, .bipush (-6), 2, (-6), 0), (22, .if_icmp .eq 18, 3, 0, 0), (25, .aload_n 0, 1, 0, 0), (26, .getfield 18, 3, 0, 0), (29, .iload_n 2, 1, 0, 0), (30, .iaload, 1, 0, 0), (31, .aload_n 0, 1, 0, 0), (32, .getfield 18, 3, 0, 0), (35, .iload_n 1, 1, 0, 0), (36, .iaload, 1, 0, 0), (37, .if_icmp .le 5, 3, 0, 0), (40, .iload_n 2, 1, 0, 0), (41, .istore_n 1, 1, 0, 0), (42, .iinc 2 1, 3, 1, 0), (45, .goto (-40), 3, 0, 0), (48, .iload_n 1, 1, 0, 0), (49, .ireturn, 1, 0, 0)]
theorem tTX0_greatestHeap : tOK RX0 cX0_greatestHeap tabX0_greatestHeap = true := by decide +kernel
theorem hMX0_greatestHeap : MV MX0_greatestHeap 0 := ⟨gt_at 330 (by decide +kernel) rfl, gt_at 331 (by decide +kernel) rfl, gt_at 2 (by decide +kernel) rfl, gt_at 332 (by decide +kernel) rfl, by decide +kernel, by decide +kernel, by decide +kernel⟩
abbrev MX0_smallerHeaps : MI := (yX0_smallerHeaps, cX0_smallerHeaps, 6, (some .int))
abbrev rmX0_smallerHeaps : Room := { frames := 1, cells := 0, slots := 0, locals := 21 }
def tabX0_smallerHeaps : List (Nat × TE) := [(0, .iconst 0, 1, 0, 0), (1, .istore_n 2, 1, 0, 0), (2, .iconst 0, 1, 0, 0), (3, .istore_n 3, 1, 0, 0), (4, .iload_n 3, 1, 0, 0), (5, .bipush 6, 2, 6, 0), (7, .if_icmp .ge 79, 3, 0, 0), (10, .aload_n 0, 1, 0, 0), (11, .getfield 18, 3, 0, 0), (14, .iload_n 3, 1, 0, 0), (15, .iaload, 1, 0, 0), (16, .aload_n 0, 1, 0, 0), (17, .getfield 18, 3, 0, 0), (20, .iload_n 1, 1, 0, 0), (21, .iaload, 1, 0, 0), (22, .if_icmp .ge 7, 3, 0, 0), (25, .iconst 1, 1, 1, 0), (26, .goto 4, 3, 0, 0), (29, .iconst 0, 1, 0, 0), (30, .istore 4, 2, 0, 0), (32, .aload_n 0, 1, 0, 0), (33, .getfield 18, 3, 0, 0), (36, .iload_n 3, 1, 0, 0), (37, .iaload, 1, 0, 0), (38, .aload_n 0, 1, 0, 0), (39, .getfield 18, 3, 0, 0), (42, .iload_n 1, 1, 0, 0), (43, .iaload, 1, 0, 0), (44, .if_icmp .ne 12, 3, 0, 0), (47, .iload_n 3, 1, 0, 0), (48, .iload_n 1, 1, 0, 0), (49, .if_icmp .ge 7, 3, 0, 0), (52, .iconst 1, 1, 1, 0), (53, .goto 4, 3, 0, 0), (56, .iconst 0, 1, 0, 0), (57, .istore 5, 2, 0, 0), (59, .aload_n 0, 1, 0, 0), (60, .iload_n 3, 1, 0, 0), (61, .invokevirtual 58, 3, 0, 0), (64, .ifCond .eq 16, 3, 0, 0), (67, .iload 4, 2, 0, 0), (69, .ifCond .ne 8, 3, 0, 0), (72, .iload 5, 2, 0, 0), (74, .ifCond .eq 6, 3, 0, 0), (77, .iinc 2 1, 3, 1, 0), (80, .iinc 3 1, 3, 1, 0), (83, .goto (-79), 3, 0, 0), (86, .iload_n 2, 1, 0, 0), (87, .ireturn, 1, 0, 0)]
theorem tTX0_smallerHeaps : tOK RX0 cX0_smallerHeaps tabX0_smallerHeaps = true := by decide +kernel
theorem hMX0_smallerHeaps : MV MX0_smallerHeaps 1 := ⟨gt_at 533 (by decide +kernel) rfl, gt_at 534 (by decide +kernel) rfl, gt_at 2 (by decide +kernel) rfl, gt_at 535 (by decide +kernel) rfl, by decide +kernel, by decide +kernel, by decide +kernel⟩
abbrev MX0_heapsTogether : MI := (yX0_heapsTogether, cX0_heapsTogether, 3, (some .int))
abbrev rmX0_heapsTogether : Room := { frames := 0, cells := 0, slots := 0, locals := 0 }
def tabX0_heapsTogether : List (Nat × TE) := [(0, .iconst 0, 1, 0, 0), (1, .istore_n 1, 1, 0, 0), (2, .iconst 0, 1, 0, 0), (3, .istore_n 2, 1, 0, 0), (4, .iload_n 2, 1, 0, 0), (5, .bipush 6, 2, 6, 0), (7, .if_icmp .ge 18, 3, 0, 0), (10, .iload_n 1, 1, 0, 0), (11, .aload_n 0, 1, 0, 0), (12, .getfield 18, 3, 0, 0), (15, .iload_n 2, 1, 0, 0), (16, .iaload, 1, 0, 0), (17, .iadd, 1, 0, 0), (18, .istore_n 1, 1, 0, 0), (19, .iinc 2 1, 3, 1, 0), (22, .goto (-18), 3, 0, 0), (25, .iload_n 1, 1, 0, 0), (26, .ireturn, 1, 0, 0)]
theorem tTX0_heapsTogether : tOK RX0 cX0_heapsTogether tabX0_heapsTogether = true := by decide +kernel
theorem hMX0_heapsTogether : MV MX0_heapsTogether 0 := ⟨gt_at 550 (by decide +kernel) rfl, gt_at 551 (by decide +kernel) rfl, gt_at 2 (by decide +kernel) rfl, gt_at 552 (by decide +kernel) rfl, by decide +kernel, by decide +kernel, by decide +kernel⟩
abbrev MX0_applesTogether : MI := (yX0_applesTogether, cX0_applesTogether, 3, (some .int))
abbrev rmX0_applesTogether : Room := { frames := 0, cells := 0, slots := 0, locals := 0 }
def tabX0_applesTogether : List (Nat × TE) := [(0, .iconst 0, 1, 0, 0), (1, .istore_n 1, 1, 0, 0), (2, .iconst 0, 1, 0, 0), (3, .istore_n 2, 1, 0, 0), (4, .iload_n 2, 1, 0, 0), (5, .bipush 6, 2, 6, 0), (7, .if_icmp .ge 18, 3, 0, 0), (10, .iload_n 1, 1, 0, 0), (11, .aload_n 0, 1, 0, 0), (12, .getfield 9, 3, 0, 0), (15, .iload_n 2, 1, 0, 0), (16, .iaload, 1, 0, 0), (17, .iadd, 1, 0, 0), (18, .istore_n 1, 1, 0, 0), (19, .iinc 2 1, 3, 1, 0), (22, .goto (-18), 3, 0, 0), (25, .iload_n 1, 1, 0, 0), (26, .ireturn, 1, 0, 0)]
theorem tTX0_applesTogether : tOK RX0 cX0_applesTogether tabX0_applesTogether = true := by decide +kernel
theorem hMX0_applesTogether : MV MX0_applesTogether 0 := ⟨gt_at 554 (by decide +kernel) rfl, gt_at 555 (by decide +kernel) rfl, gt_at 2 (by decide +kernel) rfl, gt_at 556 (by decide +kernel) rfl, by decide +kernel, by decide +kernel, by decide +kernel⟩
abbrev MX0_wanted : MI := (yX0_wanted, cX0_wanted, 3, (some .int))
abbrev rmX0_wanted : Room := { frames := 1, cells := 0, slots := 0, locals := 21 }
def tabX0_wanted : List (Nat × TE) := [(0, .aload_n 0, 1, 0, 0), (1, .getfield 9, 3, 0, 0), (4, .iload_n 1, 1, 0, 0), (5, .iaload, 1, 0, 0), (6, .iload_n 2, 1, 0, 0), (7, .iadd, 1, 0, 0), (8, .iconst 1, 1, 1, 0), (9, .isub, 1, 0, 0), (10, .iconst 1, 1, 1, 0), (11, .iload_n 2, 1, 0, 0), (12, .invokestatic 123, 3, 0, 0), (15, .idiv, 1, 0, 0), (16, .ireturn, 1, 0, 0)]
theorem tTX0_wanted : tOK RX0 cX0_wanted tabX0_wanted = true := by decide +kernel
theorem hMX0_wanted : MV MX0_wanted 2 := ⟨gt_at 366 (by decide +kernel) rfl, gt_at 367 (by decide +kernel) rfl, gt_at 2 (by decide +kernel) rfl, gt_at 368 (by decide +kernel) rfl, by decide +kernel, by decide +kernel, by decide +kernel⟩
abbrev MX0_wantedTogether : MI := (yX0_wantedTogether, cX0_wantedTogether, 4, (some .int))
abbrev rmX0_wantedTogether : Room := { frames := 2, cells := 0, slots := 0, locals := 43 }
def tabX0_wantedTogether : List (Nat × TE) := [(0, .iconst 0, 1, 0, 0), (1, .istore_n 2, 1, 0, 0), (2, .iconst 0, 1, 0, 0), (3, .istore_n 3, 1, 0, 0), (4, .iload_n 3, 1, 0, 0), (5, .bipush 6, 2, 6, 0), (7, .if_icmp .ge 18, 3, 0, 0), (10, .iload_n 2, 1, 0, 0), (11, .aload_n 0, 1, 0, 0), (12, .iload_n 3, 1, 0, 0), (13, .iload_n 1, 1, 0, 0), (14, .invokevirtual 126, 3, 0, 0), (17, .iadd, 1, 0, 0), (18, .istore_n 2, 1, 0, 0), (19, .iinc 3 1, 3, 1, 0), (22, .goto (-18), 3, 0, 0), (25, .iload_n 2, 1, 0, 0), (26, .ireturn, 1, 0, 0)]
theorem tTX0_wantedTogether : tOK RX0 cX0_wantedTogether tabX0_wantedTogether = true := by decide +kernel
theorem hMX0_wantedTogether : MV MX0_wantedTogether 1 := ⟨gt_at 362 (by decide +kernel) rfl, gt_at 363 (by decide +kernel) rfl, gt_at 2 (by decide +kernel) rfl, gt_at 364 (by decide +kernel) rfl, by decide +kernel, by decide +kernel, by decide +kernel⟩
abbrev MX0_addSight : MI := (yX0_addSight, cX0_addSight, 3, (some .boolean))
abbrev rmX0_addSight : Room := { frames := 0, cells := 0, slots := 0, locals := 0 }
def tabX0_addSight : List (Nat × TE) := [(0, .aload_n 0, 1, 0, 0), (1, .getfield 33, 3, 0, 0), (4, .bipush 8, 2, 8, 0), (6, .if_icmp .lt 5, 3, 0, 0), (9, .iconst 0, 1, 0, 0), (10, .ireturn, 1, 0, 0), (11, .aload_n 0, 1, 0, 0), (12, .getfield 27, 3, 0, 0), (15, .aload_n 0, 1, 0, 0), (16, .getfield 33, 3, 0, 0), (19, .iload_n 1, 1, 0, 0), (20, .iastore, 1, 0, 0), (21, .aload_n 0, 1, 0, 0), (22, .getfield 30, 3, 0, 0), (25, .aload_n 0, 1, 0, 0), (26, .getfield 33, 3, 0, 0), (29, .iload_n 2, 1, 0, 0), (30, .iastore, 1, 0, 0), (31, .aload_n 0, 1, 0, 0), (32, .dup, 1, 0, 0), (33, .getfield 33, 3, 0, 0), (36, .iconst 1, 1, 1, 0), (37, .iadd, 1, 0, 0), (38, .putfield 33, 3, 0, 0), (41, .iconst 1, 1, 1, 0), (42, .ireturn, 1, 0, 0)]
theorem tTX0_addSight : tOK RX0 cX0_addSight tabX0_addSight = true := by decide +kernel
theorem hMX0_addSight : MV MX0_addSight 2 := ⟨gt_at 435 (by decide +kernel) rfl, gt_at 436 (by decide +kernel) rfl, gt_at 2 (by decide +kernel) rfl, gt_at 437 (by decide +kernel) rfl, by decide +kernel, by decide +kernel, by decide +kernel⟩
abbrev MX0_hasSightOf : MI := (yX0_hasSightOf, cX0_hasSightOf, 3, (some .boolean))
abbrev rmX0_hasSightOf : Room := { frames := 0, cells := 0, slots := 0, locals := 0 }
def tabX0_hasSightOf : List (Nat × TE) := [(0, .iconst 0, 1, 0, 0), (1, .istore_n 2, 1, 0, 0), (2, .iload_n 2, 1, 0, 0), (3, .aload_n 0, 1, 0, 0), (4, .getfield 33, 3, 0, 0), (7, .if_icmp .ge 21, 3, 0, 0), (10, .aload_n 0, 1, 0, 0), (11, .getfield 27, 3, 0, 0), (14, .iload_n 2, 1, 0, 0), (15, .iaload, 1, 0, 0), (16, .iload_n 1, 1, 0, 0), (17, .if_icmp .ne 5, 3, 0, 0), (20, .iconst 1, 1, 1, 0), (21, .ireturn, 1, 0, 0), (22, .iinc 2 1, 3, 1, 0), (25, .goto (-23), 3, 0, 0), (28, .iconst 0, 1, 0, 0), (29, .ireturn, 1, 0, 0)]
theorem tTX0_hasSightOf : tOK RX0 cX0_hasSightOf tabX0_hasSightOf = true := by decide +kernel
theorem hMX0_hasSightOf : MV MX0_hasSightOf 1 := ⟨gt_at 491 (by decide +kernel) rfl, gt_at 492 (by decide +kernel) rfl, gt_at 2 (by decide +kernel) rfl, gt_at 493 (by decide +kernel) rfl, by decide +kernel, by decide +kernel, by decide +kernel⟩
abbrev MX0_fitsSights : MI := (yX0_fitsSights, cX0_fitsSights, 5, (some .boolean))
abbrev rmX0_fitsSights : Room := { frames := 1, cells := 0, slots := 0, locals := 21 }
def tabX0_fitsSights : List (Nat × TE) := [(0, .iconst 0, 1, 0, 0), (1, .istore_n 3, 1, 0, 0), (2, .iload_n 3, 1, 0, 0), (3, .aload_n 0, 1, 0, 0), (4, .getfield 33, 3, 0, 0), (7, .if_icmp .ge 51, 3, 0, 0), (10, .aload_n 0, 1, 0, 0), (11, .getfield 27, 3, 0, 0), (14, .iload_n 3, 1, 0, 0), (15, .iaload, 1, 0, 0), (16, .iload_n 1, 1, 0, 0), (17, .if_icmp .ne 7, 3, 0, 0), (20, .iconst 1, 1, 1, 0), (21, .goto 4, 3, 0, 0), (24, .iconst 0, 1, 0, 0), (25, .istore 4, 2, 0, 0), (27, .iload 4, 2, 0, 0), (29, .ifCond .eq 23, 3, 0, 0), (32, .aload_n 0, 1, 0, 0), (33, .iload_n 1, 1, 0, 0), (34, .invokevirtual 58, 3, 0, 0), (37, .ifCond .eq 13, 3, 0, 0), (40, .aload_n 0, 1, 0, 0), (41, .getfield 30, 3, 0, 0), (44, .iload_n 3, 1, 0, 0), (45, .iaload, 1, 0, 0), (46, .iload_n 2, 1, 0, 0), (47, .if_icmp .eq 5, 3, 0, 0), (50, .iconst 0, 1, 0, 0), (51, .ireturn, 1, 0, 0), (52, .iinc 3 1, 3, 1, 0), (55, .goto (-53), 3, 0, 0), (58, .iconst 1, 1, 1, 0), (59, .ireturn, 1, 0, 0)]
theorem tTX0_fitsSights : tOK RX0 cX0_fitsSights tabX0_fitsSights = true := by decide +kernel
theorem hMX0_fitsSights : MV MX0_fitsSights 2 := ⟨gt_at 462 (by decide +kernel) rfl, gt_at 463 (by decide +kernel) rfl, gt_at 2 (by decide +kernel) rfl, gt_at 464 (by decide +kernel) rfl, by decide +kernel, by decide +kernel, by decide +kernel⟩
abbrev MX0_holds : MI := (yX0_holds, cX0_holds, 2, (some .boolean))
abbrev rmX0_holds : Room := { frames := 0, cells := 0, slots := 0, locals := 0 }
def tabX0_holds : List (Nat × TE) := [(0, .iload_n 0, 1, 0, 0), (1, .iconst 1, 1, 1, 0), (2, .iload_n 1, 1, 0, 0), (3, .ishl, 1, 0, 0), (4, .iand, 1, 0, 0), (5, .ifCond .eq 7, 3, 0, 0), (8, .iconst 1, 1, 1, 0), (9, .goto 4, 3, 0, 0), (12, .iconst 0, 1, 0, 0), (13, .ireturn, 1, 0, 0)]
theorem tTX0_holds : tOK RX0 cX0_holds tabX0_holds = true := by decide +kernel
theorem hMX0_holds : MSt MX0_holds 2 := ⟨gt_at 269 (by decide +kernel) rfl, gt_at 2 (by decide +kernel) rfl, gt_at 270 (by decide +kernel) rfl, by decide +kernel, by decide +kernel, by decide +kernel⟩
abbrev MX0_drawnKind : MI := (yX0_drawnKind, cX0_drawnKind, 1, (some .int))
abbrev rmX0_drawnKind : Room := { frames := 0, cells := 0, slots := 0, locals := 0 }
def tabX0_drawnKind : List (Nat × TE) := [(0, .iload_n 0, 1, 0, 0), (1, .tableswitch 43 0 3 #[31, 34, 37, 40], 31, 0, 0), (32, .bipush 46, 2, 46, 0), (34, .ireturn, 1, 0, 0), (35, .bipush 42, 2, 42, 0), (37, .ireturn, 1, 0, 0), (38, .bipush 126, 2, 126, 0), (40, .ireturn, 1, 0, 0), (41, .bipush 33, 2, 33, 0), (43, .ireturn, 1, 0, 0), (44, .iconst 0, 1, 0, 0), (45, .ireturn, 1, 0, 0)]
theorem tTX0_drawnKind : tOK RX0 cX0_drawnKind tabX0_drawnKind = true := by decide +kernel
theorem hMX0_drawnKind : MSt MX0_drawnKind 1 := ⟨gt_at 546 (by decide +kernel) rfl, gt_at 2 (by decide +kernel) rfl, gt_at 547 (by decide +kernel) rfl, by decide +kernel, by decide +kernel, by decide +kernel⟩
abbrev MX1_init : MI := (yX1_init, cX1_init, 1, none)
abbrev rmX1_init : Room := { frames := 1, cells := 1, slots := 60, locals := 20 }
def tabX1_init : List (Nat × TE) := [(0, .aload_n 0, 1, 0, 0), (1, .invokespecial 3, 3, 0, 0), (4, .aload_n 0, 1, 0, 0), (5, .bipush 60, 2, 60, 0), (7, .newarray .int, 2, 0, 0), (9, .putfield 9, 3, 0, 0), (12, .aload_n 0, 1, 0, 0), (13, .iconst 0, 1, 0, 0), (14, .putfield 15, 3, 0, 0), (17, .aload_n 0, 1, 0, 0), (18, .iconst 0, 1, 0, 0), (19, .putfield 19, 3, 0, 0), (22, .aload_n 0, 1, 0, 0), (23, .iconst 0, 1, 0, 0), (24, .putfield 22, 3, 0, 0), (27, .return_, 1, 0, 0)]
theorem tTX1_init : tOK RX1 cX1_init tabX1_init = true := by decide +kernel
theorem hMX1_init : MIn MX1_init 0 := ⟨gt_at 81 (by decide +kernel) rfl, gt_at 3 (by decide +kernel) rfl, gt_at 82 (by decide +kernel) rfl, rfl, rfl, by decide +kernel, by decide +kernel, by decide +kernel⟩
abbrev MX1_write : MI := (yX1_write, cX1_write, 2, (some .boolean))
abbrev rmX1_write : Room := { frames := 0, cells := 0, slots := 0, locals := 0 }
def tabX1_write : List (Nat × TE) := [(0, .aload_n 0, 1, 0, 0), (1, .getfield 15, 3, 0, 0), (4, .bipush 60, 2, 60, 0), (6, .if_icmp .lt 5, 3, 0, 0), (9, .iconst 0, 1, 0, 0), (10, .ireturn, 1, 0, 0), (11, .aload_n 0, 1, 0, 0), (12, .getfield 9, 3, 0, 0), (15, .aload_n 0, 1, 0, 0), (16, .getfield 15, 3, 0, 0), (19, .iload_n 1, 1, 0, 0), (20, .iastore, 1, 0, 0), (21, .aload_n 0, 1, 0, 0), (22, .dup, 1, 0, 0), (23, .getfield 15, 3, 0, 0), (26, .iconst 1, 1, 1, 0), (27, .iadd, 1, 0, 0), (28, .putfield 15, 3, 0, 0), (31, .iconst 1, 1, 1, 0), (32, .ireturn, 1, 0, 0)]
theorem tTX1_write : tOK RX1 cX1_write tabX1_write = true := by decide +kernel
theorem hMX1_write : MV MX1_write 1 := ⟨gt_at 211 (by decide +kernel) rfl, gt_at 212 (by decide +kernel) rfl, gt_at 3 (by decide +kernel) rfl, gt_at 213 (by decide +kernel) rfl, by decide +kernel, by decide +kernel, by decide +kernel⟩
abbrev MX1_faultPlace : MI := (yX1_faultPlace, cX1_faultPlace, 5, (some .int))
abbrev rmX1_faultPlace : Room := { frames := 3, cells := 0, slots := 0, locals := 62 }
def tabX1_faultPlace : List (Nat × TE) := [(0, .iconst 0, 1, 0, 0), (1, .istore_n 1, 1, 0, 0), (2, .iconst 0, 1, 0, 0), (3, .istore_n 2, 1, 0, 0), (4, .iload_n 2, 1, 0, 0), (5, .aload_n 0, 1, 0, 0), (6, .getfield 15, 3, 0, 0), (9, .if_icmp .ge 72, 3, 0, 0), (12, .aload_n 0, 1, 0, 0), (13, .getfield 9, 3, 0, 0), (16, .iload_n 2, 1, 0, 0), (17, .iaload, 1, 0, 0), (18, .istore_n 3, 1, 0, 0), (19, .iload_n 1, 1, 0, 0), (20, .ifCond .eq 10, 3, 0, 0), (23, .iload_n 3, 1, 0, 0), (24, .invokestatic 25, 3, 0, 0), (27, .goto 22, 3, 0, 0), (30, .iload_n 3, 1, 0, 0), (31, .invokestatic 29, 3, 0, 0), (34, .ifCond .ne 10, 3, 0, 0), (37, .iload_n 3, 1, 0, 0), (38, .invokestatic 32, 3, 0, 0), (41, .ifCond .eq 7, 3, 0, 0), (44, .iconst 1, 1, 1, 0), (45, .goto 4, 3, 0, 0), (48, .iconst 0, 1, 0, 0), (49, .istore 4, 2, 0, 0), (51, .iload 4, 2, 0, 0), (53, .ifCond .ne 5, 3, 0, 0), (56, .iload_n 2, 1, 0, 0), (57, .ireturn, 1, 0, 0), (58, .iload_n 1, 1, 0, 0), (59, .ifCond .ne 14, 3, 0, 0), (62, .iload_n 3, 1, 0, 0), (63, .invokestatic 29, 3, 0, 0), (66, .ifCond .eq 7, 3, 0, 0), (69, .iconst 1, 1, 1, 0), (70, .goto 4, 3, 0, 0), (73, .iconst 0, 1, 0, 0), (74, .istore_n 1, 1, 0, 0), (75, .iinc 2 1, 3, 1, 0), (78, .goto (-74), 3, 0, 0), (81, .iload_n 1, 1, 0, 0), (82, .ifCond .eq 10, 3, 0, 0), (85, .aload_n 0, 1, 0, 0), (86, .getfield 15, 3, 0, 0), (89, .goto 5, 3, 0, 0), (92, .bipush (-6), 2, (-6), 0), (94, .ireturn, 1, 0, 0)]
theorem tTX1_faultPlace : tOK RX1 cX1_faultPlace tabX1_faultPlace = true := by decide +kernel
theorem hMX1_faultPlace : MV MX1_faultPlace 0 := ⟨gt_at 223 (by decide +kernel) rfl, gt_at 224 (by decide +kernel) rfl, gt_at 3 (by decide +kernel) rfl, gt_at 225 (by decide +kernel) rfl, by decide +kernel, by decide +kernel, by decide +kernel⟩
abbrev MX1_runOn : MI := (yX1_runOn, cX1_runOn, 6, (some .boolean))
abbrev rmX1_runOn : Room := { frames := 4, cells := 0, slots := 0, locals := 90 }
def tabX1_runOn : List (Nat × TE) := [(0, .aload_n 0, 1, 0, 0), (1, .iconst 0, 1, 0, 0), (2, .putfield 19, 3, 0, 0), (5, .aload_n 0, 1, 0, 0), (6, .iconst 0, 1, 0, 0), (7, .putfield 22, 3, 0, 0), (10, .bipush (-6), 2, (-6), 0), (12, .istore_n 2, 1, 0, 0), (13, .iconst 0, 1, 0, 0), (14, .istore_n 3, 1, 0, 0), (15, .iload_n 3, 1, 0, 0), (16, .aload_n 0, 1, 0, 0), (17, .getfield 15, 3, 0, 0), (20, .if_icmp .ge 94, 3, 0, 0), (23, .aload_n 0, 1, 0, 0), (24, .getfield 9, 3, 0, 0), (27, .iload_n 3, 1, 0, 0), (28, .iaload, 1, 0, 0), (29, .istore 4, 2, 0, 0), (31, .iload_n 2, 1, 0, 0), (32, .bipush (-6), 2, (-6), 0), (34, .if_icmp .ne 20, 3, 0, 0), (37, .iload 4, 2, 0, 0), (39, .invokestatic 29, 3, 0, 0), (42, .ifCond .eq 12, 3, 0, 0), (45, .iload 4, 2, 0, 0), (47, .bipush 65, 2, 65, 0), (49, .isub, 1, 0, 0), (50, .istore_n 2, 1, 0, 0), (51, .goto 57, 3, 0, 0), (54, .iload 4, 2, 0, 0), (56, .invokestatic 29, 3, 0, 0), (59, .ifCond .eq 7, 3, 0, 0), (62, .iconst 0, 1, 0, 0), (63, .goto 5, 3, 0, 0), (66, .iload 4, 2, 0, 0), (68, .istore 5, 2, 0, 0), (70, .aload_n 0, 1, 0, 0), (71, .aload_n 1, 1, 0, 0), (72, .iload 5, 2, 0, 0), (74, .iload_n 2, 1, 0, 0), (75, .iload 4, 2, 0, 0), (77, .bipush 65, 2, 65, 0), (79, .isub, 1, 0, 0), (80, .invokevirtual 35, 3, 0, 0), (83, .putfield 22, 3, 0, 0), (86, .aload_n 0, 1, 0, 0), (87, .getfield 22, 3, 0, 0), (90, .ifCond .eq 5, 3, 0, 0), (93, .iconst 0, 1, 0, 0), (94, .ireturn, 1, 0, 0), (95, .aload_n 0, 1, 0, 0), (96, .dup, 1, 0, 0), (97, .getfield 19, 3, 0, 0), (100, .iconst 1, 1, 1, 0), (101, .iadd, 1, 0, 0), (102, .putfield 19, 3, 0, 0), (105, .bipush (-6), 2, (-6), 0), (107, .istore_n 2, 1, 0, 0), (108, .iinc 3 1, 3, 1, 0), (111, .goto (-96), 3, 0, 0), (114, .iconst 1, 1, 1, 0), (115, .ireturn, 1, 0, 0)]
theorem tTX1_runOn : tOK RX1 cX1_runOn tabX1_runOn = true := by decide +kernel
theorem hMX1_runOn : MV MX1_runOn 1 := ⟨gt_at 252 (by decide +kernel) rfl, gt_at 253 (by decide +kernel) rfl, gt_at 3 (by decide +kernel) rfl, gt_at 254 (by decide +kernel) rfl, by decide +kernel, by decide +kernel, by decide +kernel⟩
abbrev MX1_isLetter : MI := (yX1_isLetter, cX1_isLetter, 1, (some .boolean))
abbrev rmX1_isLetter : Room := { frames := 1, cells := 0, slots := 0, locals := 22 }
def tabX1_isLetter : List (Nat × TE) := [(0, .iload_n 0, 1, 0, 0), (1, .bipush 65, 2, 65, 0), (3, .bipush 70, 2, 70, 0), (5, .invokestatic 41, 3, 0, 0), (8, .ireturn, 1, 0, 0)]
theorem tTX1_isLetter : tOK RX1 cX1_isLetter tabX1_isLetter = true := by decide +kernel
theorem hMX1_isLetter : MSt MX1_isLetter 1 := ⟨gt_at 230 (by decide +kernel) rfl, gt_at 3 (by decide +kernel) rfl, gt_at 231 (by decide +kernel) rfl, by decide +kernel, by decide +kernel, by decide +kernel⟩
abbrev MX1_standsAlone : MI := (yX1_standsAlone, cX1_standsAlone, 1, (some .boolean))
abbrev rmX1_standsAlone : Room := { frames := 0, cells := 0, slots := 0, locals := 0 }
def tabX1_standsAlone : List (Nat × TE) := [(0, .iload_n 0, 1, 0, 0), (1, .bipush 46, 2, 46, 0), (3, .if_icmp .eq 9, 3, 0, 0), (6, .iload_n 0, 1, 0, 0), (7, .bipush 36, 2, 36, 0), (9, .if_icmp .ne 7, 3, 0, 0), (12, .iconst 1, 1, 1, 0), (13, .goto 4, 3, 0, 0), (16, .iconst 0, 1, 0, 0), (17, .ireturn, 1, 0, 0)]
theorem tTX1_standsAlone : tOK RX1 cX1_standsAlone tabX1_standsAlone = true := by decide +kernel
theorem hMX1_standsAlone : MSt MX1_standsAlone 1 := ⟨gt_at 234 (by decide +kernel) rfl, gt_at 3 (by decide +kernel) rfl, gt_at 235 (by decide +kernel) rfl, by decide +kernel, by decide +kernel, by decide +kernel⟩
abbrev MX1_endsAct : MI := (yX1_endsAct, cX1_endsAct, 1, (some .boolean))
abbrev rmX1_endsAct : Room := { frames := 2, cells := 0, slots := 0, locals := 42 }
def tabX1_endsAct : List (Nat × TE) := [(0, .iload_n 0, 1, 0, 0), (1, .invokestatic 29, 3, 0, 0), (4, .ifCond .ne 21, 3, 0, 0), (7, .iload_n 0, 1, 0, 0), (8, .bipush 42, 2, 42, 0), (10, .if_icmp .eq 15, 3, 0, 0), (13, .iload_n 0, 1, 0, 0), (14, .bipush 126, 2, 126, 0), (16, .if_icmp .eq 9, 3, 0, 0), (19, .iload_n 0, 1, 0, 0), (20, .bipush 33, 2, 33, 0), (22, .if_icmp .ne 7, 3, 0, 0), (25, .iconst 1, 1, 1, 0), (26, .goto 4, 3, 0, 0), (29, .iconst 0, 1, 0, 0), (30, .ireturn, 1, 0, 0)]
theorem tTX1_endsAct : tOK RX1 cX1_endsAct tabX1_endsAct = true := by decide +kernel
theorem hMX1_endsAct : MSt MX1_endsAct 1 := ⟨gt_at 227 (by decide +kernel) rfl, gt_at 3 (by decide +kernel) rfl, gt_at 228 (by decide +kernel) rfl, by decide +kernel, by decide +kernel, by decide +kernel⟩
abbrev MJ6_bitCount_0f7a4 : MI := (yJ6_bitCount_0f7a4, cJ6_bitCount_0f7a4, 1, (some .int))
abbrev rmJ6_bitCount_0f7a4 : Room := { frames := 0, cells := 0, slots := 0, locals := 0 }
def tabJ6_bitCount_0f7a4 : List (Nat × TE) := [(0, .iload_n 0, 1, 0, 0), (1, .iload_n 0, 1, 0, 0), (2, .iconst 1, 1, 1, 0), (3, .iushr, 1, 0, 0), (4, .ldc_w 265, 3, 1431655765, 0), (7, .iand, 1, 0, 0), (8, .isub, 1, 0, 0), (9, .istore_n 0, 1, 0, 0), (10, .iload_n 0, 1, 0, 0), (11, .ldc_w 266, 3, 858993459, 0), (14, .iand, 1, 0, 0), (15, .iload_n 0, 1, 0, 0), (16, .iconst 2, 1, 2, 0), (17, .iushr, 1, 0, 0), (18, .ldc_w 266, 3, 858993459, 0), (21, .iand, 1, 0, 0), (22, .iadd, 1, 0, 0), (23, .istore_n 0, 1, 0, 0), (24, .iload_n 0, 1, 0, 0), (25, .iload_n 0, 1, 0, 0), (26, .iconst 4, 1, 4, 0), (27, .iushr, 1, 0, 0), (28, .iadd, 1, 0, 0), (29, .ldc_w 267, 3, 252645135, 0), (32, .iand, 1, 0, 0), (33, .istore_n 0, 1, 0, 0), (34, .iload_n 0, 1, 0, 0), (35, .iload_n 0, 1, 0, 0), (36, .bipush 8, 2, 8, 0), (38, .iushr, 1, 0, 0), (39, .iadd, 1, 0, 0), (40, .istore_n 0, 1, 0, 0), (41, .iload_n 0, 1, 0, 0), (42, .iload_n 0, 1, 0, 0), (43, .bipush 16, 2, 16, 0), (45, .iushr, 1, 0, 0), (46, .iadd, 1, 0, 0), (47, .istore_n 0, 1, 0, 0), (48, .iload_n 0, 1, 0, 0), (49, .bipush 63, 2, 63, 0), (51, .iand, 1, 0, 0), (52, .ireturn, 1, 0, 0)]
theorem tTJ6_bitCount_0f7a4 : tOK RJ6 cJ6_bitCount_0f7a4 tabJ6_bitCount_0f7a4 = true := by decide +kernel
theorem hMJ6_bitCount_0f7a4 : MSt MJ6_bitCount_0f7a4 1 := ⟨gt_at 185 (by decide +kernel) rfl, gt_at 8 (by decide +kernel) rfl, gt_at 186 (by decide +kernel) rfl, by decide +kernel, by decide +kernel, by decide +kernel⟩
abbrev MJ9_max_7cf53 : MI := (yJ9_max_7cf53, cJ9_max_7cf53, 2, (some .int))
abbrev rmJ9_max_7cf53 : Room := { frames := 0, cells := 0, slots := 0, locals := 0 }
def tabJ9_max_7cf53 : List (Nat × TE) := [(0, .iload_n 0, 1, 0, 0), (1, .iload_n 1, 1, 0, 0), (2, .if_icmp .lt 7, 3, 0, 0), (5, .iload_n 0, 1, 0, 0), (6, .goto 4, 3, 0, 0), (9, .iload_n 1, 1, 0, 0), (10, .ireturn, 1, 0, 0)]
theorem tTJ9_max_7cf53 : tOK RJ9 cJ9_max_7cf53 tabJ9_max_7cf53 = true := by decide +kernel
theorem hMJ9_max_7cf53 : MSt MJ9_max_7cf53 2 := ⟨gt_at 370 (by decide +kernel) rfl, gt_at 10 (by decide +kernel) rfl, gt_at 371 (by decide +kernel) rfl, by decide +kernel, by decide +kernel, by decide +kernel⟩
abbrev MJ9_min_7cf53 : MI := (yJ9_min_7cf53, cJ9_min_7cf53, 2, (some .int))
abbrev rmJ9_min_7cf53 : Room := { frames := 0, cells := 0, slots := 0, locals := 0 }
def tabJ9_min_7cf53 : List (Nat × TE) := [(0, .iload_n 0, 1, 0, 0), (1, .iload_n 1, 1, 0, 0), (2, .if_icmp .gt 7, 3, 0, 0), (5, .iload_n 0, 1, 0, 0), (6, .goto 4, 3, 0, 0), (9, .iload_n 1, 1, 0, 0), (10, .ireturn, 1, 0, 0)]
theorem tTJ9_min_7cf53 : tOK RJ9 cJ9_min_7cf53 tabJ9_min_7cf53 = true := by decide +kernel
theorem hMJ9_min_7cf53 : MSt MJ9_min_7cf53 2 := ⟨gt_at 288 (by decide +kernel) rfl, gt_at 10 (by decide +kernel) rfl, gt_at 289 (by decide +kernel) rfl, by decide +kernel, by decide +kernel, by decide +kernel⟩
abbrev MJ7_fill_53178 : MI := (yJ7_fill_53178, cJ7_fill_53178, 4, none)
abbrev rmJ7_fill_53178 : Room := { frames := 0, cells := 0, slots := 0, locals := 0 }
def tabJ7_fill_53178 : List (Nat × TE) := [(0, .iconst 0, 1, 0, 0), (1, .istore_n 2, 1, 0, 0), (2, .aload_n 0, 1, 0, 0), (3, .arraylength, 1, 0, 0), (4, .istore_n 3, 1, 0, 0), (5, .iload_n 2, 1, 0, 0), (6, .iload_n 3, 1, 0, 0), (7, .if_icmp .ge 13, 3, 0, 0), (10, .aload_n 0, 1, 0, 0), (11, .iload_n 2, 1, 0, 0), (12, .iload_n 1, 1, 0, 0), (13, .iastore, 1, 0, 0), (14, .iinc 2 1, 3, 1, 0), (17, .goto (-12), 3, 0, 0), (20, .return_, 1, 0, 0)]
theorem tTJ7_fill_53178 : tOK RJ7 cJ7_fill_53178 tabJ7_fill_53178 = true := by decide +kernel
theorem hMJ7_fill_53178 : MSt MJ7_fill_53178 2 := ⟨gt_at 299 (by decide +kernel) rfl, gt_at 11 (by decide +kernel) rfl, gt_at 300 (by decide +kernel) rfl, by decide +kernel, by decide +kernel, by decide +kernel⟩
end
section
abbrev MX2_init : MI := (yX2_init, cX2_init, 1, none)
abbrev rmX2_init : Room := { frames := 1, cells := 2, slots := 70, locals := 20 }
def tabX2_init : List (Nat × TE) := [(0, .aload_n 0, 1, 0, 0), (1, .invokespecial 3, 3, 0, 0), (4, .aload_n 0, 1, 0, 0), (5, .bipush 6, 2, 6, 0), (7, .newarray .int, 2, 0, 0), (9, .putfield 9, 3, 0, 0), (12, .aload_n 0, 1, 0, 0), (13, .bipush 64, 2, 64, 0), (15, .newarray .int, 2, 0, 0), (17, .putfield 15, 3, 0, 0), (20, .return_, 1, 0, 0)]
theorem tTX2_init : tOK RX2 cX2_init tabX2_init = true := by decide +kernel
theorem hMX2_init : MIn MX2_init 0 := ⟨gt_at 103 (by decide +kernel) rfl, gt_at 4 (by decide +kernel) rfl, gt_at 104 (by decide +kernel) rfl, rfl, rfl, by decide +kernel, by decide +kernel, by decide +kernel⟩
abbrev MX2_longestChain : MI := (yX2_longestChain, cX2_longestChain, 4, (some .int))
abbrev rmX2_longestChain : Room := { frames := 5, cells := 0, slots := 0, locals := 110 }
def tabX2_longestChain : List (Nat × TE) := [(0, .aload_n 0, 1, 0, 0), (1, .aload_n 1, 1, 0, 0), (2, .invokevirtual 18, 3, 0, 0), (5, .aload_n 0, 1, 0, 0), (6, .iload_n 2, 1, 0, 0), (7, .invokevirtual 22, 3, 0, 0), (10, .aload_n 0, 1, 0, 0), (11, .iconst 1, 1, 1, 0), (12, .iload_n 3, 1, 0, 0), (13, .ishl, 1, 0, 0), (14, .invokevirtual 26, 3, 0, 0), (17, .ireturn, 1, 0, 0)]
theorem tTX2_longestChain : tOK RX2 cX2_longestChain tabX2_longestChain = true := by decide +kernel
theorem hMX2_longestChain : MV MX2_longestChain 3 := ⟨gt_at 422 (by decide +kernel) rfl, gt_at 423 (by decide +kernel) rfl, gt_at 4 (by decide +kernel) rfl, gt_at 424 (by decide +kernel) rfl, by decide +kernel, by decide +kernel, by decide +kernel⟩
abbrev MX2_longestRound : MI := (yX2_longestRound, cX2_longestRound, 4, (some .int))
abbrev rmX2_longestRound : Room := { frames := 5, cells := 0, slots := 0, locals := 110 }
def tabX2_longestRound : List (Nat × TE) := [(0, .aload_n 0, 1, 0, 0), (1, .aload_n 1, 1, 0, 0), (2, .invokevirtual 18, 3, 0, 0), (5, .bipush (-6), 2, (-6), 0), (7, .istore_n 2, 1, 0, 0), (8, .iconst 0, 1, 0, 0), (9, .istore_n 3, 1, 0, 0), (10, .iload_n 3, 1, 0, 0), (11, .bipush 6, 2, 6, 0), (13, .if_icmp .ge 28, 3, 0, 0), (16, .aload_n 0, 1, 0, 0), (17, .iload_n 3, 1, 0, 0), (18, .invokevirtual 22, 3, 0, 0), (21, .iload_n 2, 1, 0, 0), (22, .aload_n 0, 1, 0, 0), (23, .aload_n 1, 1, 0, 0), (24, .iload_n 3, 1, 0, 0), (25, .invokevirtual 30, 3, 0, 0), (28, .invokevirtual 26, 3, 0, 0), (31, .invokestatic 35, 3, 0, 0), (34, .istore_n 2, 1, 0, 0), (35, .iinc 3 1, 3, 1, 0), (38, .goto (-28), 3, 0, 0), (41, .iload_n 2, 1, 0, 0), (42, .ireturn, 1, 0, 0)]
theorem tTX2_longestRound : tOK RX2 cX2_longestRound tabX2_longestRound = true := by decide +kernel
theorem hMX2_longestRound : MV MX2_longestRound 1 := ⟨gt_at 391 (by decide +kernel) rfl, gt_at 392 (by decide +kernel) rfl, gt_at 4 (by decide +kernel) rfl, gt_at 393 (by decide +kernel) rfl, by decide +kernel, by decide +kernel, by decide +kernel⟩
abbrev MX2_readNext : MI := (yX2_readNext, cX2_readNext, 3, none)
abbrev rmX2_readNext : Room := { frames := 4, cells := 0, slots := 0, locals := 88 }
def tabX2_readNext : List (Nat × TE) := [(0, .iconst 0, 1, 0, 0), (1, .istore_n 2, 1, 0, 0), (2, .iload_n 2, 1, 0, 0), (3, .bipush 6, 2, 6, 0), (5, .if_icmp .ge 20, 3, 0, 0), (8, .aload_n 0, 1, 0, 0), (9, .getfield 9, 3, 0, 0), (12, .iload_n 2, 1, 0, 0), (13, .aload_n 1, 1, 0, 0), (14, .iload_n 2, 1, 0, 0), (15, .invokevirtual 41, 3, 0, 0), (18, .iastore, 1, 0, 0), (19, .iinc 2 1, 3, 1, 0), (22, .goto (-20), 3, 0, 0), (25, .return_, 1, 0, 0)]
theorem tTX2_readNext : tOK RX2 cX2_readNext tabX2_readNext = true := by decide +kernel
theorem hMX2_readNext : MV MX2_readNext 1 := ⟨gt_at 395 (by decide +kernel) rfl, gt_at 396 (by decide +kernel) rfl, gt_at 4 (by decide +kernel) rfl, gt_at 397 (by decide +kernel) rfl, by decide +kernel, by decide +kernel, by decide +kernel⟩
abbrev MX2_followFrom : MI := (yX2_followFrom, cX2_followFrom, 5, none)
abbrev rmX2_followFrom : Room := { frames := 2, cells := 0, slots := 0, locals := 44 }
def tabX2_followFrom : List (Nat × TE) := [(0, .aload_n 0, 1, 0, 0), (1, .getfield 15, 3, 0, 0), (4, .iconst 0, 1, 0, 0), (5, .invokestatic 44, 3, 0, 0), (8, .aload_n 0, 1, 0, 0), (9, .getfield 15, 3, 0, 0), (12, .iconst 1, 1, 1, 0), (13, .iload_n 1, 1, 0, 0), (14, .ishl, 1, 0, 0), (15, .iconst 1, 1, 1, 0), (16, .iload_n 1, 1, 0, 0), (17, .ishl, 1, 0, 0), (18, .iastore, 1, 0, 0), (19, .iconst 0, 1, 0, 0), (20, .istore_n 2, 1, 0, 0), (21, .iload_n 2, 1, 0, 0), (22, .bipush 64, 2, 64, 0), (24, .if_icmp .ge 64, 3, 0, 0), (27, .iconst 0, 1, 0, 0), (28, .istore_n 3, 1, 0, 0), (29, .iload_n 3, 1, 0, 0), (30, .bipush 6, 2, 6, 0), (32, .if_icmp .ge 50, 3, 0, 0), (35, .iconst 1, 1, 1, 0), (36, .iload_n 3, 1, 0, 0), (37, .ishl, 1, 0, 0), (38, .istore 4, 2, 0, 0), (40, .iload_n 2, 1, 0, 0), (41, .iload 4, 2, 0, 0), (43, .iand, 1, 0, 0), (44, .ifCond .ne 32, 3, 0, 0), (47, .aload_n 0, 1, 0, 0), (48, .aload_n 0, 1, 0, 0), (49, .getfield 15, 3, 0, 0), (52, .iload_n 2, 1, 0, 0), (53, .iaload, 1, 0, 0), (54, .iload 4, 2, 0, 0), (56, .invokevirtual 50, 3, 0, 0), (59, .ifCond .eq 17, 3, 0, 0), (62, .aload_n 0, 1, 0, 0), (63, .getfield 15, 3, 0, 0), (66, .iload_n 2, 1, 0, 0), (67, .iload 4, 2, 0, 0), (69, .ior, 1, 0, 0), (70, .dup2, 1, 0, 0), (71, .iaload, 1, 0, 0), (72, .iload 4, 2, 0, 0), (74, .ior, 1, 0, 0), (75, .iastore, 1, 0, 0), (76, .iinc 3 1, 3, 1, 0), (79, .goto (-50), 3, 0, 0), (82, .iinc 2 1, 3, 1, 0), (85, .goto (-64), 3, 0, 0), (88, .return_, 1, 0, 0)]
theorem tTX2_followFrom : tOK RX2 cX2_followFrom tabX2_followFrom = true := by decide +kernel
theorem hMX2_followFrom : MV MX2_followFrom 1 := ⟨gt_at 400 (by decide +kernel) rfl, gt_at 401 (by decide +kernel) rfl, gt_at 4 (by decide +kernel) rfl, gt_at 402 (by decide +kernel) rfl, by decide +kernel, by decide +kernel, by decide +kernel⟩
abbrev MX2_leadsTo : MI := (yX2_leadsTo, cX2_leadsTo, 4, (some .boolean))
abbrev rmX2_leadsTo : Room := { frames := 1, cells := 0, slots := 0, locals := 21 }
def tabX2_leadsTo : List (Nat × TE) := [(0, .iconst 0, 1, 0, 0), (1, .istore_n 3, 1, 0, 0), (2, .iload_n 3, 1, 0, 0), (3, .bipush 6, 2, 6, 0), (5, .if_icmp .ge 30, 3, 0, 0), (8, .iload_n 1, 1, 0, 0), (9, .iload_n 3, 1, 0, 0), (10, .invokestatic 54, 3, 0, 0), (13, .ifCond .eq 16, 3, 0, 0), (16, .aload_n 0, 1, 0, 0), (17, .getfield 9, 3, 0, 0), (20, .iload_n 3, 1, 0, 0), (21, .iaload, 1, 0, 0), (22, .iload_n 2, 1, 0, 0), (23, .iand, 1, 0, 0), (24, .ifCond .eq 5, 3, 0, 0), (27, .iconst 1, 1, 1, 0), (28, .ireturn, 1, 0, 0), (29, .iinc 3 1, 3, 1, 0), (32, .goto (-30), 3, 0, 0), (35, .iconst 0, 1, 0, 0), (36, .ireturn, 1, 0, 0)]
theorem tTX2_leadsTo : tOK RX2 cX2_leadsTo tabX2_leadsTo = true := by decide +kernel
theorem hMX2_leadsTo : MV MX2_leadsTo 2 := ⟨gt_at 405 (by decide +kernel) rfl, gt_at 406 (by decide +kernel) rfl, gt_at 4 (by decide +kernel) rfl, gt_at 407 (by decide +kernel) rfl, by decide +kernel, by decide +kernel, by decide +kernel⟩
abbrev MX2_longestEnding : MI := (yX2_longestEnding, cX2_longestEnding, 4, (some .int))
abbrev rmX2_longestEnding : Room := { frames := 1, cells := 0, slots := 0, locals := 21 }
def tabX2_longestEnding : List (Nat × TE) := [(0, .bipush (-6), 2, (-6), 0), (2, .istore_n 2, 1, 0, 0), (3, .iconst 0, 1, 0, 0), (4, .istore_n 3, 1, 0, 0), (5, .iload_n 3, 1, 0, 0), (6, .bipush 64, 2, 64, 0), (8, .if_icmp .ge 29, 3, 0, 0), (11, .aload_n 0, 1, 0, 0), (12, .getfield 15, 3, 0, 0), (15, .iload_n 3, 1, 0, 0), (16, .iaload, 1, 0, 0), (17, .iload_n 1, 1, 0, 0), (18, .iand, 1, 0, 0), (19, .ifCond .eq 12, 3, 0, 0), (22, .iload_n 2, 1, 0, 0), (23, .iload_n 3, 1, 0, 0), (24, .invokestatic 57, 3, 0, 0), (27, .invokestatic 35, 3, 0, 0), (30, .istore_n 2, 1, 0, 0), (31, .iinc 3 1, 3, 1, 0), (34, .goto (-29), 3, 0, 0), (37, .iload_n 2, 1, 0, 0), (38, .ireturn, 1, 0, 0)]
theorem tTX2_longestEnding : tOK RX2 cX2_longestEnding tabX2_longestEnding = true := by decide +kernel
theorem hMX2_longestEnding : MV MX2_longestEnding 1 := ⟨gt_at 411 (by decide +kernel) rfl, gt_at 412 (by decide +kernel) rfl, gt_at 4 (by decide +kernel) rfl, gt_at 413 (by decide +kernel) rfl, by decide +kernel, by decide +kernel, by decide +kernel⟩
abbrev MX3_init : MI := (yX3_init, cX3_init, 1, none)
abbrev rmX3_init : Room := { frames := 1, cells := 3, slots := 228, locals := 20 }
def tabX3_init : List (Nat × TE) := [(0, .aload_n 0, 1, 0, 0), (1, .invokespecial 3, 3, 0, 0), (4, .aload_n 0, 1, 0, 0), (5, .bipush 64, 2, 64, 0), (7, .newarray .int, 2, 0, 0), (9, .putfield 9, 3, 0, 0), (12, .aload_n 0, 1, 0, 0), (13, .bipush 64, 2, 64, 0), (15, .newarray .int, 2, 0, 0), (17, .putfield 15, 3, 0, 0), (20, .aload_n 0, 1, 0, 0), (21, .bipush 100, 2, 100, 0), (23, .newarray .int, 2, 0, 0), (25, .putfield 18, 3, 0, 0), (28, .return_, 1, 0, 0)]
theorem tTX3_init : tOK RX3 cX3_init tabX3_init = true := by decide +kernel
theorem hMX3_init : MIn MX3_init 0 := ⟨gt_at 116 (by decide +kernel) rfl, gt_at 5 (by decide +kernel) rfl, gt_at 117 (by decide +kernel) rfl, rfl, rfl, by decide +kernel, by decide +kernel, by decide +kernel⟩
abbrev MX3_countWithout : MI := (yX3_countWithout, cX3_countWithout, 4, none)
abbrev rmX3_countWithout : Room := { frames := 3, cells := 0, slots := 0, locals := 71 }
def tabX3_countWithout : List (Nat × TE) := [(0, .aload_n 0, 1, 0, 0), (1, .getfield 9, 3, 0, 0), (4, .iconst 0, 1, 0, 0), (5, .invokestatic 21, 3, 0, 0), (8, .aload_n 0, 1, 0, 0), (9, .getfield 9, 3, 0, 0), (12, .iconst 0, 1, 0, 0), (13, .iconst 1, 1, 1, 0), (14, .iastore, 1, 0, 0), (15, .iconst 0, 1, 0, 0), (16, .istore_n 3, 1, 0, 0), (17, .iload_n 3, 1, 0, 0), (18, .bipush 6, 2, 6, 0), (20, .if_icmp .ge 30, 3, 0, 0), (23, .iload_n 3, 1, 0, 0), (24, .iload_n 2, 1, 0, 0), (25, .if_icmp .eq 19, 3, 0, 0), (28, .aload_n 0, 1, 0, 0), (29, .aload_n 1, 1, 0, 0), (30, .iload_n 3, 1, 0, 0), (31, .invokevirtual 27, 3, 0, 0), (34, .aload_n 0, 1, 0, 0), (35, .aload_n 1, 1, 0, 0), (36, .iload_n 3, 1, 0, 0), (37, .invokevirtual 31, 3, 0, 0), (40, .aload_n 0, 1, 0, 0), (41, .invokevirtual 34, 3, 0, 0), (44, .iinc 3 1, 3, 1, 0), (47, .goto (-30), 3, 0, 0), (50, .return_, 1, 0, 0)]
theorem tTX3_countWithout : tOK RX3 cX3_countWithout tabX3_countWithout = true := by decide +kernel
theorem hMX3_countWithout : MV MX3_countWithout 2 := ⟨gt_at 447 (by decide +kernel) rfl, gt_at 448 (by decide +kernel) rfl, gt_at 5 (by decide +kernel) rfl, gt_at 449 (by decide +kernel) rfl, by decide +kernel, by decide +kernel, by decide +kernel⟩
abbrev MX3_fillLeft : MI := (yX3_fillLeft, cX3_fillLeft, 9, none)
abbrev rmX3_fillLeft : Room := { frames := 2, cells := 0, slots := 0, locals := 43 }
def tabX3_fillLeft : List (Nat × TE) := [(0, .aload_n 0, 1, 0, 0), (1, .getfield 15, 3, 0, 0), (4, .iconst 0, 1, 0, 0), (5, .aload_n 1, 1, 0, 0), (6, .getfield 37, 3, 0, 0), (9, .iload_n 2, 1, 0, 0), (10, .iaload, 1, 0, 0), (11, .iastore, 1, 0, 0), (12, .iconst 0, 1, 0, 0), (13, .istore_n 3, 1, 0, 0), (14, .iload_n 3, 1, 0, 0), (15, .bipush 6, 2, 6, 0), (17, .if_icmp .ge 106, 3, 0, 0), (20, .aload_n 1, 1, 0, 0), (21, .iload_n 3, 1, 0, 0), (22, .iload_n 2, 1, 0, 0), (23, .invokevirtual 42, 3, 0, 0), (26, .ifCond .ne 7, 3, 0, 0), (29, .iconst 1, 1, 1, 0), (30, .goto 4, 3, 0, 0), (33, .iconst 0, 1, 0, 0), (34, .istore 4, 2, 0, 0), (36, .iconst 1, 1, 1, 0), (37, .iload_n 3, 1, 0, 0), (38, .ishl, 1, 0, 0), (39, .istore 5, 2, 0, 0), (41, .iconst 0, 1, 0, 0), (42, .istore 6, 2, 0, 0), (44, .iload 6, 2, 0, 0), (46, .iload 5, 2, 0, 0), (48, .if_icmp .ge 69, 3, 0, 0), (51, .aload_n 0, 1, 0, 0), (52, .getfield 15, 3, 0, 0), (55, .iload 6, 2, 0, 0), (57, .iaload, 1, 0, 0), (58, .istore 7, 2, 0, 0), (60, .iload 4, 2, 0, 0), (62, .ifCond .eq 12, 3, 0, 0), (65, .iload 7, 2, 0, 0), (67, .ifCond .le 7, 3, 0, 0), (70, .iconst 1, 1, 1, 0), (71, .goto 4, 3, 0, 0), (74, .iconst 0, 1, 0, 0), (75, .istore 8, 2, 0, 0), (77, .aload_n 0, 1, 0, 0), (78, .getfield 15, 3, 0, 0), (81, .iload 6, 2, 0, 0), (83, .iload 5, 2, 0, 0), (85, .ior, 1, 0, 0), (86, .iload 8, 2, 0, 0), (88, .ifCond .eq 20, 3, 0, 0), (91, .iload 7, 2, 0, 0), (93, .iload 7, 2, 0, 0), (95, .aload_n 1, 1, 0, 0), (96, .getfield 46, 3, 0, 0), (99, .iload_n 3, 1, 0, 0), (100, .iaload, 1, 0, 0), (101, .invokestatic 49, 3, 0, 0), (104, .isub, 1, 0, 0), (105, .goto 5, 3, 0, 0), (108, .bipush (-6), 2, (-6), 0), (110, .iastore, 1, 0, 0), (111, .iinc 6 1, 3, 1, 0), (114, .goto (-70), 3, 0, 0), (117, .iinc 3 1, 3, 1, 0), (120, .goto (-106), 3, 0, 0), (123, .return_, 1, 0, 0)]
theorem tTX3_fillLeft : tOK RX3 cX3_fillLeft tabX3_fillLeft = true := by decide +kernel
theorem hMX3_fillLeft : MV MX3_fillLeft 2 := ⟨gt_at 452 (by decide +kernel) rfl, gt_at 453 (by decide +kernel) rfl, gt_at 5 (by decide +kernel) rfl, gt_at 454 (by decide +kernel) rfl, by decide +kernel, by decide +kernel, by decide +kernel⟩
abbrev MX3_keepFitting : MI := (yX3_keepFitting, cX3_keepFitting, 4, none)
abbrev rmX3_keepFitting : Room := { frames := 2, cells := 0, slots := 0, locals := 45 }
def tabX3_keepFitting : List (Nat × TE) := [(0, .iconst 0, 1, 0, 0), (1, .istore_n 3, 1, 0, 0), (2, .iload_n 3, 1, 0, 0), (3, .bipush 64, 2, 64, 0), (5, .if_icmp .ge 40, 3, 0, 0), (8, .aload_n 0, 1, 0, 0), (9, .getfield 15, 3, 0, 0), (12, .iload_n 3, 1, 0, 0), (13, .iaload, 1, 0, 0), (14, .ifCond .lt 25, 3, 0, 0), (17, .aload_n 1, 1, 0, 0), (18, .iload_n 2, 1, 0, 0), (19, .aload_n 0, 1, 0, 0), (20, .getfield 15, 3, 0, 0), (23, .iload_n 3, 1, 0, 0), (24, .iaload, 1, 0, 0), (25, .invokevirtual 54, 3, 0, 0), (28, .ifCond .ne 11, 3, 0, 0), (31, .aload_n 0, 1, 0, 0), (32, .getfield 15, 3, 0, 0), (35, .iload_n 3, 1, 0, 0), (36, .bipush (-6), 2, (-6), 0), (38, .iastore, 1, 0, 0), (39, .iinc 3 1, 3, 1, 0), (42, .goto (-40), 3, 0, 0), (45, .return_, 1, 0, 0)]
theorem tTX3_keepFitting : tOK RX3 cX3_keepFitting tabX3_keepFitting = true := by decide +kernel
theorem hMX3_keepFitting : MV MX3_keepFitting 2 := ⟨gt_at 458 (by decide +kernel) rfl, gt_at 459 (by decide +kernel) rfl, gt_at 5 (by decide +kernel) rfl, gt_at 460 (by decide +kernel) rfl, by decide +kernel, by decide +kernel, by decide +kernel⟩
abbrev MX3_spread : MI := (yX3_spread, cX3_spread, 4, none)
abbrev rmX3_spread : Room := { frames := 0, cells := 0, slots := 0, locals := 0 }
def tabX3_spread : List (Nat × TE) := [(0, .bipush 63, 2, 63, 0), (2, .istore_n 1, 1, 0, 0), (3, .iload_n 1, 1, 0, 0), (4, .ifCond .lt 71, 3, 0, 0), (7, .aload_n 0, 1, 0, 0), (8, .getfield 15, 3, 0, 0), (11, .iconst 0, 1, 0, 0), (12, .iaload, 1, 0, 0), (13, .ifCond .lt 12, 3, 0, 0), (16, .aload_n 0, 1, 0, 0), (17, .getfield 9, 3, 0, 0), (20, .iload_n 1, 1, 0, 0), (21, .iaload, 1, 0, 0), (22, .goto 4, 3, 0, 0), (25, .iconst 0, 1, 0, 0), (26, .istore_n 2, 1, 0, 0), (27, .iload_n 1, 1, 0, 0), (28, .istore_n 3, 1, 0, 0), (29, .iload_n 3, 1, 0, 0), (30, .ifCond .le 32, 3, 0, 0), (33, .aload_n 0, 1, 0, 0), (34, .getfield 15, 3, 0, 0), (37, .iload_n 3, 1, 0, 0), (38, .iaload, 1, 0, 0), (39, .ifCond .lt 14, 3, 0, 0), (42, .iload_n 2, 1, 0, 0), (43, .aload_n 0, 1, 0, 0), (44, .getfield 9, 3, 0, 0), (47, .iload_n 1, 1, 0, 0), (48, .iload_n 3, 1, 0, 0), (49, .ixor, 1, 0, 0), (50, .iaload, 1, 0, 0), (51, .iadd, 1, 0, 0), (52, .istore_n 2, 1, 0, 0), (53, .iload_n 3, 1, 0, 0), (54, .iconst 1, 1, 1, 0), (55, .isub, 1, 0, 0), (56, .iload_n 1, 1, 0, 0), (57, .iand, 1, 0, 0), (58, .istore_n 3, 1, 0, 0), (59, .goto (-30), 3, 0, 0), (62, .aload_n 0, 1, 0, 0), (63, .getfield 9, 3, 0, 0), (66, .iload_n 1, 1, 0, 0), (67, .iload_n 2, 1, 0, 0), (68, .iastore, 1, 0, 0), (69, .iinc 1 (-1), 3, (-1), 0), (72, .goto (-69), 3, 0, 0), (75, .return_, 1, 0, 0)]
theorem tTX3_spread : tOK RX3 cX3_spread tabX3_spread = true := by decide +kernel
theorem hMX3_spread : MV MX3_spread 0 := ⟨gt_at 466 (by decide +kernel) rfl, gt_at 467 (by decide +kernel) rfl, gt_at 5 (by decide +kernel) rfl, gt_at 468 (by decide +kernel) rfl, by decide +kernel, by decide +kernel, by decide +kernel⟩
abbrev MX3_total : MI := (yX3_total, cX3_total, 1, (some .int))
abbrev rmX3_total : Room := { frames := 1, cells := 0, slots := 0, locals := 23 }
def tabX3_total : List (Nat × TE) := [(0, .aload_n 0, 1, 0, 0), (1, .bipush 63, 2, 63, 0), (3, .invokevirtual 58, 3, 0, 0), (6, .ireturn, 1, 0, 0)]
theorem tTX3_total : tOK RX3 cX3_total tabX3_total = true := by decide +kernel
theorem hMX3_total : MV MX3_total 0 := ⟨gt_at 470 (by decide +kernel) rfl, gt_at 471 (by decide +kernel) rfl, gt_at 5 (by decide +kernel) rfl, gt_at 472 (by decide +kernel) rfl, by decide +kernel, by decide +kernel, by decide +kernel⟩
abbrev MX3_waysWithin : MI := (yX3_waysWithin, cX3_waysWithin, 4, (some .int))
abbrev rmX3_waysWithin : Room := { frames := 0, cells := 0, slots := 0, locals := 0 }
def tabX3_waysWithin : List (Nat × TE) := [(0, .iconst 0, 1, 0, 0), (1, .istore_n 2, 1, 0, 0), (2, .iconst 0, 1, 0, 0), (3, .istore_n 3, 1, 0, 0), (4, .iload_n 3, 1, 0, 0), (5, .bipush 64, 2, 64, 0), (7, .if_icmp .ge 26, 3, 0, 0), (10, .iload_n 3, 1, 0, 0), (11, .iload_n 1, 1, 0, 0), (12, .iconst (-1), 1, (-1), 0), (13, .ixor, 1, 0, 0), (14, .iand, 1, 0, 0), (15, .ifCond .ne 12, 3, 0, 0), (18, .iload_n 2, 1, 0, 0), (19, .aload_n 0, 1, 0, 0), (20, .getfield 9, 3, 0, 0), (23, .iload_n 3, 1, 0, 0), (24, .iaload, 1, 0, 0), (25, .iadd, 1, 0, 0), (26, .istore_n 2, 1, 0, 0), (27, .iinc 3 1, 3, 1, 0), (30, .goto (-26), 3, 0, 0), (33, .iload_n 2, 1, 0, 0), (34, .ireturn, 1, 0, 0)]
theorem tTX3_waysWithin : tOK RX3 cX3_waysWithin tabX3_waysWithin = true := by decide +kernel
theorem hMX3_waysWithin : MV MX3_waysWithin 1 := ⟨gt_at 474 (by decide +kernel) rfl, gt_at 475 (by decide +kernel) rfl, gt_at 5 (by decide +kernel) rfl, gt_at 476 (by decide +kernel) rfl, by decide +kernel, by decide +kernel, by decide +kernel⟩
abbrev MX3_outInSome : MI := (yX3_outInSome, cX3_outInSome, 3, (some .int))
abbrev rmX3_outInSome : Room := { frames := 0, cells := 0, slots := 0, locals := 0 }
def tabX3_outInSome : List (Nat × TE) := [(0, .iconst 0, 1, 0, 0), (1, .istore_n 1, 1, 0, 0), (2, .iconst 0, 1, 0, 0), (3, .istore_n 2, 1, 0, 0), (4, .iload_n 2, 1, 0, 0), (5, .bipush 64, 2, 64, 0), (7, .if_icmp .ge 22, 3, 0, 0), (10, .aload_n 0, 1, 0, 0), (11, .getfield 9, 3, 0, 0), (14, .iload_n 2, 1, 0, 0), (15, .iaload, 1, 0, 0), (16, .ifCond .le 7, 3, 0, 0), (19, .iload_n 1, 1, 0, 0), (20, .iload_n 2, 1, 0, 0), (21, .ior, 1, 0, 0), (22, .istore_n 1, 1, 0, 0), (23, .iinc 2 1, 3, 1, 0), (26, .goto (-22), 3, 0, 0), (29, .iload_n 1, 1, 0, 0), (30, .ireturn, 1, 0, 0)]
theorem tTX3_outInSome : tOK RX3 cX3_outInSome tabX3_outInSome = true := by decide +kernel
theorem hMX3_outInSome : MV MX3_outInSome 0 := ⟨gt_at 478 (by decide +kernel) rfl, gt_at 479 (by decide +kernel) rfl, gt_at 5 (by decide +kernel) rfl, gt_at 480 (by decide +kernel) rfl, by decide +kernel, by decide +kernel, by decide +kernel⟩
abbrev MX3_outInAll : MI := (yX3_outInAll, cX3_outInAll, 3, (some .int))
abbrev rmX3_outInAll : Room := { frames := 2, cells := 0, slots := 0, locals := 43 }
def tabX3_outInAll : List (Nat × TE) := [(0, .bipush 63, 2, 63, 0), (2, .istore_n 1, 1, 0, 0), (3, .iconst 0, 1, 0, 0), (4, .istore_n 2, 1, 0, 0), (5, .iload_n 2, 1, 0, 0), (6, .bipush 64, 2, 64, 0), (8, .if_icmp .ge 22, 3, 0, 0), (11, .aload_n 0, 1, 0, 0), (12, .getfield 9, 3, 0, 0), (15, .iload_n 2, 1, 0, 0), (16, .iaload, 1, 0, 0), (17, .ifCond .le 7, 3, 0, 0), (20, .iload_n 1, 1, 0, 0), (21, .iload_n 2, 1, 0, 0), (22, .iand, 1, 0, 0), (23, .istore_n 1, 1, 0, 0), (24, .iinc 2 1, 3, 1, 0), (27, .goto (-22), 3, 0, 0), (30, .aload_n 0, 1, 0, 0), (31, .invokevirtual 62, 3, 0, 0), (34, .ifCond .ne 7, 3, 0, 0), (37, .iconst 0, 1, 0, 0), (38, .goto 4, 3, 0, 0), (41, .iload_n 1, 1, 0, 0), (42, .ireturn, 1, 0, 0)]
theorem tTX3_outInAll : tOK RX3 cX3_outInAll tabX3_outInAll = true := by decide +kernel
theorem hMX3_outInAll : MV MX3_outInAll 0 := ⟨gt_at 482 (by decide +kernel) rfl, gt_at 483 (by decide +kernel) rfl, gt_at 5 (by decide +kernel) rfl, gt_at 484 (by decide +kernel) rfl, by decide +kernel, by decide +kernel, by decide +kernel⟩
abbrev MX3_mostLeftBy : MI := (yX3_mostLeftBy, cX3_mostLeftBy, 6, (some .int))
abbrev rmX3_mostLeftBy : Room := { frames := 4, cells := 0, slots := 0, locals := 94 }
def tabX3_mostLeftBy : List (Nat × TE) := [(0, .aload_n 0, 1, 0, 0), (1, .aload_n 1, 1, 0, 0), (2, .iload_n 2, 1, 0, 0), (3, .invokevirtual 66, 3, 0, 0), (6, .aload_n 0, 1, 0, 0), (7, .aload_n 1, 1, 0, 0), (8, .iload_n 2, 1, 0, 0), (9, .invokevirtual 27, 3, 0, 0), (12, .aload_n 0, 1, 0, 0), (13, .getfield 18, 3, 0, 0), (16, .iconst 0, 1, 0, 0), (17, .invokestatic 21, 3, 0, 0), (20, .iconst 0, 1, 0, 0), (21, .istore_n 3, 1, 0, 0), (22, .iconst 0, 1, 0, 0), (23, .istore 4, 2, 0, 0), (25, .iload 4, 2, 0, 0), (27, .bipush 64, 2, 64, 0), (29, .if_icmp .ge 59, 3, 0, 0), (32, .aload_n 0, 1, 0, 0), (33, .getfield 15, 3, 0, 0), (36, .iload 4, 2, 0, 0), (38, .iaload, 1, 0, 0), (39, .istore 5, 2, 0, 0), (41, .iload 5, 2, 0, 0), (43, .iconst 0, 1, 0, 0), (44, .bipush 99, 2, 99, 0), (46, .invokestatic 69, 3, 0, 0), (49, .ifCond .eq 33, 3, 0, 0), (52, .aload_n 0, 1, 0, 0), (53, .getfield 18, 3, 0, 0), (56, .iload 5, 2, 0, 0), (58, .dup2, 1, 0, 0), (59, .iaload, 1, 0, 0), (60, .aload_n 0, 1, 0, 0), (61, .iload 4, 2, 0, 0), (63, .iconst (-1), 1, (-1), 0), (64, .ixor, 1, 0, 0), (65, .invokevirtual 58, 3, 0, 0), (68, .iadd, 1, 0, 0), (69, .iastore, 1, 0, 0), (70, .iload_n 3, 1, 0, 0), (71, .aload_n 0, 1, 0, 0), (72, .getfield 18, 3, 0, 0), (75, .iload 5, 2, 0, 0), (77, .iaload, 1, 0, 0), (78, .invokestatic 73, 3, 0, 0), (81, .istore_n 3, 1, 0, 0), (82, .iinc 4 1, 3, 1, 0), (85, .goto (-60), 3, 0, 0), (88, .iload_n 3, 1, 0, 0), (89, .ireturn, 1, 0, 0)]
theorem tTX3_mostLeftBy : tOK RX3 cX3_mostLeftBy tabX3_mostLeftBy = true := by decide +kernel
theorem hMX3_mostLeftBy : MV MX3_mostLeftBy 2 := ⟨gt_at 495 (by decide +kernel) rfl, gt_at 496 (by decide +kernel) rfl, gt_at 5 (by decide +kernel) rfl, gt_at 497 (by decide +kernel) rfl, by decide +kernel, by decide +kernel, by decide +kernel⟩
abbrev MX4_init : MI := (yX4_init, cX4_init, 1, none)
abbrev rmX4_init : Room := { frames := 1, cells := 1, slots := 64, locals := 20 }
def tabX4_init : List (Nat × TE) := [(0, .aload_n 0, 1, 0, 0), (1, .invokespecial 3, 3, 0, 0), (4, .aload_n 0, 1, 0, 0), (5, .bipush 64, 2, 64, 0), (7, .newarray .int, 2, 0, 0), (9, .putfield 9, 3, 0, 0), (12, .aload_n 0, 1, 0, 0), (13, .iconst 0, 1, 0, 0), (14, .putfield 15, 3, 0, 0), (17, .aload_n 0, 1, 0, 0), (18, .bipush (-6), 2, (-6), 0), (20, .putfield 19, 3, 0, 0), (23, .return_, 1, 0, 0)]
theorem tTX4_init : tOK RX4 cX4_init tabX4_init = true := by decide +kernel
theorem hMX4_init : MIn MX4_init 0 := ⟨gt_at 132 (by decide +kernel) rfl, gt_at 6 (by decide +kernel) rfl, gt_at 133 (by decide +kernel) rfl, rfl, rfl, by decide +kernel, by decide +kernel, by decide +kernel⟩
abbrev MX4_play : MI := (yX4_play, cX4_play, 8, none)
abbrev rmX4_play : Room := { frames := 3, cells := 0, slots := 0, locals := 68 }
def tabX4_play : List (Nat × TE) := [(0, .iload 4, 2, 0, 0), (2, .invokestatic 22, 3, 0, 0), (5, .istore 5, 2, 0, 0), (7, .aload_n 0, 1, 0, 0), (8, .iconst 0, 1, 0, 0), (9, .putfield 15, 3, 0, 0), (12, .aload_n 0, 1, 0, 0), (13, .bipush (-6), 2, (-6), 0), (15, .putfield 19, 3, 0, 0), (18, .aload_n 0, 1, 0, 0), (19, .getfield 9, 3, 0, 0), (22, .iconst 0, 1, 0, 0), (23, .iconst 0, 1, 0, 0), (24, .iastore, 1, 0, 0), (25, .iconst 1, 1, 1, 0), (26, .istore 6, 2, 0, 0), (28, .iload 6, 2, 0, 0), (30, .bipush 64, 2, 64, 0), (32, .if_icmp .ge 56, 3, 0, 0), (35, .iload 6, 2, 0, 0), (37, .iload 4, 2, 0, 0), (39, .iconst (-1), 1, (-1), 0), (40, .ixor, 1, 0, 0), (41, .iand, 1, 0, 0), (42, .ifCond .ne 40, 3, 0, 0), (45, .iload 5, 2, 0, 0), (47, .iload 6, 2, 0, 0), (49, .invokestatic 22, 3, 0, 0), (52, .isub, 1, 0, 0), (53, .iconst 2, 1, 2, 0), (54, .irem, 1, 0, 0), (55, .ifCond .ne 7, 3, 0, 0), (58, .iconst 1, 1, 1, 0), (59, .goto 4, 3, 0, 0), (62, .iconst 0, 1, 0, 0), (63, .istore 7, 2, 0, 0), (65, .aload_n 0, 1, 0, 0), (66, .aload_n 1, 1, 0, 0), (67, .iload 7, 2, 0, 0), (69, .ifCond .eq 7, 3, 0, 0), (72, .iload_n 2, 1, 0, 0), (73, .goto 4, 3, 0, 0), (76, .iload_n 3, 1, 0, 0), (77, .iload 6, 2, 0, 0), (79, .invokevirtual 28, 3, 0, 0), (82, .iinc 6 1, 3, 1, 0), (85, .goto (-57), 3, 0, 0), (88, .return_, 1, 0, 0)]
theorem tTX4_play : tOK RX4 cX4_play tabX4_play = true := by decide +kernel
theorem hMX4_play : MV MX4_play 4 := ⟨gt_at 506 (by decide +kernel) rfl, gt_at 507 (by decide +kernel) rfl, gt_at 6 (by decide +kernel) rfl, gt_at 508 (by decide +kernel) rfl, by decide +kernel, by decide +kernel, by decide +kernel⟩
abbrev MX4_takeBest : MI := (yX4_takeBest, cX4_takeBest, 6, none)
abbrev rmX4_takeBest : Room := { frames := 2, cells := 0, slots := 0, locals := 43 }
def tabX4_takeBest : List (Nat × TE) := [(0, .aload_n 0, 1, 0, 0), (1, .bipush (-6), 2, (-6), 0), (3, .putfield 19, 3, 0, 0), (6, .iconst 0, 1, 0, 0), (7, .istore 4, 2, 0, 0), (9, .iload 4, 2, 0, 0), (11, .bipush 6, 2, 6, 0), (13, .if_icmp .ge 69, 3, 0, 0), (16, .iload_n 3, 1, 0, 0), (17, .iload 4, 2, 0, 0), (19, .invokestatic 32, 3, 0, 0), (22, .ifCond .eq 54, 3, 0, 0), (25, .aload_n 1, 1, 0, 0), (26, .iload_n 2, 1, 0, 0), (27, .iload 4, 2, 0, 0), (29, .invokevirtual 38, 3, 0, 0), (32, .aload_n 0, 1, 0, 0), (33, .getfield 9, 3, 0, 0), (36, .iload_n 3, 1, 0, 0), (37, .iconst 1, 1, 1, 0), (38, .iload 4, 2, 0, 0), (40, .ishl, 1, 0, 0), (41, .ixor, 1, 0, 0), (42, .iaload, 1, 0, 0), (43, .isub, 1, 0, 0), (44, .istore 5, 2, 0, 0), (46, .aload_n 0, 1, 0, 0), (47, .getfield 19, 3, 0, 0), (50, .bipush (-6), 2, (-6), 0), (52, .if_icmp .eq 12, 3, 0, 0), (55, .iload 5, 2, 0, 0), (57, .aload_n 0, 1, 0, 0), (58, .getfield 15, 3, 0, 0), (61, .if_icmp .le 15, 3, 0, 0), (64, .aload_n 0, 1, 0, 0), (65, .iload 5, 2, 0, 0), (67, .putfield 15, 3, 0, 0), (70, .aload_n 0, 1, 0, 0), (71, .iload 4, 2, 0, 0), (73, .putfield 19, 3, 0, 0), (76, .iinc 4 1, 3, 1, 0), (79, .goto (-70), 3, 0, 0), (82, .aload_n 0, 1, 0, 0), (83, .getfield 9, 3, 0, 0), (86, .iload_n 3, 1, 0, 0), (87, .aload_n 0, 1, 0, 0), (88, .getfield 15, 3, 0, 0), (91, .iastore, 1, 0, 0), (92, .return_, 1, 0, 0)]
theorem tTX4_takeBest : tOK RX4 cX4_takeBest tabX4_takeBest = true := by decide +kernel
theorem hMX4_takeBest : MV MX4_takeBest 3 := ⟨gt_at 511 (by decide +kernel) rfl, gt_at 512 (by decide +kernel) rfl, gt_at 6 (by decide +kernel) rfl, gt_at 513 (by decide +kernel) rfl, by decide +kernel, by decide +kernel, by decide +kernel⟩
abbrev MX5_init : MI := (yX5_init, cX5_init, 1, none)
abbrev rmX5_init : Room := { frames := 2, cells := 28, slots := 1000, locals := 40 }
def tabX5_init : List (Nat × TE) := [(0, .aload_n 0, 1, 0, 0), (1, .invokespecial 3, 3, 0, 0), (4, .aload_n 0, 1, 0, 0), (5, .new 9, 3, 0, 0), (8, .dup, 1, 0, 0), (9, .invokespecial 11, 3, 0, 0), (12, .putfield 12, 3, 0, 0), (15, .aload_n 0, 1, 0, 0), (16, .new 9, 3, 0, 0), (19, .dup, 1, 0, 0), (20, .invokespecial 11, 3, 0, 0), (23, .putfield 16, 3, 0, 0), (26, .aload_n 0, 1, 0, 0), (27, .iconst 2, 1, 2, 0), (28, .anewarray 9, 3, 0, 0), (31, .putfield 19, 3, 0, 0), (34, .aload_n 0, 1, 0, 0), (35, .new 23, 3, 0, 0), (38, .dup, 1, 0, 0), (39, .invokespecial 25, 3, 0, 0), (42, .putfield 26, 3, 0, 0), (45, .aload_n 0, 1, 0, 0), (46, .new 30, 3, 0, 0), (49, .dup, 1, 0, 0), (50, .invokespecial 32, 3, 0, 0), (53, .putfield 33, 3, 0, 0), (56, .aload_n 0, 1, 0, 0), (57, .new 37, 3, 0, 0), (60, .dup, 1, 0, 0), (61, .invokespecial 39, 3, 0, 0), (64, .putfield 40, 3, 0, 0), (67, .aload_n 0, 1, 0, 0), (68, .new 44, 3, 0, 0), (71, .dup, 1, 0, 0), (72, .invokespecial 46, 3, 0, 0), (75, .putfield 47, 3, 0, 0), (78, .return_, 1, 0, 0)]
theorem tTX5_init : tOK RX5 cX5_init tabX5_init = true := by decide +kernel
theorem hMX5_init : MIn MX5_init 0 := ⟨gt_at 15 (by decide +kernel) rfl, gt_at 1 (by decide +kernel) rfl, gt_at 16 (by decide +kernel) rfl, rfl, rfl, by decide +kernel, by decide +kernel, by decide +kernel⟩
abbrev MX5_neighbour : MI := (yX5_neighbour, cX5_neighbour, 4, (some .int))
abbrev rmX5_neighbour : Room := { frames := 2, cells := 0, slots := 0, locals := 40 }
def tabX5_neighbour : List (Nat × TE) := [(0, .iload_n 1, 1, 0, 0), (1, .iconst 0, 1, 0, 0), (2, .iconst 5, 1, 5, 0), (3, .invokestatic 51, 3, 0, 0), (6, .ifCond .ne 5, 3, 0, 0), (9, .iconst (-1), 1, (-1), 0), (10, .ireturn, 1, 0, 0), (11, .iload_n 2, 1, 0, 0), (12, .iconst 0, 1, 0, 0), (13, .bipush 99, 2, 99, 0), (15, .invokestatic 51, 3, 0, 0), (18, .ifCond .eq 13, 3, 0, 0), (21, .iload_n 3, 1, 0, 0), (22, .iconst 1, 1, 1, 0), (23, .bipush 20, 2, 20, 0), (25, .invokestatic 51, 3, 0, 0), (28, .ifCond .ne 6, 3, 0, 0), (31, .bipush (-2), 2, (-2), 0), (33, .ireturn, 1, 0, 0), (34, .aload_n 0, 1, 0, 0), (35, .getfield 12, 3, 0, 0), (38, .iload_n 1, 1, 0, 0), (39, .iload_n 2, 1, 0, 0), (40, .iload_n 3, 1, 0, 0), (41, .invokevirtual 55, 3, 0, 0), (44, .aload_n 0, 1, 0, 0), (45, .getfield 12, 3, 0, 0), (48, .invokevirtual 59, 3, 0, 0), (51, .ireturn, 1, 0, 0)]
theorem tTX5_neighbour : tOK RX5 cX5_neighbour tabX5_neighbour = true := by decide +kernel
theorem hMX5_neighbour : MV MX5_neighbour 3 := ⟨gt_at 170 (by decide +kernel) rfl, gt_at 171 (by decide +kernel) rfl, gt_at 1 (by decide +kernel) rfl, gt_at 172 (by decide +kernel) rfl, by decide +kernel, by decide +kernel, by decide +kernel⟩
abbrev MX5_move : MI := (yX5_move, cX5_move, 2, (some .int))
abbrev rmX5_move : Room := { frames := 2, cells := 0, slots := 0, locals := 40 }
def tabX5_move : List (Nat × TE) := [(0, .aload_n 0, 1, 0, 0), (1, .getfield 12, 3, 0, 0), (4, .iload_n 1, 1, 0, 0), (5, .invokevirtual 63, 3, 0, 0), (8, .ifCond .ne 5, 3, 0, 0), (11, .iconst (-1), 1, (-1), 0), (12, .ireturn, 1, 0, 0), (13, .aload_n 0, 1, 0, 0), (14, .getfield 12, 3, 0, 0), (17, .iload_n 1, 1, 0, 0), (18, .invokevirtual 67, 3, 0, 0), (21, .aload_n 0, 1, 0, 0), (22, .getfield 12, 3, 0, 0), (25, .invokevirtual 59, 3, 0, 0), (28, .ireturn, 1, 0, 0)]
theorem tTX5_move : tOK RX5 cX5_move tabX5_move = true := by decide +kernel
theorem hMX5_move : MV MX5_move 1 := ⟨gt_at 191 (by decide +kernel) rfl, gt_at 192 (by decide +kernel) rfl, gt_at 1 (by decide +kernel) rfl, gt_at 193 (by decide +kernel) rfl, by decide +kernel, by decide +kernel, by decide +kernel⟩
abbrev MX5_frost : MI := (yX5_frost, cX5_frost, 3, (some .int))
abbrev rmX5_frost : Room := { frames := 1, cells := 0, slots := 0, locals := 22 }
def tabX5_frost : List (Nat × TE) := [(0, .iload_n 1, 1, 0, 0), (1, .iconst 0, 1, 0, 0), (2, .bipush 30, 2, 30, 0), (4, .invokestatic 51, 3, 0, 0), (7, .ifCond .ne 6, 3, 0, 0), (10, .bipush (-2), 2, (-2), 0), (12, .ireturn, 1, 0, 0), (13, .aload_n 0, 1, 0, 0), (14, .getfield 12, 3, 0, 0), (17, .getfield 71, 3, 0, 0), (20, .istore_n 2, 1, 0, 0), (21, .aload_n 0, 1, 0, 0), (22, .getfield 12, 3, 0, 0), (25, .iload_n 1, 1, 0, 0), (26, .putfield 71, 3, 0, 0), (29, .iload_n 2, 1, 0, 0), (30, .ireturn, 1, 0, 0)]
theorem tTX5_frost : tOK RX5 cX5_frost tabX5_frost = true := by decide +kernel
theorem hMX5_frost : MV MX5_frost 1 := ⟨gt_at 203 (by decide +kernel) rfl, gt_at 204 (by decide +kernel) rfl, gt_at 1 (by decide +kernel) rfl, gt_at 205 (by decide +kernel) rfl, by decide +kernel, by decide +kernel, by decide +kernel⟩
abbrev MX5_say : MI := (yX5_say, cX5_say, 2, (some .int))
abbrev rmX5_say : Room := { frames := 1, cells := 0, slots := 0, locals := 22 }
def tabX5_say : List (Nat × TE) := [(0, .iload_n 1, 1, 0, 0), (1, .bipush 33, 2, 33, 0), (3, .bipush 126, 2, 126, 0), (5, .invokestatic 51, 3, 0, 0), (8, .ifCond .ne 6, 3, 0, 0), (11, .bipush (-2), 2, (-2), 0), (13, .ireturn, 1, 0, 0), (14, .aload_n 0, 1, 0, 0), (15, .getfield 26, 3, 0, 0), (18, .iload_n 1, 1, 0, 0), (19, .invokevirtual 75, 3, 0, 0), (22, .ifCond .eq 13, 3, 0, 0), (25, .aload_n 0, 1, 0, 0), (26, .getfield 26, 3, 0, 0), (29, .getfield 78, 3, 0, 0), (32, .goto 5, 3, 0, 0), (35, .bipush (-4), 2, (-4), 0), (37, .ireturn, 1, 0, 0)]
theorem tTX5_say : tOK RX5 cX5_say tabX5_say = true := by decide +kernel
theorem hMX5_say : MV MX5_say 1 := ⟨gt_at 207 (by decide +kernel) rfl, gt_at 208 (by decide +kernel) rfl, gt_at 1 (by decide +kernel) rfl, gt_at 209 (by decide +kernel) rfl, by decide +kernel, by decide +kernel, by decide +kernel⟩
abbrev MX5_wipe : MI := (yX5_wipe, cX5_wipe, 2, (some .int))
abbrev rmX5_wipe : Room := { frames := 0, cells := 0, slots := 0, locals := 0 }
def tabX5_wipe : List (Nat × TE) := [(0, .aload_n 0, 1, 0, 0), (1, .getfield 26, 3, 0, 0), (4, .getfield 78, 3, 0, 0), (7, .istore_n 1, 1, 0, 0), (8, .aload_n 0, 1, 0, 0), (9, .getfield 26, 3, 0, 0), (12, .iconst 0, 1, 0, 0), (13, .putfield 78, 3, 0, 0), (16, .iload_n 1, 1, 0, 0), (17, .ireturn, 1, 0, 0)]
theorem tTX5_wipe : tOK RX5 cX5_wipe tabX5_wipe = true := by decide +kernel
theorem hMX5_wipe : MV MX5_wipe 0 := ⟨gt_at 215 (by decide +kernel) rfl, gt_at 216 (by decide +kernel) rfl, gt_at 1 (by decide +kernel) rfl, gt_at 217 (by decide +kernel) rfl, by decide +kernel, by decide +kernel, by decide +kernel⟩
abbrev MX5_fault : MI := (yX5_fault, cX5_fault, 1, (some .int))
abbrev rmX5_fault : Room := { frames := 4, cells := 0, slots := 0, locals := 86 }
def tabX5_fault : List (Nat × TE) := [(0, .aload_n 0, 1, 0, 0), (1, .getfield 26, 3, 0, 0), (4, .invokevirtual 81, 3, 0, 0), (7, .ireturn, 1, 0, 0)]
theorem tTX5_fault : tOK RX5 cX5_fault tabX5_fault = true := by decide +kernel
theorem hMX5_fault : MV MX5_fault 0 := ⟨gt_at 219 (by decide +kernel) rfl, gt_at 220 (by decide +kernel) rfl, gt_at 1 (by decide +kernel) rfl, gt_at 221 (by decide +kernel) rfl, by decide +kernel, by decide +kernel, by decide +kernel⟩
abbrev MX5_judge : MI := (yX5_judge, cX5_judge, 2, (some .int))
abbrev rmX5_judge : Room := { frames := 6, cells := 0, slots := 0, locals := 135 }
def tabX5_judge : List (Nat × TE) := [(0, .iload_n 1, 1, 0, 0), (1, .iconst 0, 1, 0, 0), (2, .iconst 1, 1, 1, 0), (3, .invokestatic 51, 3, 0, 0), (6, .ifCond .ne 6, 3, 0, 0), (9, .bipush (-2), 2, (-2), 0), (11, .ireturn, 1, 0, 0), (12, .aload_n 0, 1, 0, 0), (13, .getfield 26, 3, 0, 0), (16, .invokevirtual 81, 3, 0, 0), (19, .bipush (-6), 2, (-6), 0), (21, .if_icmp .eq 6, 3, 0, 0), (24, .bipush (-5), 2, (-5), 0), (26, .ireturn, 1, 0, 0), (27, .aload_n 0, 1, 0, 0), (28, .invokevirtual 84, 3, 0, 0), (31, .ifCond .eq 6, 3, 0, 0), (34, .bipush (-6), 2, (-6), 0), (36, .ireturn, 1, 0, 0), (37, .iload_n 1, 1, 0, 0), (38, .ifCond .ne 13, 3, 0, 0), (41, .aload_n 0, 1, 0, 0), (42, .getfield 26, 3, 0, 0), (45, .getfield 88, 3, 0, 0), (48, .goto 10, 3, 0, 0), (51, .aload_n 0, 1, 0, 0), (52, .getfield 26, 3, 0, 0), (55, .getfield 91, 3, 0, 0), (58, .ireturn, 1, 0, 0)]
theorem tTX5_judge : tOK RX5 cX5_judge tabX5_judge = true := by decide +kernel
theorem hMX5_judge : MV MX5_judge 1 := ⟨gt_at 237 (by decide +kernel) rfl, gt_at 238 (by decide +kernel) rfl, gt_at 1 (by decide +kernel) rfl, gt_at 239 (by decide +kernel) rfl, by decide +kernel, by decide +kernel, by decide +kernel⟩
abbrev MX5_done : MI := (yX5_done, cX5_done, 1, (some .int))
abbrev rmX5_done : Room := { frames := 6, cells := 0, slots := 0, locals := 135 }
def tabX5_done : List (Nat × TE) := [(0, .aload_n 0, 1, 0, 0), (1, .invokevirtual 84, 3, 0, 0), (4, .ifCond .ne 6, 3, 0, 0), (7, .bipush (-5), 2, (-5), 0), (9, .ireturn, 1, 0, 0), (10, .aload_n 0, 1, 0, 0), (11, .getfield 12, 3, 0, 0), (14, .aload_n 0, 1, 0, 0), (15, .getfield 16, 3, 0, 0), (18, .invokevirtual 94, 3, 0, 0), (21, .aload_n 0, 1, 0, 0), (22, .getfield 26, 3, 0, 0), (25, .iconst 0, 1, 0, 0), (26, .putfield 78, 3, 0, 0), (29, .aload_n 0, 1, 0, 0), (30, .getfield 26, 3, 0, 0), (33, .getfield 88, 3, 0, 0), (36, .ireturn, 1, 0, 0)]
theorem tTX5_done : tOK RX5 cX5_done tabX5_done = true := by decide +kernel
theorem hMX5_done : MV MX5_done 0 := ⟨gt_at 302 (by decide +kernel) rfl, gt_at 303 (by decide +kernel) rfl, gt_at 1 (by decide +kernel) rfl, gt_at 304 (by decide +kernel) rfl, by decide +kernel, by decide +kernel, by decide +kernel⟩
abbrev MX5_state : MI := (yX5_state, cX5_state, 3, (some .int))
abbrev rmX5_state : Room := { frames := 2, cells := 0, slots := 0, locals := 43 }
def tabX5_state : List (Nat × TE) := [(0, .aload_n 0, 1, 0, 0), (1, .getfield 12, 3, 0, 0), (4, .iload_n 1, 1, 0, 0), (5, .invokevirtual 63, 3, 0, 0), (8, .ifCond .ne 5, 3, 0, 0), (11, .iconst (-1), 1, (-1), 0), (12, .ireturn, 1, 0, 0), (13, .iload_n 2, 1, 0, 0), (14, .iconst 0, 1, 0, 0), (15, .iconst 3, 1, 3, 0), (16, .invokestatic 51, 3, 0, 0), (19, .ifCond .ne 6, 3, 0, 0), (22, .bipush (-2), 2, (-2), 0), (24, .ireturn, 1, 0, 0), (25, .aload_n 0, 1, 0, 0), (26, .getfield 12, 3, 0, 0), (29, .iload_n 1, 1, 0, 0), (30, .iload_n 2, 1, 0, 0), (31, .invokevirtual 98, 3, 0, 0), (34, .ireturn, 1, 0, 0)]
theorem tTX5_state : tOK RX5 cX5_state tabX5_state = true := by decide +kernel
theorem hMX5_state : MV MX5_state 2 := ⟨gt_at 306 (by decide +kernel) rfl, gt_at 307 (by decide +kernel) rfl, gt_at 1 (by decide +kernel) rfl, gt_at 308 (by decide +kernel) rfl, by decide +kernel, by decide +kernel, by decide +kernel⟩
abbrev MX5_behind : MI := (yX5_behind, cX5_behind, 3, (some .int))
abbrev rmX5_behind : Room := { frames := 6, cells := 0, slots := 0, locals := 135 }
def tabX5_behind : List (Nat × TE) := [(0, .aload_n 0, 1, 0, 0), (1, .getfield 12, 3, 0, 0), (4, .iload_n 1, 1, 0, 0), (5, .invokevirtual 63, 3, 0, 0), (8, .ifCond .ne 5, 3, 0, 0), (11, .iconst (-1), 1, (-1), 0), (12, .ireturn, 1, 0, 0), (13, .iload_n 2, 1, 0, 0), (14, .iconst 0, 1, 0, 0), (15, .iconst 3, 1, 3, 0), (16, .invokestatic 51, 3, 0, 0), (19, .ifCond .ne 6, 3, 0, 0), (22, .bipush (-2), 2, (-2), 0), (24, .ireturn, 1, 0, 0), (25, .aload_n 0, 1, 0, 0), (26, .invokevirtual 84, 3, 0, 0), (29, .ifCond .eq 15, 3, 0, 0), (32, .aload_n 0, 1, 0, 0), (33, .getfield 16, 3, 0, 0), (36, .iload_n 1, 1, 0, 0), (37, .iload_n 2, 1, 0, 0), (38, .invokevirtual 98, 3, 0, 0), (41, .goto 5, 3, 0, 0), (44, .bipush (-5), 2, (-5), 0), (46, .ireturn, 1, 0, 0)]
theorem tTX5_behind : tOK RX5 cX5_behind tabX5_behind = true := by decide +kernel
theorem hMX5_behind : MV MX5_behind 2 := ⟨gt_at 314 (by decide +kernel) rfl, gt_at 315 (by decide +kernel) rfl, gt_at 1 (by decide +kernel) rfl, gt_at 316 (by decide +kernel) rfl, by decide +kernel, by decide +kernel, by decide +kernel⟩
abbrev MX5_trees : MI := (yX5_trees, cX5_trees, 2, (some .int))
abbrev rmX5_trees : Room := { frames := 2, cells := 0, slots := 0, locals := 43 }
def tabX5_trees : List (Nat × TE) := [(0, .iload_n 1, 1, 0, 0), (1, .tableswitch 61 0 2 #[27, 35, 53], 27, 0, 0), (28, .aload_n 0, 1, 0, 0), (29, .getfield 12, 3, 0, 0), (32, .invokevirtual 102, 3, 0, 0), (35, .ireturn, 1, 0, 0), (36, .aload_n 0, 1, 0, 0), (37, .getfield 12, 3, 0, 0), (40, .getfield 105, 3, 0, 0), (43, .aload_n 0, 1, 0, 0), (44, .getfield 12, 3, 0, 0), (47, .invokevirtual 108, 3, 0, 0), (50, .iconst (-1), 1, (-1), 0), (51, .ixor, 1, 0, 0), (52, .iand, 1, 0, 0), (53, .ireturn, 1, 0, 0), (54, .aload_n 0, 1, 0, 0), (55, .getfield 12, 3, 0, 0), (58, .invokevirtual 111, 3, 0, 0), (61, .ireturn, 1, 0, 0), (62, .bipush (-2), 2, (-2), 0), (64, .ireturn, 1, 0, 0)]
theorem tTX5_trees : tOK RX5 cX5_trees tabX5_trees = true := by decide +kernel
theorem hMX5_trees : MV MX5_trees 1 := ⟨gt_at 318 (by decide +kernel) rfl, gt_at 319 (by decide +kernel) rfl, gt_at 1 (by decide +kernel) rfl, gt_at 320 (by decide +kernel) rfl, by decide +kernel, by decide +kernel, by decide +kernel⟩
abbrev MX5_may : MI := (yX5_may, cX5_may, 2, (some .int))
abbrev rmX5_may : Room := { frames := 3, cells := 0, slots := 0, locals := 66 }
def tabX5_may : List (Nat × TE) := [(0, .aload_n 0, 1, 0, 0), (1, .getfield 12, 3, 0, 0), (4, .iload_n 1, 1, 0, 0), (5, .invokevirtual 63, 3, 0, 0), (8, .ifCond .eq 14, 3, 0, 0), (11, .aload_n 0, 1, 0, 0), (12, .getfield 12, 3, 0, 0), (15, .iload_n 1, 1, 0, 0), (16, .invokevirtual 114, 3, 0, 0), (19, .goto 4, 3, 0, 0), (22, .iconst (-1), 1, (-1), 0), (23, .ireturn, 1, 0, 0)]
theorem tTX5_may : tOK RX5 cX5_may tabX5_may = true := by decide +kernel
theorem hMX5_may : MV MX5_may 1 := ⟨gt_at 334 (by decide +kernel) rfl, gt_at 335 (by decide +kernel) rfl, gt_at 1 (by decide +kernel) rfl, gt_at 336 (by decide +kernel) rfl, by decide +kernel, by decide +kernel, by decide +kernel⟩
abbrev MX5_safe : MI := (yX5_safe, cX5_safe, 3, (some .int))
abbrev rmX5_safe : Room := { frames := 4, cells := 0, slots := 0, locals := 88 }
def tabX5_safe : List (Nat × TE) := [(0, .iconst 0, 1, 0, 0), (1, .istore_n 1, 1, 0, 0), (2, .iconst 0, 1, 0, 0), (3, .istore_n 2, 1, 0, 0), (4, .iload_n 2, 1, 0, 0), (5, .bipush 6, 2, 6, 0), (7, .if_icmp .ge 20, 3, 0, 0), (10, .iload_n 1, 1, 0, 0), (11, .aload_n 0, 1, 0, 0), (12, .getfield 12, 3, 0, 0), (15, .iload_n 2, 1, 0, 0), (16, .invokevirtual 118, 3, 0, 0), (19, .ior, 1, 0, 0), (20, .istore_n 1, 1, 0, 0), (21, .iinc 2 1, 3, 1, 0), (24, .goto (-20), 3, 0, 0), (27, .aload_n 0, 1, 0, 0), (28, .getfield 12, 3, 0, 0), (31, .getfield 105, 3, 0, 0), (34, .iload_n 1, 1, 0, 0), (35, .iconst (-1), 1, (-1), 0), (36, .ixor, 1, 0, 0), (37, .iand, 1, 0, 0), (38, .ireturn, 1, 0, 0)]
theorem tTX5_safe : tOK RX5 cX5_safe tabX5_safe = true := by decide +kernel
theorem hMX5_safe : MV MX5_safe 0 := ⟨gt_at 342 (by decide +kernel) rfl, gt_at 343 (by decide +kernel) rfl, gt_at 1 (by decide +kernel) rfl, gt_at 344 (by decide +kernel) rfl, by decide +kernel, by decide +kernel, by decide +kernel⟩
abbrev MX5_stripped : MI := (yX5_stripped, cX5_stripped, 4, (some .int))
abbrev rmX5_stripped : Room := { frames := 5, cells := 0, slots := 0, locals := 115 }
def tabX5_stripped : List (Nat × TE) := [(0, .iload_n 1, 1, 0, 0), (1, .iconst 1, 1, 1, 0), (2, .bipush 20, 2, 20, 0), (4, .invokestatic 51, 3, 0, 0), (7, .ifCond .ne 6, 3, 0, 0), (10, .bipush (-2), 2, (-2), 0), (12, .ireturn, 1, 0, 0), (13, .aload_n 0, 1, 0, 0), (14, .getfield 12, 3, 0, 0), (17, .iload_n 1, 1, 0, 0), (18, .invokevirtual 121, 3, 0, 0), (21, .istore_n 2, 1, 0, 0), (22, .iconst 0, 1, 0, 0), (23, .istore_n 3, 1, 0, 0), (24, .iload_n 3, 1, 0, 0), (25, .iconst 5, 1, 5, 0), (26, .if_icmp .gt 24, 3, 0, 0), (29, .aload_n 0, 1, 0, 0), (30, .getfield 12, 3, 0, 0), (33, .iload_n 1, 1, 0, 0), (34, .iload_n 3, 1, 0, 0), (35, .invokestatic 124, 3, 0, 0), (38, .iload_n 2, 1, 0, 0), (39, .if_icmp .ne 5, 3, 0, 0), (42, .iload_n 3, 1, 0, 0), (43, .ireturn, 1, 0, 0), (44, .iinc 3 1, 3, 1, 0), (47, .goto (-23), 3, 0, 0), (50, .bipush (-6), 2, (-6), 0), (52, .ireturn, 1, 0, 0)]
theorem tTX5_stripped : tOK RX5 cX5_stripped tabX5_stripped = true := by decide +kernel
theorem hMX5_stripped : MV MX5_stripped 1 := ⟨gt_at 358 (by decide +kernel) rfl, gt_at 359 (by decide +kernel) rfl, gt_at 1 (by decide +kernel) rfl, gt_at 360 (by decide +kernel) rfl, by decide +kernel, by decide +kernel, by decide +kernel⟩
abbrev MX5_thefts : MI := (yX5_thefts, cX5_thefts, 3, (some .int))
abbrev rmX5_thefts : Room := { frames := 5, cells := 0, slots := 0, locals := 115 }
def tabX5_thefts : List (Nat × TE) := [(0, .iload_n 1, 1, 0, 0), (1, .iconst 1, 1, 1, 0), (2, .bipush 20, 2, 20, 0), (4, .invokestatic 51, 3, 0, 0), (7, .ifCond .eq 12, 3, 0, 0), (10, .iload_n 2, 1, 0, 0), (11, .iconst 0, 1, 0, 0), (12, .iconst 5, 1, 5, 0), (13, .invokestatic 51, 3, 0, 0), (16, .ifCond .ne 6, 3, 0, 0), (19, .bipush (-2), 2, (-2), 0), (21, .ireturn, 1, 0, 0), (22, .aload_n 0, 1, 0, 0), (23, .getfield 12, 3, 0, 0), (26, .iload_n 1, 1, 0, 0), (27, .iload_n 2, 1, 0, 0), (28, .invokestatic 124, 3, 0, 0), (31, .ireturn, 1, 0, 0)]
theorem tTX5_thefts : tOK RX5 cX5_thefts tabX5_thefts = true := by decide +kernel
theorem hMX5_thefts : MV MX5_thefts 2 := ⟨gt_at 383 (by decide +kernel) rfl, gt_at 384 (by decide +kernel) rfl, gt_at 1 (by decide +kernel) rfl, gt_at 385 (by decide +kernel) rfl, by decide +kernel, by decide +kernel, by decide +kernel⟩
abbrev MX5_round : MI := (yX5_round, cX5_round, 1, (some .int))
abbrev rmX5_round : Room := { frames := 6, cells := 0, slots := 0, locals := 133 }
def tabX5_round : List (Nat × TE) := [(0, .aload_n 0, 1, 0, 0), (1, .getfield 33, 3, 0, 0), (4, .aload_n 0, 1, 0, 0), (5, .getfield 12, 3, 0, 0), (8, .invokevirtual 128, 3, 0, 0), (11, .ireturn, 1, 0, 0)]
theorem tTX5_round : tOK RX5 cX5_round tabX5_round = true := by decide +kernel
theorem hMX5_round : MV MX5_round 0 := ⟨gt_at 387 (by decide +kernel) rfl, gt_at 388 (by decide +kernel) rfl, gt_at 1 (by decide +kernel) rfl, gt_at 389 (by decide +kernel) rfl, by decide +kernel, by decide +kernel, by decide +kernel⟩
abbrev MX5_chain : MI := (yX5_chain, cX5_chain, 3, (some .int))
abbrev rmX5_chain : Room := { frames := 6, cells := 0, slots := 0, locals := 133 }
def tabX5_chain : List (Nat × TE) := [(0, .aload_n 0, 1, 0, 0), (1, .getfield 12, 3, 0, 0), (4, .iload_n 1, 1, 0, 0), (5, .iload_n 2, 1, 0, 0), (6, .invokevirtual 132, 3, 0, 0), (9, .ifCond .ne 5, 3, 0, 0), (12, .iconst (-1), 1, (-1), 0), (13, .ireturn, 1, 0, 0), (14, .aload_n 0, 1, 0, 0), (15, .getfield 33, 3, 0, 0), (18, .aload_n 0, 1, 0, 0), (19, .getfield 12, 3, 0, 0), (22, .iload_n 1, 1, 0, 0), (23, .iload_n 2, 1, 0, 0), (24, .invokevirtual 136, 3, 0, 0), (27, .ireturn, 1, 0, 0)]
theorem tTX5_chain : tOK RX5 cX5_chain tabX5_chain = true := by decide +kernel
theorem hMX5_chain : MV MX5_chain 2 := ⟨gt_at 417 (by decide +kernel) rfl, gt_at 418 (by decide +kernel) rfl, gt_at 1 (by decide +kernel) rfl, gt_at 419 (by decide +kernel) rfl, by decide +kernel, by decide +kernel, by decide +kernel⟩
abbrev MX5_exchange : MI := (yX5_exchange, cX5_exchange, 5, (some .int))
abbrev rmX5_exchange : Room := { frames := 2, cells := 0, slots := 0, locals := 43 }
def tabX5_exchange : List (Nat × TE) := [(0, .aload_n 0, 1, 0, 0), (1, .getfield 12, 3, 0, 0), (4, .iload_n 1, 1, 0, 0), (5, .iload_n 2, 1, 0, 0), (6, .invokevirtual 132, 3, 0, 0), (9, .ifCond .eq 27, 3, 0, 0), (12, .aload_n 0, 1, 0, 0), (13, .getfield 12, 3, 0, 0), (16, .iload_n 1, 1, 0, 0), (17, .iload_n 3, 1, 0, 0), (18, .invokevirtual 132, 3, 0, 0), (21, .ifCond .eq 15, 3, 0, 0), (24, .aload_n 0, 1, 0, 0), (25, .getfield 12, 3, 0, 0), (28, .iload_n 2, 1, 0, 0), (29, .iload_n 3, 1, 0, 0), (30, .invokevirtual 132, 3, 0, 0), (33, .ifCond .ne 5, 3, 0, 0), (36, .iconst (-1), 1, (-1), 0), (37, .ireturn, 1, 0, 0), (38, .aload_n 0, 1, 0, 0), (39, .getfield 12, 3, 0, 0), (42, .getfield 139, 3, 0, 0), (45, .iload_n 3, 1, 0, 0), (46, .iaload, 1, 0, 0), (47, .aload_n 0, 1, 0, 0), (48, .getfield 12, 3, 0, 0), (51, .iload_n 1, 1, 0, 0), (52, .iload_n 3, 1, 0, 0), (53, .invokevirtual 143, 3, 0, 0), (56, .isub, 1, 0, 0), (57, .istore 4, 2, 0, 0), (59, .iload 4, 2, 0, 0), (61, .aload_n 0, 1, 0, 0), (62, .getfield 12, 3, 0, 0), (65, .getfield 146, 3, 0, 0), (68, .iload_n 2, 1, 0, 0), (69, .iaload, 1, 0, 0), (70, .invokestatic 149, 3, 0, 0), (73, .ireturn, 1, 0, 0)]
theorem tTX5_exchange : tOK RX5 cX5_exchange tabX5_exchange = true := by decide +kernel
theorem hMX5_exchange : MV MX5_exchange 3 := ⟨gt_at 426 (by decide +kernel) rfl, gt_at 427 (by decide +kernel) rfl, gt_at 1 (by decide +kernel) rfl, gt_at 428 (by decide +kernel) rfl, by decide +kernel, by decide +kernel, by decide +kernel⟩
abbrev MX5_seen : MI := (yX5_seen, cX5_seen, 3, (some .int))
abbrev rmX5_seen : Room := { frames := 1, cells := 0, slots := 0, locals := 22 }
def tabX5_seen : List (Nat × TE) := [(0, .aload_n 0, 1, 0, 0), (1, .getfield 12, 3, 0, 0), (4, .iload_n 1, 1, 0, 0), (5, .invokevirtual 63, 3, 0, 0), (8, .ifCond .ne 5, 3, 0, 0), (11, .iconst (-1), 1, (-1), 0), (12, .ireturn, 1, 0, 0), (13, .iload_n 2, 1, 0, 0), (14, .iconst 0, 1, 0, 0), (15, .bipush 99, 2, 99, 0), (17, .invokestatic 51, 3, 0, 0), (20, .ifCond .ne 6, 3, 0, 0), (23, .bipush (-2), 2, (-2), 0), (25, .ireturn, 1, 0, 0), (26, .aload_n 0, 1, 0, 0), (27, .getfield 12, 3, 0, 0), (30, .iload_n 1, 1, 0, 0), (31, .iload_n 2, 1, 0, 0), (32, .invokevirtual 154, 3, 0, 0), (35, .ifCond .eq 13, 3, 0, 0), (38, .aload_n 0, 1, 0, 0), (39, .getfield 12, 3, 0, 0), (42, .getfield 157, 3, 0, 0), (45, .goto 5, 3, 0, 0), (48, .bipush (-4), 2, (-4), 0), (50, .ireturn, 1, 0, 0)]
theorem tTX5_seen : tOK RX5 cX5_seen tabX5_seen = true := by decide +kernel
theorem hMX5_seen : MV MX5_seen 2 := ⟨gt_at 431 (by decide +kernel) rfl, gt_at 432 (by decide +kernel) rfl, gt_at 1 (by decide +kernel) rfl, gt_at 433 (by decide +kernel) rfl, by decide +kernel, by decide +kernel, by decide +kernel⟩
abbrev MX5_forget : MI := (yX5_forget, cX5_forget, 2, (some .int))
abbrev rmX5_forget : Room := { frames := 0, cells := 0, slots := 0, locals := 0 }
def tabX5_forget : List (Nat × TE) := [(0, .aload_n 0, 1, 0, 0), (1, .getfield 12, 3, 0, 0), (4, .getfield 157, 3, 0, 0), (7, .istore_n 1, 1, 0, 0), (8, .aload_n 0, 1, 0, 0), (9, .getfield 12, 3, 0, 0), (12, .iconst 0, 1, 0, 0), (13, .putfield 157, 3, 0, 0), (16, .iload_n 1, 1, 0, 0), (17, .ireturn, 1, 0, 0)]
theorem tTX5_forget : tOK RX5 cX5_forget tabX5_forget = true := by decide +kernel
theorem hMX5_forget : MV MX5_forget 0 := ⟨gt_at 439 (by decide +kernel) rfl, gt_at 440 (by decide +kernel) rfl, gt_at 1 (by decide +kernel) rfl, gt_at 441 (by decide +kernel) rfl, by decide +kernel, by decide +kernel, by decide +kernel⟩
abbrev MX5_boots : MI := (yX5_boots, cX5_boots, 2, (some .int))
abbrev rmX5_boots : Room := { frames := 4, cells := 0, slots := 0, locals := 94 }
def tabX5_boots : List (Nat × TE) := [(0, .iload_n 1, 1, 0, 0), (1, .iconst 0, 1, 0, 0), (2, .iconst 2, 1, 2, 0), (3, .invokestatic 51, 3, 0, 0), (6, .ifCond .ne 6, 3, 0, 0), (9, .bipush (-2), 2, (-2), 0), (11, .ireturn, 1, 0, 0), (12, .aload_n 0, 1, 0, 0), (13, .getfield 40, 3, 0, 0), (16, .aload_n 0, 1, 0, 0), (17, .getfield 12, 3, 0, 0), (20, .bipush (-6), 2, (-6), 0), (22, .invokevirtual 160, 3, 0, 0), (25, .iload_n 1, 1, 0, 0), (26, .ifCond .ne 11, 3, 0, 0), (29, .aload_n 0, 1, 0, 0), (30, .getfield 40, 3, 0, 0), (33, .invokevirtual 164, 3, 0, 0), (36, .ireturn, 1, 0, 0), (37, .iload_n 1, 1, 0, 0), (38, .iconst 1, 1, 1, 0), (39, .if_icmp .ne 13, 3, 0, 0), (42, .aload_n 0, 1, 0, 0), (43, .getfield 40, 3, 0, 0), (46, .invokevirtual 167, 3, 0, 0), (49, .goto 10, 3, 0, 0), (52, .aload_n 0, 1, 0, 0), (53, .getfield 40, 3, 0, 0), (56, .invokevirtual 170, 3, 0, 0), (59, .ireturn, 1, 0, 0)]
theorem tTX5_boots : tOK RX5 cX5_boots tabX5_boots = true := by decide +kernel
theorem hMX5_boots : MV MX5_boots 1 := ⟨gt_at 443 (by decide +kernel) rfl, gt_at 444 (by decide +kernel) rfl, gt_at 1 (by decide +kernel) rfl, gt_at 445 (by decide +kernel) rfl, by decide +kernel, by decide +kernel, by decide +kernel⟩
abbrev MX5_look : MI := (yX5_look, cX5_look, 6, (some .int))
abbrev rmX5_look : Room := { frames := 5, cells := 0, slots := 0, locals := 119 }
def tabX5_look : List (Nat × TE) := [(0, .iload_n 1, 1, 0, 0), (1, .iconst 0, 1, 0, 0), (2, .iconst 1, 1, 1, 0), (3, .invokestatic 51, 3, 0, 0), (6, .ifCond .ne 6, 3, 0, 0), (9, .bipush (-2), 2, (-2), 0), (11, .ireturn, 1, 0, 0), (12, .aload_n 0, 1, 0, 0), (13, .getfield 40, 3, 0, 0), (16, .aload_n 0, 1, 0, 0), (17, .getfield 12, 3, 0, 0), (20, .bipush (-6), 2, (-6), 0), (22, .invokevirtual 160, 3, 0, 0), (25, .aload_n 0, 1, 0, 0), (26, .getfield 40, 3, 0, 0), (29, .invokevirtual 164, 3, 0, 0), (32, .ifCond .ne 6, 3, 0, 0), (35, .bipush (-6), 2, (-6), 0), (37, .ireturn, 1, 0, 0), (38, .bipush (-6), 2, (-6), 0), (40, .istore_n 2, 1, 0, 0), (41, .bipush (-6), 2, (-6), 0), (43, .istore_n 3, 1, 0, 0), (44, .iconst 0, 1, 0, 0), (45, .istore 4, 2, 0, 0), (47, .iload 4, 2, 0, 0), (49, .bipush 6, 2, 6, 0), (51, .if_icmp .ge 66, 3, 0, 0), (54, .aload_n 0, 1, 0, 0), (55, .getfield 12, 3, 0, 0), (58, .iload 4, 2, 0, 0), (60, .invokevirtual 63, 3, 0, 0), (63, .ifCond .eq 48, 3, 0, 0), (66, .aload_n 0, 1, 0, 0), (67, .getfield 12, 3, 0, 0), (70, .iload 4, 2, 0, 0), (72, .invokevirtual 173, 3, 0, 0), (75, .ifCond .ne 36, 3, 0, 0), (78, .aload_n 0, 1, 0, 0), (79, .getfield 40, 3, 0, 0), (82, .aload_n 0, 1, 0, 0), (83, .getfield 12, 3, 0, 0), (86, .iload 4, 2, 0, 0), (88, .invokevirtual 176, 3, 0, 0), (91, .istore 5, 2, 0, 0), (93, .iload_n 2, 1, 0, 0), (94, .bipush (-6), 2, (-6), 0), (96, .if_icmp .eq 9, 3, 0, 0), (99, .iload 5, 2, 0, 0), (101, .iload_n 3, 1, 0, 0), (102, .if_icmp .ge 9, 3, 0, 0), (105, .iload 4, 2, 0, 0), (107, .istore_n 2, 1, 0, 0), (108, .iload 5, 2, 0, 0), (110, .istore_n 3, 1, 0, 0), (111, .iinc 4 1, 3, 1, 0), (114, .goto (-67), 3, 0, 0), (117, .iload_n 1, 1, 0, 0), (118, .ifCond .ne 7, 3, 0, 0), (121, .iload_n 2, 1, 0, 0), (122, .goto 4, 3, 0, 0), (125, .iload_n 3, 1, 0, 0), (126, .ireturn, 1, 0, 0)]
theorem tTX5_look : tOK RX5 cX5_look tabX5_look = true := by decide +kernel
theorem hMX5_look : MV MX5_look 1 := ⟨gt_at 487 (by decide +kernel) rfl, gt_at 488 (by decide +kernel) rfl, gt_at 1 (by decide +kernel) rfl, gt_at 489 (by decide +kernel) rfl, by decide +kernel, by decide +kernel, by decide +kernel⟩
abbrev MX5_duel : MI := (yX5_duel, cX5_duel, 5, (some .int))
abbrev rmX5_duel : Room := { frames := 4, cells := 0, slots := 0, locals := 95 }
def tabX5_duel : List (Nat × TE) := [(0, .aload_n 0, 1, 0, 0), (1, .getfield 12, 3, 0, 0), (4, .iload_n 1, 1, 0, 0), (5, .iload_n 2, 1, 0, 0), (6, .invokevirtual 132, 3, 0, 0), (9, .ifCond .eq 17, 3, 0, 0), (12, .iload_n 3, 1, 0, 0), (13, .aload_n 0, 1, 0, 0), (14, .getfield 12, 3, 0, 0), (17, .getfield 105, 3, 0, 0), (20, .iconst (-1), 1, (-1), 0), (21, .ixor, 1, 0, 0), (22, .iand, 1, 0, 0), (23, .ifCond .eq 5, 3, 0, 0), (26, .iconst (-1), 1, (-1), 0), (27, .ireturn, 1, 0, 0), (28, .iload 4, 2, 0, 0), (30, .iconst 0, 1, 0, 0), (31, .iconst 1, 1, 1, 0), (32, .invokestatic 51, 3, 0, 0), (35, .ifCond .ne 6, 3, 0, 0), (38, .bipush (-2), 2, (-2), 0), (40, .ireturn, 1, 0, 0), (41, .aload_n 0, 1, 0, 0), (42, .getfield 47, 3, 0, 0), (45, .aload_n 0, 1, 0, 0), (46, .getfield 12, 3, 0, 0), (49, .iload_n 1, 1, 0, 0), (50, .iload_n 2, 1, 0, 0), (51, .iload_n 3, 1, 0, 0), (52, .invokevirtual 180, 3, 0, 0), (55, .iload 4, 2, 0, 0), (57, .ifCond .ne 17, 3, 0, 0), (60, .aload_n 0, 1, 0, 0), (61, .getfield 47, 3, 0, 0), (64, .getfield 184, 3, 0, 0), (67, .sipush 1000, 3, 1000, 0), (70, .iadd, 1, 0, 0), (71, .goto 10, 3, 0, 0), (74, .aload_n 0, 1, 0, 0), (75, .getfield 47, 3, 0, 0), (78, .getfield 187, 3, 0, 0), (81, .ireturn, 1, 0, 0)]
theorem tTX5_duel : tOK RX5 cX5_duel tabX5_duel = true := by decide +kernel
theorem hMX5_duel : MV MX5_duel 4 := ⟨gt_at 502 (by decide +kernel) rfl, gt_at 503 (by decide +kernel) rfl, gt_at 1 (by decide +kernel) rfl, gt_at 504 (by decide +kernel) rfl, by decide +kernel, by decide +kernel, by decide +kernel⟩
abbrev MX5_caught : MI := (yX5_caught, cX5_caught, 11, (some .long))
abbrev rmX5_caught : Room := { frames := 2, cells := 0, slots := 0, locals := 43 }
def tabX5_caught : List (Nat × TE) := [(0, .aload_n 0, 1, 0, 0), (1, .getfield 12, 3, 0, 0), (4, .iload_n 1, 1, 0, 0), (5, .iload_n 2, 1, 0, 0), (6, .invokevirtual 132, 3, 0, 0), (9, .ifCond .ne 7, 3, 0, 0), (12, .ldc2_w 190, 3, 0, (-1000000000000000001)), (15, .lreturn, 1, 0, 0), (16, .iload_n 3, 1, 0, 0), (17, .iconst 0, 1, 0, 0), (18, .bipush 10, 2, 10, 0), (20, .invokestatic 51, 3, 0, 0), (23, .ifCond .eq 23, 3, 0, 0), (26, .iload 4, 2, 0, 0), (28, .iconst 0, 1, 0, 0), (29, .iconst 1, 1, 1, 0), (30, .invokestatic 51, 3, 0, 0), (33, .ifCond .eq 13, 3, 0, 0), (36, .iload 5, 2, 0, 0), (38, .iconst 0, 1, 0, 0), (39, .iconst 1, 1, 1, 0), (40, .invokestatic 51, 3, 0, 0), (43, .ifCond .ne 7, 3, 0, 0), (46, .ldc2_w 192, 3, 0, (-1000000000000000002)), (49, .lreturn, 1, 0, 0), (50, .aload_n 0, 1, 0, 0), (51, .getfield 12, 3, 0, 0), (54, .iload_n 1, 1, 0, 0), (55, .iload_n 2, 1, 0, 0), (56, .invokevirtual 194, 3, 0, 0), (59, .ifCond .eq 7, 3, 0, 0), (62, .ldc2_w 197, 3, 0, (-1000000000000000003)), (65, .lreturn, 1, 0, 0), (66, .aload_n 0, 1, 0, 0), (67, .getfield 12, 3, 0, 0), (70, .getfield 199, 3, 0, 0), (73, .iload_n 1, 1, 0, 0), (74, .iaload, 1, 0, 0), (75, .istore 6, 2, 0, 0), (77, .iload 6, 2, 0, 0), (79, .aload_n 0, 1, 0, 0), (80, .getfield 12, 3, 0, 0), (83, .iload_n 1, 1, 0, 0), (84, .iload_n 2, 1, 0, 0), (85, .invokevirtual 143, 3, 0, 0), (88, .iadd, 1, 0, 0), (89, .istore 7, 2, 0, 0), (91, .iconst 0, 1, 0, 0), (92, .iload 7, 2, 0, 0), (94, .bipush 9, 2, 9, 0), (96, .isub, 1, 0, 0), (97, .invokestatic 202, 3, 0, 0), (100, .istore 8, 2, 0, 0), (102, .iload 4, 2, 0, 0), (104, .ifCond .ne 20, 3, 0, 0), (107, .bipush 10, 2, 10, 0), (109, .iload_n 3, 1, 0, 0), (110, .isub, 1, 0, 0), (111, .iload 7, 2, 0, 0), (113, .imul, 1, 0, 0), (114, .iload_n 3, 1, 0, 0), (115, .iload 8, 2, 0, 0), (117, .imul, 1, 0, 0), (118, .iadd, 1, 0, 0), (119, .istore 9, 2, 0, 0), (121, .goto 33, 3, 0, 0), (124, .iload 7, 2, 0, 0), (126, .iload 6, 2, 0, 0), (128, .if_icmp .le 10, 3, 0, 0), (131, .bipush 10, 2, 10, 0), (133, .iload_n 3, 1, 0, 0), (134, .isub, 1, 0, 0), (135, .goto 4, 3, 0, 0), (138, .iconst 0, 1, 0, 0), (139, .iload 8, 2, 0, 0), (141, .iload 6, 2, 0, 0), (143, .if_icmp .le 7, 3, 0, 0), (146, .iload_n 3, 1, 0, 0), (147, .goto 4, 3, 0, 0), (150, .iconst 0, 1, 0, 0), (151, .iadd, 1, 0, 0), (152, .istore 9, 2, 0, 0), (154, .iload 9, 2, 0, 0), (156, .invokestatic 205, 3, 0, 0), (159, .istore 10, 2, 0, 0), (161, .iload 5, 2, 0, 0), (163, .ifCond .ne 12, 3, 0, 0), (166, .iload 9, 2, 0, 0), (168, .iload 10, 2, 0, 0), (170, .idiv, 1, 0, 0), (171, .i2l, 1, 0, 0), (172, .goto 9, 3, 0, 0), (175, .bipush 10, 2, 10, 0), (177, .iload 10, 2, 0, 0), (179, .idiv, 1, 0, 0), (180, .i2l, 1, 0, 0), (181, .lreturn, 1, 0, 0)]
theorem tTX5_caught : tOK RX5 cX5_caught tabX5_caught = true := by decide +kernel
theorem hMX5_caught : MV MX5_caught 5 := ⟨gt_at 517 (by decide +kernel) rfl, gt_at 518 (by decide +kernel) rfl, gt_at 1 (by decide +kernel) rfl, gt_at 519 (by decide +kernel) rfl, by decide +kernel, by decide +kernel, by decide +kernel⟩
abbrev MX5_moons : MI := (yX5_moons, cX5_moons, 5, (some .int))
abbrev rmX5_moons : Room := { frames := 2, cells := 0, slots := 0, locals := 46 }
def tabX5_moons : List (Nat × TE) := [(0, .aload_n 0, 1, 0, 0), (1, .getfield 12, 3, 0, 0), (4, .iload_n 1, 1, 0, 0), (5, .invokevirtual 63, 3, 0, 0), (8, .ifCond .ne 5, 3, 0, 0), (11, .iconst (-1), 1, (-1), 0), (12, .ireturn, 1, 0, 0), (13, .iload_n 2, 1, 0, 0), (14, .iconst 0, 1, 0, 0), (15, .bipush 60, 2, 60, 0), (17, .invokestatic 51, 3, 0, 0), (20, .ifCond .ne 6, 3, 0, 0), (23, .bipush (-2), 2, (-2), 0), (25, .ireturn, 1, 0, 0), (26, .iconst 1, 1, 1, 0), (27, .aload_n 0, 1, 0, 0), (28, .getfield 12, 3, 0, 0), (31, .invokevirtual 59, 3, 0, 0), (34, .invokestatic 202, 3, 0, 0), (37, .istore_n 3, 1, 0, 0), (38, .aload_n 0, 1, 0, 0), (39, .getfield 12, 3, 0, 0), (42, .iload_n 1, 1, 0, 0), (43, .invokevirtual 208, 3, 0, 0), (46, .iload_n 2, 1, 0, 0), (47, .iload_n 3, 1, 0, 0), (48, .irem, 1, 0, 0), (49, .if_icmp .ge 7, 3, 0, 0), (52, .iconst 1, 1, 1, 0), (53, .goto 4, 3, 0, 0), (56, .iconst 0, 1, 0, 0), (57, .istore 4, 2, 0, 0), (59, .iload_n 2, 1, 0, 0), (60, .iload_n 3, 1, 0, 0), (61, .idiv, 1, 0, 0), (62, .iload 4, 2, 0, 0), (64, .iadd, 1, 0, 0), (65, .ireturn, 1, 0, 0)]
theorem tTX5_moons : tOK RX5 cX5_moons tabX5_moons = true := by decide +kernel
theorem hMX5_moons : MV MX5_moons 2 := ⟨gt_at 529 (by decide +kernel) rfl, gt_at 530 (by decide +kernel) rfl, gt_at 1 (by decide +kernel) rfl, gt_at 531 (by decide +kernel) rfl, by decide +kernel, by decide +kernel, by decide +kernel⟩
abbrev MX5_year : MI := (yX5_year, cX5_year, 5, (some .int))
abbrev rmX5_year : Room := { frames := 5, cells := 0, slots := 0, locals := 117 }
def tabX5_year : List (Nat × TE) := [(0, .iload_n 1, 1, 0, 0), (1, .iconst 0, 1, 0, 0), (2, .sipush 9999, 3, 9999, 0), (5, .invokestatic 51, 3, 0, 0), (8, .ifCond .eq 22, 3, 0, 0), (11, .iload_n 2, 1, 0, 0), (12, .iconst 1, 1, 1, 0), (13, .bipush 99, 2, 99, 0), (15, .invokestatic 51, 3, 0, 0), (18, .ifCond .eq 12, 3, 0, 0), (21, .iload_n 3, 1, 0, 0), (22, .iconst 0, 1, 0, 0), (23, .iconst 2, 1, 2, 0), (24, .invokestatic 51, 3, 0, 0), (27, .ifCond .ne 6, 3, 0, 0), (30, .bipush (-2), 2, (-2), 0), (32, .ireturn, 1, 0, 0), (33, .aload_n 0, 1, 0, 0), (34, .getfield 16, 3, 0, 0), (37, .aload_n 0, 1, 0, 0), (38, .getfield 12, 3, 0, 0), (41, .invokevirtual 94, 3, 0, 0), (44, .aload_n 0, 1, 0, 0), (45, .getfield 16, 3, 0, 0), (48, .iload_n 1, 1, 0, 0), (49, .iload_n 2, 1, 0, 0), (50, .invokevirtual 211, 3, 0, 0), (53, .istore 4, 2, 0, 0), (55, .iload_n 3, 1, 0, 0), (56, .ifCond .ne 11, 3, 0, 0), (59, .aload_n 0, 1, 0, 0), (60, .getfield 16, 3, 0, 0), (63, .invokevirtual 214, 3, 0, 0), (66, .ireturn, 1, 0, 0), (67, .iload_n 3, 1, 0, 0), (68, .iconst 1, 1, 1, 0), (69, .if_icmp .ne 13, 3, 0, 0), (72, .aload_n 0, 1, 0, 0), (73, .getfield 16, 3, 0, 0), (76, .invokevirtual 217, 3, 0, 0), (79, .goto 5, 3, 0, 0), (82, .iload 4, 2, 0, 0), (84, .ireturn, 1, 0, 0)]
theorem tTX5_year : tOK RX5 cX5_year tabX5_year = true := by decide +kernel
theorem hMX5_year : MV MX5_year 3 := ⟨gt_at 537 (by decide +kernel) rfl, gt_at 538 (by decide +kernel) rfl, gt_at 1 (by decide +kernel) rfl, gt_at 539 (by decide +kernel) rfl, by decide +kernel, by decide +kernel, by decide +kernel⟩
abbrev MX5_image : MI := (yX5_image, cX5_image, 2, (some .int))
abbrev rmX5_image : Room := { frames := 2, cells := 8, slots := 59, locals := 61 }
def tabX5_image : List (Nat × TE) := [(0, .iload_n 1, 1, 0, 0), (1, .iconst 0, 1, 0, 0), (2, .iconst 1, 1, 1, 0), (3, .invokestatic 51, 3, 0, 0), (6, .ifCond .ne 6, 3, 0, 0), (9, .bipush (-2), 2, (-2), 0), (11, .ireturn, 1, 0, 0), (12, .aload_n 0, 1, 0, 0), (13, .getfield 19, 3, 0, 0), (16, .iload_n 1, 1, 0, 0), (17, .aaload, 1, 0, 0), (18, .ifnonnull 16, 3, 0, 0), (21, .aload_n 0, 1, 0, 0), (22, .getfield 19, 3, 0, 0), (25, .iload_n 1, 1, 0, 0), (26, .new 9, 3, 0, 0), (29, .dup, 1, 0, 0), (30, .invokespecial 11, 3, 0, 0), (33, .aastore, 1, 0, 0), (34, .aload_n 0, 1, 0, 0), (35, .getfield 19, 3, 0, 0), (38, .iload_n 1, 1, 0, 0), (39, .aaload, 1, 0, 0), (40, .aload_n 0, 1, 0, 0), (41, .getfield 12, 3, 0, 0), (44, .invokevirtual 94, 3, 0, 0), (47, .iconst 1, 1, 1, 0), (48, .ireturn, 1, 0, 0)]
theorem tTX5_image : tOK RX5 cX5_image tabX5_image = true := by decide +kernel
theorem hMX5_image : MV MX5_image 1 := ⟨gt_at 558 (by decide +kernel) rfl, gt_at 559 (by decide +kernel) rfl, gt_at 1 (by decide +kernel) rfl, gt_at 560 (by decide +kernel) rfl, by decide +kernel, by decide +kernel, by decide +kernel⟩
abbrev MX5_restore : MI := (yX5_restore, cX5_restore, 2, (some .int))
abbrev rmX5_restore : Room := { frames := 2, cells := 0, slots := 0, locals := 61 }
def tabX5_restore : List (Nat × TE) := [(0, .iload_n 1, 1, 0, 0), (1, .iconst 0, 1, 0, 0), (2, .iconst 1, 1, 1, 0), (3, .invokestatic 51, 3, 0, 0), (6, .ifCond .ne 6, 3, 0, 0), (9, .bipush (-2), 2, (-2), 0), (11, .ireturn, 1, 0, 0), (12, .aload_n 0, 1, 0, 0), (13, .getfield 19, 3, 0, 0), (16, .iload_n 1, 1, 0, 0), (17, .aaload, 1, 0, 0), (18, .ifnonnull 6, 3, 0, 0), (21, .bipush (-3), 2, (-3), 0), (23, .ireturn, 1, 0, 0), (24, .aload_n 0, 1, 0, 0), (25, .getfield 12, 3, 0, 0), (28, .aload_n 0, 1, 0, 0), (29, .getfield 19, 3, 0, 0), (32, .iload_n 1, 1, 0, 0), (33, .aaload, 1, 0, 0), (34, .invokevirtual 94, 3, 0, 0), (37, .iconst 1, 1, 1, 0), (38, .ireturn, 1, 0, 0)]
theorem tTX5_restore : tOK RX5 cX5_restore tabX5_restore = true := by decide +kernel
theorem hMX5_restore : MV MX5_restore 1 := ⟨gt_at 562 (by decide +kernel) rfl, gt_at 563 (by decide +kernel) rfl, gt_at 1 (by decide +kernel) rfl, gt_at 564 (by decide +kernel) rfl, by decide +kernel, by decide +kernel, by decide +kernel⟩
abbrev MX5_told : MI := (yX5_told, cX5_told, 2, (some .int))
abbrev rmX5_told : Room := { frames := 2, cells := 0, slots := 0, locals := 44 }
def tabX5_told : List (Nat × TE) := [(0, .iload_n 1, 1, 0, 0), (1, .tableswitch 87 0 5 #[39, 47, 55, 63, 71, 79], 39, 0, 0), (40, .aload_n 0, 1, 0, 0), (41, .getfield 26, 3, 0, 0), (44, .getfield 78, 3, 0, 0), (47, .ireturn, 1, 0, 0), (48, .aload_n 0, 1, 0, 0), (49, .getfield 12, 3, 0, 0), (52, .getfield 105, 3, 0, 0), (55, .ireturn, 1, 0, 0), (56, .aload_n 0, 1, 0, 0), (57, .getfield 12, 3, 0, 0), (60, .getfield 71, 3, 0, 0), (63, .ireturn, 1, 0, 0), (64, .aload_n 0, 1, 0, 0), (65, .getfield 12, 3, 0, 0), (68, .getfield 220, 3, 0, 0), (71, .ireturn, 1, 0, 0), (72, .aload_n 0, 1, 0, 0), (73, .getfield 12, 3, 0, 0), (76, .getfield 223, 3, 0, 0), (79, .ireturn, 1, 0, 0), (80, .aload_n 0, 1, 0, 0), (81, .getfield 12, 3, 0, 0), (84, .getfield 157, 3, 0, 0), (87, .ireturn, 1, 0, 0), (88, .aload_n 0, 1, 0, 0), (89, .iload_n 1, 1, 0, 0), (90, .invokevirtual 226, 3, 0, 0), (93, .ireturn, 1, 0, 0)]
theorem tTX5_told : tOK RX5 cX5_told tabX5_told = true := by decide +kernel
theorem hMX5_told : MV MX5_told 1 := ⟨gt_at 566 (by decide +kernel) rfl, gt_at 567 (by decide +kernel) rfl, gt_at 1 (by decide +kernel) rfl, gt_at 568 (by decide +kernel) rfl, by decide +kernel, by decide +kernel, by decide +kernel⟩
abbrev MX5_toldBag : MI := (yX5_toldBag, cX5_toldBag, 3, (some .int))
abbrev rmX5_toldBag : Room := { frames := 1, cells := 0, slots := 0, locals := 22 }
def tabX5_toldBag : List (Nat × TE) := [(0, .iload_n 1, 1, 0, 0), (1, .bipush 10, 2, 10, 0), (3, .bipush 15, 2, 15, 0), (5, .invokestatic 51, 3, 0, 0), (8, .ifCond .ne 6, 3, 0, 0), (11, .bipush (-2), 2, (-2), 0), (13, .ireturn, 1, 0, 0), (14, .iload_n 1, 1, 0, 0), (15, .bipush 10, 2, 10, 0), (17, .isub, 1, 0, 0), (18, .istore_n 2, 1, 0, 0), (19, .aload_n 0, 1, 0, 0), (20, .getfield 12, 3, 0, 0), (23, .iload_n 2, 1, 0, 0), (24, .invokevirtual 63, 3, 0, 0), (27, .ifCond .eq 15, 3, 0, 0), (30, .aload_n 0, 1, 0, 0), (31, .getfield 12, 3, 0, 0), (34, .getfield 146, 3, 0, 0), (37, .iload_n 2, 1, 0, 0), (38, .iaload, 1, 0, 0), (39, .goto 5, 3, 0, 0), (42, .bipush (-2), 2, (-2), 0), (44, .ireturn, 1, 0, 0)]
theorem tTX5_toldBag : tOK RX5 cX5_toldBag tabX5_toldBag = true := by decide +kernel
theorem hMX5_toldBag : MV MX5_toldBag 1 := ⟨gt_at 571 (by decide +kernel) rfl, gt_pv 1 (by decide +kernel) rfl, gt_at 1 (by decide +kernel) rfl, gt_at 572 (by decide +kernel) rfl, by decide +kernel, by decide +kernel, by decide +kernel⟩
abbrev MX5_draftNights : MI := (yX5_draftNights, cX5_draftNights, 1, (some .boolean))
abbrev rmX5_draftNights : Room := { frames := 5, cells := 0, slots := 0, locals := 115 }
def tabX5_draftNights : List (Nat × TE) := [(0, .aload_n 0, 1, 0, 0), (1, .getfield 26, 3, 0, 0), (4, .invokevirtual 81, 3, 0, 0), (7, .bipush (-6), 2, (-6), 0), (9, .if_icmp .eq 5, 3, 0, 0), (12, .iconst 0, 1, 0, 0), (13, .ireturn, 1, 0, 0), (14, .aload_n 0, 1, 0, 0), (15, .getfield 16, 3, 0, 0), (18, .aload_n 0, 1, 0, 0), (19, .getfield 12, 3, 0, 0), (22, .invokevirtual 94, 3, 0, 0), (25, .aload_n 0, 1, 0, 0), (26, .getfield 26, 3, 0, 0), (29, .aload_n 0, 1, 0, 0), (30, .getfield 16, 3, 0, 0), (33, .invokevirtual 229, 3, 0, 0), (36, .ireturn, 1, 0, 0)]
theorem tTX5_draftNights : tOK RX5 cX5_draftNights tabX5_draftNights = true := by decide +kernel
theorem hMX5_draftNights : MV MX5_draftNights 0 := ⟨gt_at 242 (by decide +kernel) rfl, gt_pv 0 (by decide +kernel) rfl, gt_at 1 (by decide +kernel) rfl, gt_at 243 (by decide +kernel) rfl, by decide +kernel, by decide +kernel, by decide +kernel⟩
abbrev MX5_within : MI := (yX5_within, cX5_within, 3, (some .boolean))
abbrev rmX5_within : Room := { frames := 0, cells := 0, slots := 0, locals := 0 }
def tabX5_within : List (Nat × TE) := [(0, .iload_n 0, 1, 0, 0), (1, .iload_n 1, 1, 0, 0), (2, .if_icmp .lt 12, 3, 0, 0), (5, .iload_n 0, 1, 0, 0), (6, .iload_n 2, 1, 0, 0), (7, .if_icmp .gt 7, 3, 0, 0), (10, .iconst 1, 1, 1, 0), (11, .goto 4, 3, 0, 0), (14, .iconst 0, 1, 0, 0), (15, .ireturn, 1, 0, 0)]
theorem tTX5_within : tOK RX5 cX5_within tabX5_within = true := by decide +kernel
theorem hMX5_within : MSt MX5_within 3 := ⟨gt_at 174 (by decide +kernel) rfl, gt_at 1 (by decide +kernel) rfl, gt_at 175 (by decide +kernel) rfl, by decide +kernel, by decide +kernel, by decide +kernel⟩
abbrev MX5_sharedWithTenths : MI := (yX5_sharedWithTenths, cX5_sharedWithTenths, 2, (some .int))
abbrev rmX5_sharedWithTenths : Room := { frames := 0, cells := 0, slots := 0, locals := 0 }
def tabX5_sharedWithTenths : List (Nat × TE) := [(0, .bipush 10, 2, 10, 0), (2, .istore_n 1, 1, 0, 0), (3, .iload_n 1, 1, 0, 0), (4, .iconst 1, 1, 1, 0), (5, .if_icmp .le 24, 3, 0, 0), (8, .iload_n 0, 1, 0, 0), (9, .iload_n 1, 1, 0, 0), (10, .irem, 1, 0, 0), (11, .ifCond .ne 12, 3, 0, 0), (14, .bipush 10, 2, 10, 0), (16, .iload_n 1, 1, 0, 0), (17, .irem, 1, 0, 0), (18, .ifCond .ne 5, 3, 0, 0), (21, .iload_n 1, 1, 0, 0), (22, .ireturn, 1, 0, 0), (23, .iinc 1 (-1), 3, (-1), 0), (26, .goto (-23), 3, 0, 0), (29, .iconst 1, 1, 1, 0), (30, .ireturn, 1, 0, 0)]
theorem tTX5_sharedWithTenths : tOK RX5 cX5_sharedWithTenths tabX5_sharedWithTenths = true := by decide +kernel
theorem hMX5_sharedWithTenths : MSt MX5_sharedWithTenths 1 := ⟨gt_at 526 (by decide +kernel) rfl, gt_at 1 (by decide +kernel) rfl, gt_at 527 (by decide +kernel) rfl, by decide +kernel, by decide +kernel, by decide +kernel⟩
abbrev MX5_mostThefts : MI := (yX5_mostThefts, cX5_mostThefts, 8, (some .int))
abbrev rmX5_mostThefts : Room := { frames := 4, cells := 0, slots := 0, locals := 88 }
def tabX5_mostThefts : List (Nat × TE) := [(0, .aload_n 0, 1, 0, 0), (1, .iload_n 1, 1, 0, 0), (2, .invokevirtual 121, 3, 0, 0), (5, .istore_n 3, 1, 0, 0), (6, .iconst 0, 1, 0, 0), (7, .istore 4, 2, 0, 0), (9, .iload 4, 2, 0, 0), (11, .bipush 64, 2, 64, 0), (13, .if_icmp .ge 79, 3, 0, 0), (16, .iload_n 2, 1, 0, 0), (17, .aload_n 0, 1, 0, 0), (18, .getfield 105, 3, 0, 0), (21, .iload 4, 2, 0, 0), (23, .iconst (-1), 1, (-1), 0), (24, .ixor, 1, 0, 0), (25, .iand, 1, 0, 0), (26, .invokestatic 233, 3, 0, 0), (29, .imul, 1, 0, 0), (30, .istore 5, 2, 0, 0), (32, .iconst 0, 1, 0, 0), (33, .istore 6, 2, 0, 0), (35, .iload 6, 2, 0, 0), (37, .bipush 6, 2, 6, 0), (39, .if_icmp .ge 40, 3, 0, 0), (42, .iload 4, 2, 0, 0), (44, .aload_n 0, 1, 0, 0), (45, .iload 6, 2, 0, 0), (47, .invokevirtual 238, 3, 0, 0), (50, .iand, 1, 0, 0), (51, .invokestatic 233, 3, 0, 0), (54, .istore 7, 2, 0, 0), (56, .iload 5, 2, 0, 0), (58, .aload_n 0, 1, 0, 0), (59, .iload 6, 2, 0, 0), (61, .iload_n 1, 1, 0, 0), (62, .invokevirtual 241, 3, 0, 0), (65, .iload 7, 2, 0, 0), (67, .invokestatic 149, 3, 0, 0), (70, .iadd, 1, 0, 0), (71, .istore 5, 2, 0, 0), (73, .iinc 6 1, 3, 1, 0), (76, .goto (-41), 3, 0, 0), (79, .iload_n 3, 1, 0, 0), (80, .iload 5, 2, 0, 0), (82, .invokestatic 149, 3, 0, 0), (85, .istore_n 3, 1, 0, 0), (86, .iinc 4 1, 3, 1, 0), (89, .goto (-80), 3, 0, 0), (92, .iload_n 3, 1, 0, 0), (93, .ireturn, 1, 0, 0)]
theorem tTX5_mostThefts : tOK RX5 cX5_mostThefts tabX5_mostThefts = true := by decide +kernel
theorem hMX5_mostThefts : MSt MX5_mostThefts 3 := ⟨gt_at 373 (by decide +kernel) rfl, gt_at 1 (by decide +kernel) rfl, gt_at 374 (by decide +kernel) rfl, by decide +kernel, by decide +kernel, by decide +kernel⟩
end
section
abbrev MX6_init : MI := (yX6_init, cX6_init, 1, none)
abbrev rmX6_init : Room := { frames := 1, cells := 16, slots := 1500, locals := 20 }
def tabX6_init : List (Nat × TE) := [(0, .aload_n 0, 1, 0, 0), (1, .invokespecial 1, 3, 0, 0), (4, .aload_n 0, 1, 0, 0), (5, .bipush 6, 2, 6, 0), (7, .newarray .int, 2, 0, 0), (9, .putfield 7, 3, 0, 0), (12, .aload_n 0, 1, 0, 0), (13, .bipush 10, 2, 10, 0), (15, .putfield 13, 3, 0, 0), (18, .aload_n 0, 1, 0, 0), (19, .bipush 16, 2, 16, 0), (21, .newarray .int, 2, 0, 0), (23, .putfield 17, 3, 0, 0), (26, .aload_n 0, 1, 0, 0), (27, .bipush 6, 2, 6, 0), (29, .newarray .int, 2, 0, 0), (31, .putfield 20, 3, 0, 0), (34, .aload_n 0, 1, 0, 0), (35, .bipush 6, 2, 6, 0), (37, .newarray .int, 2, 0, 0), (39, .putfield 23, 3, 0, 0), (42, .aload_n 0, 1, 0, 0), (43, .bipush 6, 2, 6, 0), (45, .newarray .int, 2, 0, 0), (47, .putfield 26, 3, 0, 0), (50, .aload_n 0, 1, 0, 0), (51, .bipush 6, 2, 6, 0), (53, .newarray .int, 2, 0, 0), (55, .putfield 29, 3, 0, 0), (58, .aload_n 0, 1, 0, 0), (59, .bipush 60, 2, 60, 0), (61, .newarray .int, 2, 0, 0), (63, .putfield 32, 3, 0, 0), (66, .aload_n 0, 1, 0, 0), (67, .bipush 6, 2, 6, 0), (69, .newarray .int, 2, 0, 0), (71, .putfield 35, 3, 0, 0), (74, .aload_n 0, 1, 0, 0), (75, .bipush 6, 2, 6, 0), (77, .newarray .int, 2, 0, 0), (79, .putfield 38, 3, 0, 0), (82, .aload_n 0, 1, 0, 0), (83, .bipush 6, 2, 6, 0), (85, .newarray .int, 2, 0, 0), (87, .putfield 41, 3, 0, 0), (90, .aload_n 0, 1, 0, 0), (91, .bipush 6, 2, 6, 0), (93, .newarray .int, 2, 0, 0), (95, .putfield 44, 3, 0, 0), (98, .aload_n 0, 1, 0, 0), (99, .sipush 384, 3, 384, 0), (102, .newarray .boolean, 2, 0, 0), (104, .putfield 47, 3, 0, 0), (107, .aload_n 0, 1, 0, 0), (108, .sipush 600, 3, 600, 0), (111, .newarray .int, 2, 0, 0), (113, .putfield 51, 3, 0, 0), (116, .aload_n 0, 1, 0, 0), (117, .bipush 64, 2, 64, 0), (119, .newarray .int, 2, 0, 0), (121, .putfield 54, 3, 0, 0), (124, .aload_n 0, 1, 0, 0), (125, .sipush 140, 3, 140, 0), (128, .newarray .int, 2, 0, 0), (130, .putfield 57, 3, 0, 0), (133, .aload_n 0, 1, 0, 0), (134, .iconst 2, 1, 2, 0), (135, .newarray .boolean, 2, 0, 0), (137, .putfield 60, 3, 0, 0), (140, .aload_n 0, 1, 0, 0), (141, .iconst 0, 1, 0, 0), (142, .putfield 63, 3, 0, 0), (145, .return_, 1, 0, 0)]
theorem tTX6_init : tOK RX6 cX6_init tabX6_init = true := by decide +kernel
theorem hMX6_init : MIn MX6_init 0 := ⟨gt_at 576 (by decide +kernel) rfl, gt_at 7 (by decide +kernel) rfl, gt_at 577 (by decide +kernel) rfl, rfl, rfl, by decide +kernel, by decide +kernel, by decide +kernel⟩
abbrev MX6_in : MI := (yX6_in, cX6_in, 3, (some .boolean))
abbrev rmX6_in : Room := { frames := 0, cells := 0, slots := 0, locals := 0 }
def tabX6_in : List (Nat × TE) := [(0, .iload_n 0, 1, 0, 0), (1, .iload_n 1, 1, 0, 0), (2, .if_icmp .lt 12, 3, 0, 0), (5, .iload_n 0, 1, 0, 0), (6, .iload_n 2, 1, 0, 0), (7, .if_icmp .gt 7, 3, 0, 0), (10, .iconst 1, 1, 1, 0), (11, .goto 4, 3, 0, 0), (14, .iconst 0, 1, 0, 0), (15, .ireturn, 1, 0, 0)]
theorem tTX6_in : tOK RX6 cX6_in tabX6_in = true := by decide +kernel
theorem hMX6_in : MSt MX6_in 3 := ⟨gt_at 682 (by decide +kernel) rfl, gt_at 7 (by decide +kernel) rfl, gt_at 683 (by decide +kernel) rfl, by decide +kernel, by decide +kernel, by decide +kernel⟩
abbrev MX6_has : MI := (yX6_has, cX6_has, 2, (some .boolean))
abbrev rmX6_has : Room := { frames := 0, cells := 0, slots := 0, locals := 0 }
def tabX6_has : List (Nat × TE) := [(0, .iload_n 0, 1, 0, 0), (1, .iload_n 1, 1, 0, 0), (2, .ishr, 1, 0, 0), (3, .iconst 1, 1, 1, 0), (4, .iand, 1, 0, 0), (5, .iconst 1, 1, 1, 0), (6, .if_icmp .ne 7, 3, 0, 0), (9, .iconst 1, 1, 1, 0), (10, .goto 4, 3, 0, 0), (13, .iconst 0, 1, 0, 0), (14, .ireturn, 1, 0, 0)]
theorem tTX6_has : tOK RX6 cX6_has tabX6_has = true := by decide +kernel
theorem hMX6_has : MSt MX6_has 2 := ⟨gt_at 685 (by decide +kernel) rfl, gt_at 7 (by decide +kernel) rfl, gt_at 686 (by decide +kernel) rfl, by decide +kernel, by decide +kernel, by decide +kernel⟩
abbrev MX6_bits : MI := (yX6_bits, cX6_bits, 3, (some .int))
abbrev rmX6_bits : Room := { frames := 0, cells := 0, slots := 0, locals := 0 }
def tabX6_bits : List (Nat × TE) := [(0, .iconst 0, 1, 0, 0), (1, .istore_n 1, 1, 0, 0), (2, .iconst 0, 1, 0, 0), (3, .istore_n 2, 1, 0, 0), (4, .iload_n 2, 1, 0, 0), (5, .bipush 6, 2, 6, 0), (7, .if_icmp .ge 17, 3, 0, 0), (10, .iload_n 1, 1, 0, 0), (11, .iload_n 0, 1, 0, 0), (12, .iload_n 2, 1, 0, 0), (13, .ishr, 1, 0, 0), (14, .iconst 1, 1, 1, 0), (15, .iand, 1, 0, 0), (16, .iadd, 1, 0, 0), (17, .istore_n 1, 1, 0, 0), (18, .iinc 2 1, 3, 1, 0), (21, .goto (-17), 3, 0, 0), (24, .iload_n 1, 1, 0, 0), (25, .ireturn, 1, 0, 0)]
theorem tTX6_bits : tOK RX6 cX6_bits tabX6_bits = true := by decide +kernel
theorem hMX6_bits : MSt MX6_bits 1 := ⟨gt_at 688 (by decide +kernel) rfl, gt_at 7 (by decide +kernel) rfl, gt_at 689 (by decide +kernel) rfl, by decide +kernel, by decide +kernel, by decide +kernel⟩
abbrev MX6_isThere : MI := (yX6_isThere, cX6_isThere, 2, (some .boolean))
abbrev rmX6_isThere : Room := { frames := 1, cells := 0, slots := 0, locals := 22 }
def tabX6_isThere : List (Nat × TE) := [(0, .iload_n 1, 1, 0, 0), (1, .iconst 0, 1, 0, 0), (2, .iconst 5, 1, 5, 0), (3, .invokestatic 66, 3, 0, 0), (6, .ifCond .eq 18, 3, 0, 0), (9, .aload_n 0, 1, 0, 0), (10, .getfield 63, 3, 0, 0), (13, .iload_n 1, 1, 0, 0), (14, .invokestatic 70, 3, 0, 0), (17, .ifCond .eq 7, 3, 0, 0), (20, .iconst 1, 1, 1, 0), (21, .goto 4, 3, 0, 0), (24, .iconst 0, 1, 0, 0), (25, .ireturn, 1, 0, 0)]
theorem tTX6_isThere : tOK RX6 cX6_isThere tabX6_isThere = true := by decide +kernel
theorem hMX6_isThere : MV MX6_isThere 1 := ⟨gt_at 696 (by decide +kernel) rfl, gt_pv 2 (by decide +kernel) rfl, gt_at 7 (by decide +kernel) rfl, gt_at 697 (by decide +kernel) rfl, by decide +kernel, by decide +kernel, by decide +kernel⟩
abbrev MX6_neighbour : MI := (yX6_neighbour, cX6_neighbour, 4, (some .int))
abbrev rmX6_neighbour : Room := { frames := 1, cells := 0, slots := 0, locals := 22 }
def tabX6_neighbour : List (Nat × TE) := [(0, .iload_n 1, 1, 0, 0), (1, .iconst 0, 1, 0, 0), (2, .iconst 5, 1, 5, 0), (3, .invokestatic 66, 3, 0, 0), (6, .ifCond .ne 5, 3, 0, 0), (9, .iconst (-1), 1, (-1), 0), (10, .ireturn, 1, 0, 0), (11, .iload_n 2, 1, 0, 0), (12, .iconst 0, 1, 0, 0), (13, .bipush 99, 2, 99, 0), (15, .invokestatic 66, 3, 0, 0), (18, .ifCond .eq 13, 3, 0, 0), (21, .iload_n 3, 1, 0, 0), (22, .iconst 1, 1, 1, 0), (23, .bipush 20, 2, 20, 0), (25, .invokestatic 66, 3, 0, 0), (28, .ifCond .ne 6, 3, 0, 0), (31, .bipush (-2), 2, (-2), 0), (33, .ireturn, 1, 0, 0), (34, .aload_n 0, 1, 0, 0), (35, .getfield 63, 3, 0, 0), (38, .iload_n 1, 1, 0, 0), (39, .invokestatic 70, 3, 0, 0), (42, .ifCond .ne 25, 3, 0, 0), (45, .aload_n 0, 1, 0, 0), (46, .getfield 23, 3, 0, 0), (49, .iload_n 1, 1, 0, 0), (50, .iconst 0, 1, 0, 0), (51, .iastore, 1, 0, 0), (52, .aload_n 0, 1, 0, 0), (53, .getfield 26, 3, 0, 0), (56, .iload_n 1, 1, 0, 0), (57, .iconst 0, 1, 0, 0), (58, .iastore, 1, 0, 0), (59, .aload_n 0, 1, 0, 0), (60, .getfield 29, 3, 0, 0), (63, .iload_n 1, 1, 0, 0), (64, .bipush (-6), 2, (-6), 0), (66, .iastore, 1, 0, 0), (67, .aload_n 0, 1, 0, 0), (68, .dup, 1, 0, 0), (69, .getfield 63, 3, 0, 0), (72, .iconst 1, 1, 1, 0), (73, .iload_n 1, 1, 0, 0), (74, .ishl, 1, 0, 0), (75, .ior, 1, 0, 0), (76, .putfield 63, 3, 0, 0), (79, .aload_n 0, 1, 0, 0), (80, .getfield 20, 3, 0, 0), (83, .iload_n 1, 1, 0, 0), (84, .iload_n 2, 1, 0, 0), (85, .iastore, 1, 0, 0), (86, .aload_n 0, 1, 0, 0), (87, .getfield 7, 3, 0, 0), (90, .iload_n 1, 1, 0, 0), (91, .iload_n 3, 1, 0, 0), (92, .iastore, 1, 0, 0), (93, .aload_n 0, 1, 0, 0), (94, .getfield 63, 3, 0, 0), (97, .invokestatic 74, 3, 0, 0), (100, .ireturn, 1, 0, 0)]
theorem tTX6_neighbour : tOK RX6 cX6_neighbour tabX6_neighbour = true := by decide +kernel
theorem hMX6_neighbour : MV MX6_neighbour 3 := ⟨gt_at 678 (by decide +kernel) rfl, gt_at 679 (by decide +kernel) rfl, gt_at 7 (by decide +kernel) rfl, gt_at 680 (by decide +kernel) rfl, by decide +kernel, by decide +kernel, by decide +kernel⟩
abbrev MX6_move : MI := (yX6_move, cX6_move, 3, (some .int))
abbrev rmX6_move : Room := { frames := 2, cells := 0, slots := 0, locals := 43 }
def tabX6_move : List (Nat × TE) := [(0, .aload_n 0, 1, 0, 0), (1, .iload_n 1, 1, 0, 0), (2, .invokevirtual 78, 3, 0, 0), (5, .ifCond .ne 5, 3, 0, 0), (8, .iconst (-1), 1, (-1), 0), (9, .ireturn, 1, 0, 0), (10, .aload_n 0, 1, 0, 0), (11, .dup, 1, 0, 0), (12, .getfield 63, 3, 0, 0), (15, .iconst 1, 1, 1, 0), (16, .iload_n 1, 1, 0, 0), (17, .ishl, 1, 0, 0), (18, .iconst (-1), 1, (-1), 0), (19, .ixor, 1, 0, 0), (20, .iand, 1, 0, 0), (21, .putfield 63, 3, 0, 0), (24, .aload_n 0, 1, 0, 0), (25, .dup, 1, 0, 0), (26, .getfield 82, 3, 0, 0), (29, .iconst 1, 1, 1, 0), (30, .iload_n 1, 1, 0, 0), (31, .ishl, 1, 0, 0), (32, .iconst (-1), 1, (-1), 0), (33, .ixor, 1, 0, 0), (34, .iand, 1, 0, 0), (35, .putfield 82, 3, 0, 0), (38, .aload_n 0, 1, 0, 0), (39, .dup, 1, 0, 0), (40, .getfield 85, 3, 0, 0), (43, .iconst 1, 1, 1, 0), (44, .iload_n 1, 1, 0, 0), (45, .ishl, 1, 0, 0), (46, .iconst (-1), 1, (-1), 0), (47, .ixor, 1, 0, 0), (48, .iand, 1, 0, 0), (49, .putfield 85, 3, 0, 0), (52, .aload_n 0, 1, 0, 0), (53, .dup, 1, 0, 0), (54, .getfield 88, 3, 0, 0), (57, .iconst 1, 1, 1, 0), (58, .iload_n 1, 1, 0, 0), (59, .ishl, 1, 0, 0), (60, .iconst (-1), 1, (-1), 0), (61, .ixor, 1, 0, 0), (62, .iand, 1, 0, 0), (63, .putfield 88, 3, 0, 0), (66, .iconst 0, 1, 0, 0), (67, .istore_n 2, 1, 0, 0), (68, .iload_n 2, 1, 0, 0), (69, .bipush 6, 2, 6, 0), (71, .if_icmp .ge 50, 3, 0, 0), (74, .aload_n 0, 1, 0, 0), (75, .getfield 26, 3, 0, 0), (78, .iload_n 2, 1, 0, 0), (79, .dup2, 1, 0, 0), (80, .iaload, 1, 0, 0), (81, .iconst 1, 1, 1, 0), (82, .iload_n 1, 1, 0, 0), (83, .ishl, 1, 0, 0), (84, .iconst (-1), 1, (-1), 0), (85, .ixor, 1, 0, 0), (86, .iand, 1, 0, 0), (87, .iastore, 1, 0, 0), (88, .aload_n 0, 1, 0, 0), (89, .getfield 29, 3, 0, 0), (92, .iload_n 2, 1, 0, 0), (93, .aload_n 0, 1, 0, 0), (94, .getfield 29, 3, 0, 0), (97, .iload_n 2, 1, 0, 0), (98, .iaload, 1, 0, 0), (99, .iload_n 1, 1, 0, 0), (100, .if_icmp .ne 8, 3, 0, 0), (103, .bipush (-6), 2, (-6), 0), (105, .goto 9, 3, 0, 0), (108, .aload_n 0, 1, 0, 0), (109, .getfield 29, 3, 0, 0), (112, .iload_n 2, 1, 0, 0), (113, .iaload, 1, 0, 0), (114, .iastore, 1, 0, 0), (115, .iinc 2 1, 3, 1, 0), (118, .goto (-50), 3, 0, 0), (121, .aload_n 0, 1, 0, 0), (122, .getfield 26, 3, 0, 0), (125, .iload_n 1, 1, 0, 0), (126, .iconst 0, 1, 0, 0), (127, .iastore, 1, 0, 0), (128, .aload_n 0, 1, 0, 0), (129, .getfield 63, 3, 0, 0), (132, .invokestatic 74, 3, 0, 0), (135, .ireturn, 1, 0, 0)]
theorem tTX6_move : tOK RX6 cX6_move tabX6_move = true := by decide +kernel
theorem hMX6_move : MV MX6_move 1 := ⟨gt_at 691 (by decide +kernel) rfl, gt_at 692 (by decide +kernel) rfl, gt_at 7 (by decide +kernel) rfl, gt_at 693 (by decide +kernel) rfl, by decide +kernel, by decide +kernel, by decide +kernel⟩
abbrev MX6_frost : MI := (yX6_frost, cX6_frost, 3, (some .int))
abbrev rmX6_frost : Room := { frames := 1, cells := 0, slots := 0, locals := 22 }
def tabX6_frost : List (Nat × TE) := [(0, .iload_n 1, 1, 0, 0), (1, .iconst 0, 1, 0, 0), (2, .bipush 30, 2, 30, 0), (4, .invokestatic 66, 3, 0, 0), (7, .ifCond .ne 6, 3, 0, 0), (10, .bipush (-2), 2, (-2), 0), (12, .ireturn, 1, 0, 0), (13, .aload_n 0, 1, 0, 0), (14, .getfield 13, 3, 0, 0), (17, .istore_n 2, 1, 0, 0), (18, .aload_n 0, 1, 0, 0), (19, .iload_n 1, 1, 0, 0), (20, .putfield 13, 3, 0, 0), (23, .iload_n 2, 1, 0, 0), (24, .ireturn, 1, 0, 0)]
theorem tTX6_frost : tOK RX6 cX6_frost tabX6_frost = true := by decide +kernel
theorem hMX6_frost : MV MX6_frost 1 := ⟨gt_at 699 (by decide +kernel) rfl, gt_at 700 (by decide +kernel) rfl, gt_at 7 (by decide +kernel) rfl, gt_at 701 (by decide +kernel) rfl, by decide +kernel, by decide +kernel, by decide +kernel⟩
abbrev MX6_say : MI := (yX6_say, cX6_say, 2, (some .int))
abbrev rmX6_say : Room := { frames := 1, cells := 0, slots := 0, locals := 22 }
def tabX6_say : List (Nat × TE) := [(0, .iload_n 1, 1, 0, 0), (1, .bipush 33, 2, 33, 0), (3, .bipush 126, 2, 126, 0), (5, .invokestatic 66, 3, 0, 0), (8, .ifCond .ne 6, 3, 0, 0), (11, .bipush (-2), 2, (-2), 0), (13, .ireturn, 1, 0, 0), (14, .aload_n 0, 1, 0, 0), (15, .getfield 91, 3, 0, 0), (18, .bipush 60, 2, 60, 0), (20, .if_icmp .ne 6, 3, 0, 0), (23, .bipush (-4), 2, (-4), 0), (25, .ireturn, 1, 0, 0), (26, .aload_n 0, 1, 0, 0), (27, .getfield 32, 3, 0, 0), (30, .aload_n 0, 1, 0, 0), (31, .getfield 91, 3, 0, 0), (34, .iload_n 1, 1, 0, 0), (35, .iastore, 1, 0, 0), (36, .aload_n 0, 1, 0, 0), (37, .dup, 1, 0, 0), (38, .getfield 91, 3, 0, 0), (41, .iconst 1, 1, 1, 0), (42, .iadd, 1, 0, 0), (43, .putfield 91, 3, 0, 0), (46, .aload_n 0, 1, 0, 0), (47, .getfield 91, 3, 0, 0), (50, .ireturn, 1, 0, 0)]
theorem tTX6_say : tOK RX6 cX6_say tabX6_say = true := by decide +kernel
theorem hMX6_say : MV MX6_say 1 := ⟨gt_at 703 (by decide +kernel) rfl, gt_at 704 (by decide +kernel) rfl, gt_at 7 (by decide +kernel) rfl, gt_at 705 (by decide +kernel) rfl, by decide +kernel, by decide +kernel, by decide +kernel⟩
abbrev MX6_wipe : MI := (yX6_wipe, cX6_wipe, 2, (some .int))
abbrev rmX6_wipe : Room := { frames := 0, cells := 0, slots := 0, locals := 0 }
def tabX6_wipe : List (Nat × TE) := [(0, .aload_n 0, 1, 0, 0), (1, .getfield 91, 3, 0, 0), (4, .istore_n 1, 1, 0, 0), (5, .aload_n 0, 1, 0, 0), (6, .iconst 0, 1, 0, 0), (7, .putfield 91, 3, 0, 0), (10, .iload_n 1, 1, 0, 0), (11, .ireturn, 1, 0, 0)]
theorem tTX6_wipe : tOK RX6 cX6_wipe tabX6_wipe = true := by decide +kernel
theorem hMX6_wipe : MV MX6_wipe 0 := ⟨gt_at 707 (by decide +kernel) rfl, gt_at 708 (by decide +kernel) rfl, gt_at 7 (by decide +kernel) rfl, gt_at 709 (by decide +kernel) rfl, by decide +kernel, by decide +kernel, by decide +kernel⟩
abbrev MX6_isLetter : MI := (yX6_isLetter, cX6_isLetter, 1, (some .boolean))
abbrev rmX6_isLetter : Room := { frames := 1, cells := 0, slots := 0, locals := 22 }
def tabX6_isLetter : List (Nat × TE) := [(0, .iload_n 0, 1, 0, 0), (1, .bipush 65, 2, 65, 0), (3, .bipush 70, 2, 70, 0), (5, .invokestatic 66, 3, 0, 0), (8, .ireturn, 1, 0, 0)]
theorem tTX6_isLetter : tOK RX6 cX6_isLetter tabX6_isLetter = true := by decide +kernel
theorem hMX6_isLetter : MSt MX6_isLetter 1 := ⟨gt_at 719 (by decide +kernel) rfl, gt_at 7 (by decide +kernel) rfl, gt_at 720 (by decide +kernel) rfl, by decide +kernel, by decide +kernel, by decide +kernel⟩
abbrev MX6_faultOf : MI := (yX6_faultOf, cX6_faultOf, 5, (some .int))
abbrev rmX6_faultOf : Room := { frames := 2, cells := 0, slots := 0, locals := 42 }
def tabX6_faultOf : List (Nat × TE) := [(0, .iconst 0, 1, 0, 0), (1, .istore_n 1, 1, 0, 0), (2, .iconst 0, 1, 0, 0), (3, .istore_n 2, 1, 0, 0), (4, .iload_n 2, 1, 0, 0), (5, .aload_n 0, 1, 0, 0), (6, .getfield 91, 3, 0, 0), (9, .if_icmp .ge 103, 3, 0, 0), (12, .aload_n 0, 1, 0, 0), (13, .getfield 32, 3, 0, 0), (16, .iload_n 2, 1, 0, 0), (17, .iaload, 1, 0, 0), (18, .istore_n 3, 1, 0, 0), (19, .iload_n 1, 1, 0, 0), (20, .ifCond .eq 36, 3, 0, 0), (23, .iload_n 3, 1, 0, 0), (24, .invokestatic 94, 3, 0, 0), (27, .ifCond .ne 21, 3, 0, 0), (30, .iload_n 3, 1, 0, 0), (31, .bipush 42, 2, 42, 0), (33, .if_icmp .eq 15, 3, 0, 0), (36, .iload_n 3, 1, 0, 0), (37, .bipush 126, 2, 126, 0), (39, .if_icmp .eq 9, 3, 0, 0), (42, .iload_n 3, 1, 0, 0), (43, .bipush 33, 2, 33, 0), (45, .if_icmp .ne 7, 3, 0, 0), (48, .iconst 1, 1, 1, 0), (49, .goto 31, 3, 0, 0), (52, .iconst 0, 1, 0, 0), (53, .goto 27, 3, 0, 0), (56, .iload_n 3, 1, 0, 0), (57, .invokestatic 94, 3, 0, 0), (60, .ifCond .ne 15, 3, 0, 0), (63, .iload_n 3, 1, 0, 0), (64, .bipush 46, 2, 46, 0), (66, .if_icmp .eq 9, 3, 0, 0), (69, .iload_n 3, 1, 0, 0), (70, .bipush 36, 2, 36, 0), (72, .if_icmp .ne 7, 3, 0, 0), (75, .iconst 1, 1, 1, 0), (76, .goto 4, 3, 0, 0), (79, .iconst 0, 1, 0, 0), (80, .istore 4, 2, 0, 0), (82, .iload 4, 2, 0, 0), (84, .ifCond .ne 5, 3, 0, 0), (87, .iload_n 2, 1, 0, 0), (88, .ireturn, 1, 0, 0), (89, .iload_n 1, 1, 0, 0), (90, .ifCond .ne 14, 3, 0, 0), (93, .iload_n 3, 1, 0, 0), (94, .invokestatic 94, 3, 0, 0), (97, .ifCond .eq 7, 3, 0, 0), (100, .iconst 1, 1, 1, 0), (101, .goto 4, 3, 0, 0), (104, .iconst 0, 1, 0, 0), (105, .istore_n 1, 1, 0, 0), (106, .iinc 2 1, 3, 1, 0), (109, .goto (-105), 3, 0, 0), (112, .iload_n 1, 1, 0, 0), (113, .ifCond .eq 10, 3, 0, 0), (116, .aload_n 0, 1, 0, 0), (117, .getfield 91, 3, 0, 0), (120, .goto 5, 3, 0, 0), (123, .bipush (-6), 2, (-6), 0), (125, .ireturn, 1, 0, 0)]
theorem tTX6_faultOf : tOK RX6 cX6_faultOf tabX6_faultOf = true := by decide +kernel
theorem hMX6_faultOf : MV MX6_faultOf 0 := ⟨gt_at 716 (by decide +kernel) rfl, gt_pv 3 (by decide +kernel) rfl, gt_at 7 (by decide +kernel) rfl, gt_at 717 (by decide +kernel) rfl, by decide +kernel, by decide +kernel, by decide +kernel⟩
abbrev MX6_fault : MI := (yX6_fault, cX6_fault, 1, (some .int))
abbrev rmX6_fault : Room := { frames := 3, cells := 0, slots := 0, locals := 66 }
def tabX6_fault : List (Nat × TE) := [(0, .aload_n 0, 1, 0, 0), (1, .invokevirtual 97, 3, 0, 0), (4, .ireturn, 1, 0, 0)]
theorem tTX6_fault : tOK RX6 cX6_fault tabX6_fault = true := by decide +kernel
theorem hMX6_fault : MV MX6_fault 0 := ⟨gt_at 711 (by decide +kernel) rfl, gt_at 712 (by decide +kernel) rfl, gt_at 7 (by decide +kernel) rfl, gt_at 713 (by decide +kernel) rfl, by decide +kernel, by decide +kernel, by decide +kernel⟩
abbrev MX6_asNow : MI := (yX6_asNow, cX6_asNow, 2, none)
abbrev rmX6_asNow : Room := { frames := 0, cells := 0, slots := 0, locals := 0 }
def tabX6_asNow : List (Nat × TE) := [(0, .iconst 0, 1, 0, 0), (1, .istore_n 1, 1, 0, 0), (2, .iload_n 1, 1, 0, 0), (3, .bipush 6, 2, 6, 0), (5, .if_icmp .ge 57, 3, 0, 0), (8, .aload_n 0, 1, 0, 0), (9, .getfield 35, 3, 0, 0), (12, .iload_n 1, 1, 0, 0), (13, .aload_n 0, 1, 0, 0), (14, .getfield 20, 3, 0, 0), (17, .iload_n 1, 1, 0, 0), (18, .iaload, 1, 0, 0), (19, .iastore, 1, 0, 0), (20, .aload_n 0, 1, 0, 0), (21, .getfield 38, 3, 0, 0), (24, .iload_n 1, 1, 0, 0), (25, .aload_n 0, 1, 0, 0), (26, .getfield 23, 3, 0, 0), (29, .iload_n 1, 1, 0, 0), (30, .iaload, 1, 0, 0), (31, .iastore, 1, 0, 0), (32, .aload_n 0, 1, 0, 0), (33, .getfield 41, 3, 0, 0), (36, .iload_n 1, 1, 0, 0), (37, .aload_n 0, 1, 0, 0), (38, .getfield 26, 3, 0, 0), (41, .iload_n 1, 1, 0, 0), (42, .iaload, 1, 0, 0), (43, .iastore, 1, 0, 0), (44, .aload_n 0, 1, 0, 0), (45, .getfield 44, 3, 0, 0), (48, .iload_n 1, 1, 0, 0), (49, .aload_n 0, 1, 0, 0), (50, .getfield 29, 3, 0, 0), (53, .iload_n 1, 1, 0, 0), (54, .iaload, 1, 0, 0), (55, .iastore, 1, 0, 0), (56, .iinc 1 1, 3, 1, 0), (59, .goto (-57), 3, 0, 0), (62, .aload_n 0, 1, 0, 0), (63, .aload_n 0, 1, 0, 0), (64, .getfield 88, 3, 0, 0), (67, .putfield 101, 3, 0, 0), (70, .aload_n 0, 1, 0, 0), (71, .aload_n 0, 1, 0, 0), (72, .getfield 82, 3, 0, 0), (75, .putfield 104, 3, 0, 0), (78, .aload_n 0, 1, 0, 0), (79, .aload_n 0, 1, 0, 0), (80, .getfield 85, 3, 0, 0), (83, .putfield 107, 3, 0, 0), (86, .aload_n 0, 1, 0, 0), (87, .aload_n 0, 1, 0, 0), (88, .getfield 13, 3, 0, 0), (91, .putfield 110, 3, 0, 0), (94, .return_, 1, 0, 0)]
theorem tTX6_asNow : tOK RX6 cX6_asNow tabX6_asNow = true := by decide +kernel
theorem hMX6_asNow : MV MX6_asNow 0 := ⟨gt_at 731 (by decide +kernel) rfl, gt_pv 5 (by decide +kernel) rfl, gt_at 7 (by decide +kernel) rfl, gt_at 732 (by decide +kernel) rfl, by decide +kernel, by decide +kernel, by decide +kernel⟩
abbrev MX6_bar : MI := (yX6_bar, cX6_bar, 3, (some .int))
abbrev rmX6_bar : Room := { frames := 2, cells := 0, slots := 0, locals := 43 }
def tabX6_bar : List (Nat × TE) := [(0, .aload_n 0, 1, 0, 0), (1, .iload_n 1, 1, 0, 0), (2, .invokevirtual 78, 3, 0, 0), (5, .ifCond .eq 11, 3, 0, 0), (8, .aload_n 0, 1, 0, 0), (9, .iload_n 2, 1, 0, 0), (10, .invokevirtual 78, 3, 0, 0), (13, .ifCond .ne 5, 3, 0, 0), (16, .iconst 1, 1, 1, 0), (17, .ireturn, 1, 0, 0), (18, .iload_n 1, 1, 0, 0), (19, .iload_n 2, 1, 0, 0), (20, .if_icmp .ne 5, 3, 0, 0), (23, .iconst 2, 1, 2, 0), (24, .ireturn, 1, 0, 0), (25, .aload_n 0, 1, 0, 0), (26, .getfield 41, 3, 0, 0), (29, .iload_n 1, 1, 0, 0), (30, .iaload, 1, 0, 0), (31, .iload_n 2, 1, 0, 0), (32, .invokestatic 70, 3, 0, 0), (35, .ifCond .eq 7, 3, 0, 0), (38, .iconst 3, 1, 3, 0), (39, .goto 44, 3, 0, 0), (42, .aload_n 0, 1, 0, 0), (43, .getfield 104, 3, 0, 0), (46, .iload_n 2, 1, 0, 0), (47, .invokestatic 70, 3, 0, 0), (50, .ifCond .eq 18, 3, 0, 0), (53, .aload_n 0, 1, 0, 0), (54, .getfield 107, 3, 0, 0), (57, .iload_n 2, 1, 0, 0), (58, .invokestatic 70, 3, 0, 0), (61, .ifCond .ne 7, 3, 0, 0), (64, .iconst 5, 1, 5, 0), (65, .goto 18, 3, 0, 0), (68, .aload_n 0, 1, 0, 0), (69, .getfield 35, 3, 0, 0), (72, .iload_n 2, 1, 0, 0), (73, .iaload, 1, 0, 0), (74, .ifCond .ne 8, 3, 0, 0), (77, .bipush 6, 2, 6, 0), (79, .goto 4, 3, 0, 0), (82, .iconst 0, 1, 0, 0), (83, .ireturn, 1, 0, 0)]
theorem tTX6_bar : tOK RX6 cX6_bar tabX6_bar = true := by decide +kernel
theorem hMX6_bar : MV MX6_bar 2 := ⟨gt_at 751 (by decide +kernel) rfl, gt_pv 10 (by decide +kernel) rfl, gt_at 7 (by decide +kernel) rfl, gt_at 752 (by decide +kernel) rfl, by decide +kernel, by decide +kernel, by decide +kernel⟩
abbrev MX6_whyNot : MI := (yX6_whyNot, cX6_whyNot, 4, (some .int))
abbrev rmX6_whyNot : Room := { frames := 3, cells := 0, slots := 0, locals := 65 }
def tabX6_whyNot : List (Nat × TE) := [(0, .aload_n 0, 1, 0, 0), (1, .iload_n 1, 1, 0, 0), (2, .iload_n 2, 1, 0, 0), (3, .invokevirtual 113, 3, 0, 0), (6, .istore_n 3, 1, 0, 0), (7, .iload_n 3, 1, 0, 0), (8, .ifCond .le 10, 3, 0, 0), (11, .iload_n 3, 1, 0, 0), (12, .iconst 4, 1, 4, 0), (13, .if_icmp .ge 5, 3, 0, 0), (16, .iload_n 3, 1, 0, 0), (17, .ireturn, 1, 0, 0), (18, .aload_n 0, 1, 0, 0), (19, .getfield 101, 3, 0, 0), (22, .iload_n 1, 1, 0, 0), (23, .invokestatic 70, 3, 0, 0), (26, .ifCond .eq 7, 3, 0, 0), (29, .iconst 4, 1, 4, 0), (30, .goto 24, 3, 0, 0), (33, .iload_n 3, 1, 0, 0), (34, .ifCond .le 7, 3, 0, 0), (37, .iload_n 3, 1, 0, 0), (38, .goto 16, 3, 0, 0), (41, .aload_n 0, 1, 0, 0), (42, .getfield 110, 3, 0, 0), (45, .ifCond .ne 8, 3, 0, 0), (48, .bipush 7, 2, 7, 0), (50, .goto 4, 3, 0, 0), (53, .iconst 0, 1, 0, 0), (54, .ireturn, 1, 0, 0)]
theorem tTX6_whyNot : tOK RX6 cX6_whyNot tabX6_whyNot = true := by decide +kernel
theorem hMX6_whyNot : MV MX6_whyNot 2 := ⟨gt_at 747 (by decide +kernel) rfl, gt_pv 9 (by decide +kernel) rfl, gt_at 7 (by decide +kernel) rfl, gt_at 748 (by decide +kernel) rfl, by decide +kernel, by decide +kernel, by decide +kernel⟩
abbrev MX6_takes : MI := (yX6_takes, cX6_takes, 3, (some .int))
abbrev rmX6_takes : Room := { frames := 0, cells := 0, slots := 0, locals := 0 }
def tabX6_takes : List (Nat × TE) := [(0, .aload_n 0, 1, 0, 0), (1, .getfield 7, 3, 0, 0), (4, .iload_n 1, 1, 0, 0), (5, .iaload, 1, 0, 0), (6, .aload_n 0, 1, 0, 0), (7, .getfield 35, 3, 0, 0), (10, .iload_n 2, 1, 0, 0), (11, .iaload, 1, 0, 0), (12, .if_icmp .ge 12, 3, 0, 0), (15, .aload_n 0, 1, 0, 0), (16, .getfield 7, 3, 0, 0), (19, .iload_n 1, 1, 0, 0), (20, .iaload, 1, 0, 0), (21, .goto 9, 3, 0, 0), (24, .aload_n 0, 1, 0, 0), (25, .getfield 35, 3, 0, 0), (28, .iload_n 2, 1, 0, 0), (29, .iaload, 1, 0, 0), (30, .ireturn, 1, 0, 0)]
theorem tTX6_takes : tOK RX6 cX6_takes tabX6_takes = true := by decide +kernel
theorem hMX6_takes : MV MX6_takes 2 := ⟨gt_at 759 (by decide +kernel) rfl, gt_pv 12 (by decide +kernel) rfl, gt_at 7 (by decide +kernel) rfl, gt_at 760 (by decide +kernel) rfl, by decide +kernel, by decide +kernel, by decide +kernel⟩
abbrev MX6_rob : MI := (yX6_rob, cX6_rob, 4, none)
abbrev rmX6_rob : Room := { frames := 1, cells := 0, slots := 0, locals := 22 }
def tabX6_rob : List (Nat × TE) := [(0, .aload_n 0, 1, 0, 0), (1, .iload_n 1, 1, 0, 0), (2, .iload_n 2, 1, 0, 0), (3, .invokevirtual 117, 3, 0, 0), (6, .istore_n 3, 1, 0, 0), (7, .aload_n 0, 1, 0, 0), (8, .getfield 35, 3, 0, 0), (11, .iload_n 2, 1, 0, 0), (12, .dup2, 1, 0, 0), (13, .iaload, 1, 0, 0), (14, .iload_n 3, 1, 0, 0), (15, .isub, 1, 0, 0), (16, .iastore, 1, 0, 0), (17, .aload_n 0, 1, 0, 0), (18, .getfield 38, 3, 0, 0), (21, .iload_n 1, 1, 0, 0), (22, .dup2, 1, 0, 0), (23, .iaload, 1, 0, 0), (24, .iload_n 3, 1, 0, 0), (25, .iadd, 1, 0, 0), (26, .iastore, 1, 0, 0), (27, .aload_n 0, 1, 0, 0), (28, .getfield 41, 3, 0, 0), (31, .iload_n 1, 1, 0, 0), (32, .dup2, 1, 0, 0), (33, .iaload, 1, 0, 0), (34, .iconst 1, 1, 1, 0), (35, .iload_n 2, 1, 0, 0), (36, .ishl, 1, 0, 0), (37, .ior, 1, 0, 0), (38, .iastore, 1, 0, 0), (39, .aload_n 0, 1, 0, 0), (40, .getfield 44, 3, 0, 0), (43, .iload_n 1, 1, 0, 0), (44, .iload_n 2, 1, 0, 0), (45, .iastore, 1, 0, 0), (46, .aload_n 0, 1, 0, 0), (47, .dup, 1, 0, 0), (48, .getfield 101, 3, 0, 0), (51, .iconst 1, 1, 1, 0), (52, .iload_n 1, 1, 0, 0), (53, .ishl, 1, 0, 0), (54, .ior, 1, 0, 0), (55, .putfield 101, 3, 0, 0), (58, .return_, 1, 0, 0)]
theorem tTX6_rob : tOK RX6 cX6_rob tabX6_rob = true := by decide +kernel
theorem hMX6_rob : MV MX6_rob 2 := ⟨gt_at 755 (by decide +kernel) rfl, gt_pv 11 (by decide +kernel) rfl, gt_at 7 (by decide +kernel) rfl, gt_at 756 (by decide +kernel) rfl, by decide +kernel, by decide +kernel, by decide +kernel⟩
abbrev MX6_whyNotCaught : MI := (yX6_whyNotCaught, cX6_whyNotCaught, 2, (some .int))
abbrev rmX6_whyNotCaught : Room := { frames := 2, cells := 0, slots := 0, locals := 43 }
def tabX6_whyNotCaught : List (Nat × TE) := [(0, .aload_n 0, 1, 0, 0), (1, .iload_n 1, 1, 0, 0), (2, .invokevirtual 78, 3, 0, 0), (5, .ifCond .ne 7, 3, 0, 0), (8, .iconst 1, 1, 1, 0), (9, .goto 29, 3, 0, 0), (12, .aload_n 0, 1, 0, 0), (13, .getfield 101, 3, 0, 0), (16, .iload_n 1, 1, 0, 0), (17, .invokestatic 70, 3, 0, 0), (20, .ifCond .eq 12, 3, 0, 0), (23, .aload_n 0, 1, 0, 0), (24, .getfield 44, 3, 0, 0), (27, .iload_n 1, 1, 0, 0), (28, .iaload, 1, 0, 0), (29, .ifCond .ge 8, 3, 0, 0), (32, .bipush 8, 2, 8, 0), (34, .goto 4, 3, 0, 0), (37, .iconst 0, 1, 0, 0), (38, .ireturn, 1, 0, 0)]
theorem tTX6_whyNotCaught : tOK RX6 cX6_whyNotCaught tabX6_whyNotCaught = true := by decide +kernel
theorem hMX6_whyNotCaught : MV MX6_whyNotCaught 1 := ⟨gt_at 763 (by decide +kernel) rfl, gt_pv 13 (by decide +kernel) rfl, gt_at 7 (by decide +kernel) rfl, gt_at 764 (by decide +kernel) rfl, by decide +kernel, by decide +kernel, by decide +kernel⟩
abbrev MX6_caughtNow : MI := (yX6_caughtNow, cX6_caughtNow, 4, none)
abbrev rmX6_caughtNow : Room := { frames := 0, cells := 0, slots := 0, locals := 0 }
def tabX6_caughtNow : List (Nat × TE) := [(0, .aload_n 0, 1, 0, 0), (1, .getfield 38, 3, 0, 0), (4, .iload_n 1, 1, 0, 0), (5, .iaload, 1, 0, 0), (6, .bipush 9, 2, 9, 0), (8, .if_icmp .ge 12, 3, 0, 0), (11, .aload_n 0, 1, 0, 0), (12, .getfield 38, 3, 0, 0), (15, .iload_n 1, 1, 0, 0), (16, .iaload, 1, 0, 0), (17, .goto 5, 3, 0, 0), (20, .bipush 9, 2, 9, 0), (22, .istore_n 2, 1, 0, 0), (23, .aload_n 0, 1, 0, 0), (24, .getfield 44, 3, 0, 0), (27, .iload_n 1, 1, 0, 0), (28, .iaload, 1, 0, 0), (29, .istore_n 3, 1, 0, 0), (30, .aload_n 0, 1, 0, 0), (31, .getfield 38, 3, 0, 0), (34, .iload_n 1, 1, 0, 0), (35, .dup2, 1, 0, 0), (36, .iaload, 1, 0, 0), (37, .iload_n 2, 1, 0, 0), (38, .isub, 1, 0, 0), (39, .iastore, 1, 0, 0), (40, .aload_n 0, 1, 0, 0), (41, .getfield 35, 3, 0, 0), (44, .iload_n 3, 1, 0, 0), (45, .aload_n 0, 1, 0, 0), (46, .getfield 35, 3, 0, 0), (49, .iload_n 3, 1, 0, 0), (50, .iaload, 1, 0, 0), (51, .iload_n 2, 1, 0, 0), (52, .iadd, 1, 0, 0), (53, .bipush 99, 2, 99, 0), (55, .if_icmp .le 8, 3, 0, 0), (58, .bipush 99, 2, 99, 0), (60, .goto 11, 3, 0, 0), (63, .aload_n 0, 1, 0, 0), (64, .getfield 35, 3, 0, 0), (67, .iload_n 3, 1, 0, 0), (68, .iaload, 1, 0, 0), (69, .iload_n 2, 1, 0, 0), (70, .iadd, 1, 0, 0), (71, .iastore, 1, 0, 0), (72, .return_, 1, 0, 0)]
theorem tTX6_caughtNow : tOK RX6 cX6_caughtNow tabX6_caughtNow = true := by decide +kernel
theorem hMX6_caughtNow : MV MX6_caughtNow 1 := ⟨gt_at 767 (by decide +kernel) rfl, gt_pv 14 (by decide +kernel) rfl, gt_at 7 (by decide +kernel) rfl, gt_at 768 (by decide +kernel) rfl, by decide +kernel, by decide +kernel, by decide +kernel⟩
abbrev MX6_nobodyOut : MI := (yX6_nobodyOut, cX6_nobodyOut, 2, none)
abbrev rmX6_nobodyOut : Room := { frames := 0, cells := 0, slots := 0, locals := 0 }
def tabX6_nobodyOut : List (Nat × TE) := [(0, .aload_n 0, 1, 0, 0), (1, .iconst 0, 1, 0, 0), (2, .putfield 101, 3, 0, 0), (5, .iconst 0, 1, 0, 0), (6, .istore_n 1, 1, 0, 0), (7, .iload_n 1, 1, 0, 0), (8, .bipush 6, 2, 6, 0), (10, .if_icmp .ge 17, 3, 0, 0), (13, .aload_n 0, 1, 0, 0), (14, .getfield 44, 3, 0, 0), (17, .iload_n 1, 1, 0, 0), (18, .bipush (-6), 2, (-6), 0), (20, .iastore, 1, 0, 0), (21, .iinc 1 1, 3, 1, 0), (24, .goto (-17), 3, 0, 0), (27, .return_, 1, 0, 0)]
theorem tTX6_nobodyOut : tOK RX6 cX6_nobodyOut tabX6_nobodyOut = true := by decide +kernel
theorem hMX6_nobodyOut : MV MX6_nobodyOut 0 := ⟨gt_at 739 (by decide +kernel) rfl, gt_pv 7 (by decide +kernel) rfl, gt_at 7 (by decide +kernel) rfl, gt_at 740 (by decide +kernel) rfl, by decide +kernel, by decide +kernel, by decide +kernel⟩
abbrev MX6_act : MI := (yX6_act, cX6_act, 4, (some .int))
abbrev rmX6_act : Room := { frames := 4, cells := 0, slots := 0, locals := 88 }
def tabX6_act : List (Nat × TE) := [(0, .iload_n 2, 1, 0, 0), (1, .invokestatic 94, 3, 0, 0), (4, .ifCond .eq 29, 3, 0, 0), (7, .aload_n 0, 1, 0, 0), (8, .iload_n 1, 1, 0, 0), (9, .iload_n 2, 1, 0, 0), (10, .bipush 65, 2, 65, 0), (12, .isub, 1, 0, 0), (13, .invokevirtual 120, 3, 0, 0), (16, .istore_n 3, 1, 0, 0), (17, .iload_n 3, 1, 0, 0), (18, .ifCond .ne 105, 3, 0, 0), (21, .aload_n 0, 1, 0, 0), (22, .iload_n 1, 1, 0, 0), (23, .iload_n 2, 1, 0, 0), (24, .bipush 65, 2, 65, 0), (26, .isub, 1, 0, 0), (27, .invokevirtual 123, 3, 0, 0), (30, .goto 93, 3, 0, 0), (33, .iload_n 2, 1, 0, 0), (34, .bipush 33, 2, 33, 0), (36, .if_icmp .ne 21, 3, 0, 0), (39, .aload_n 0, 1, 0, 0), (40, .iload_n 1, 1, 0, 0), (41, .invokevirtual 127, 3, 0, 0), (44, .istore_n 3, 1, 0, 0), (45, .iload_n 3, 1, 0, 0), (46, .ifCond .ne 77, 3, 0, 0), (49, .aload_n 0, 1, 0, 0), (50, .iload_n 1, 1, 0, 0), (51, .invokevirtual 130, 3, 0, 0), (54, .goto 69, 3, 0, 0), (57, .aload_n 0, 1, 0, 0), (58, .iload_n 1, 1, 0, 0), (59, .invokevirtual 78, 3, 0, 0), (62, .ifCond .eq 7, 3, 0, 0), (65, .iconst 0, 1, 0, 0), (66, .goto 4, 3, 0, 0), (69, .iconst 1, 1, 1, 0), (70, .istore_n 3, 1, 0, 0), (71, .aload_n 0, 1, 0, 0), (72, .dup, 1, 0, 0), (73, .getfield 107, 3, 0, 0), (76, .iload_n 3, 1, 0, 0), (77, .ifCond .ne 15, 3, 0, 0), (80, .iload_n 2, 1, 0, 0), (81, .bipush 42, 2, 42, 0), (83, .if_icmp .ne 9, 3, 0, 0), (86, .iconst 1, 1, 1, 0), (87, .iload_n 1, 1, 0, 0), (88, .ishl, 1, 0, 0), (89, .goto 4, 3, 0, 0), (92, .iconst 0, 1, 0, 0), (93, .ixor, 1, 0, 0), (94, .putfield 107, 3, 0, 0), (97, .aload_n 0, 1, 0, 0), (98, .dup, 1, 0, 0), (99, .getfield 104, 3, 0, 0), (102, .iload_n 3, 1, 0, 0), (103, .ifCond .ne 15, 3, 0, 0), (106, .iload_n 2, 1, 0, 0), (107, .bipush 126, 2, 126, 0), (109, .if_icmp .ne 9, 3, 0, 0), (112, .iconst 1, 1, 1, 0), (113, .iload_n 1, 1, 0, 0), (114, .ishl, 1, 0, 0), (115, .goto 4, 3, 0, 0), (118, .iconst 0, 1, 0, 0), (119, .ixor, 1, 0, 0), (120, .putfield 104, 3, 0, 0), (123, .iload_n 3, 1, 0, 0), (124, .ireturn, 1, 0, 0)]
theorem tTX6_act : tOK RX6 cX6_act tabX6_act = true := by decide +kernel
theorem hMX6_act : MV MX6_act 2 := ⟨gt_at 743 (by decide +kernel) rfl, gt_pv 8 (by decide +kernel) rfl, gt_at 7 (by decide +kernel) rfl, gt_at 744 (by decide +kernel) rfl, by decide +kernel, by decide +kernel, by decide +kernel⟩
abbrev MX6_endNight : MI := (yX6_endNight, cX6_endNight, 1, (some .int))
abbrev rmX6_endNight : Room := { frames := 1, cells := 0, slots := 0, locals := 21 }
def tabX6_endNight : List (Nat × TE) := [(0, .aload_n 0, 1, 0, 0), (1, .getfield 110, 3, 0, 0), (4, .ifCond .ne 6, 3, 0, 0), (7, .bipush 7, 2, 7, 0), (9, .ireturn, 1, 0, 0), (10, .aload_n 0, 1, 0, 0), (11, .dup, 1, 0, 0), (12, .getfield 110, 3, 0, 0), (15, .iconst 1, 1, 1, 0), (16, .isub, 1, 0, 0), (17, .putfield 110, 3, 0, 0), (20, .aload_n 0, 1, 0, 0), (21, .invokevirtual 134, 3, 0, 0), (24, .iconst 0, 1, 0, 0), (25, .ireturn, 1, 0, 0)]
theorem tTX6_endNight : tOK RX6 cX6_endNight tabX6_endNight = true := by decide +kernel
theorem hMX6_endNight : MV MX6_endNight 0 := ⟨gt_at 735 (by decide +kernel) rfl, gt_pv 6 (by decide +kernel) rfl, gt_at 7 (by decide +kernel) rfl, gt_at 736 (by decide +kernel) rfl, by decide +kernel, by decide +kernel, by decide +kernel⟩
abbrev MX6_goNights : MI := (yX6_goNights, cX6_goNights, 4, (some .int))
abbrev rmX6_goNights : Room := { frames := 5, cells := 0, slots := 0, locals := 111 }
def tabX6_goNights : List (Nat × TE) := [(0, .aload_n 0, 1, 0, 0), (1, .invokevirtual 137, 3, 0, 0), (4, .aload_n 0, 1, 0, 0), (5, .iconst 0, 1, 0, 0), (6, .putfield 140, 3, 0, 0), (9, .iconst 0, 1, 0, 0), (10, .istore_n 1, 1, 0, 0), (11, .iload_n 1, 1, 0, 0), (12, .aload_n 0, 1, 0, 0), (13, .getfield 91, 3, 0, 0), (16, .if_icmp .ge 120, 3, 0, 0), (19, .aload_n 0, 1, 0, 0), (20, .getfield 32, 3, 0, 0), (23, .iload_n 1, 1, 0, 0), (24, .iaload, 1, 0, 0), (25, .istore_n 2, 1, 0, 0), (26, .iload_n 2, 1, 0, 0), (27, .bipush 46, 2, 46, 0), (29, .if_icmp .ne 17, 3, 0, 0), (32, .aload_n 0, 1, 0, 0), (33, .aload_n 0, 1, 0, 0), (34, .invokevirtual 143, 3, 0, 0), (37, .putfield 146, 3, 0, 0), (40, .iinc 1 1, 3, 1, 0), (43, .goto 68, 3, 0, 0), (46, .iload_n 2, 1, 0, 0), (47, .bipush 36, 2, 36, 0), (49, .if_icmp .ne 39, 3, 0, 0), (52, .aload_n 0, 1, 0, 0), (53, .iconst 0, 1, 0, 0), (54, .putfield 146, 3, 0, 0), (57, .aload_n 0, 1, 0, 0), (58, .invokevirtual 134, 3, 0, 0), (61, .iconst 0, 1, 0, 0), (62, .istore_n 3, 1, 0, 0), (63, .iload_n 3, 1, 0, 0), (64, .bipush 6, 2, 6, 0), (66, .if_icmp .ge 16, 3, 0, 0), (69, .aload_n 0, 1, 0, 0), (70, .getfield 41, 3, 0, 0), (73, .iload_n 3, 1, 0, 0), (74, .iconst 0, 1, 0, 0), (75, .iastore, 1, 0, 0), (76, .iinc 3 1, 3, 1, 0), (79, .goto (-16), 3, 0, 0), (82, .iinc 1 1, 3, 1, 0), (85, .goto 26, 3, 0, 0), (88, .aload_n 0, 1, 0, 0), (89, .aload_n 0, 1, 0, 0), (90, .iload_n 2, 1, 0, 0), (91, .bipush 65, 2, 65, 0), (93, .isub, 1, 0, 0), (94, .aload_n 0, 1, 0, 0), (95, .getfield 32, 3, 0, 0), (98, .iload_n 1, 1, 0, 0), (99, .iconst 1, 1, 1, 0), (100, .iadd, 1, 0, 0), (101, .iaload, 1, 0, 0), (102, .invokevirtual 149, 3, 0, 0), (105, .putfield 146, 3, 0, 0), (108, .iinc 1 2, 3, 2, 0), (111, .aload_n 0, 1, 0, 0), (112, .getfield 146, 3, 0, 0), (115, .ifCond .le 8, 3, 0, 0), (118, .aload_n 0, 1, 0, 0), (119, .getfield 140, 3, 0, 0), (122, .ireturn, 1, 0, 0), (123, .aload_n 0, 1, 0, 0), (124, .dup, 1, 0, 0), (125, .getfield 140, 3, 0, 0), (128, .iconst 1, 1, 1, 0), (129, .iadd, 1, 0, 0), (130, .putfield 140, 3, 0, 0), (133, .goto (-122), 3, 0, 0), (136, .bipush (-6), 2, (-6), 0), (138, .ireturn, 1, 0, 0)]
theorem tTX6_goNights : tOK RX6 cX6_goNights tabX6_goNights = true := by decide +kernel
theorem hMX6_goNights : MV MX6_goNights 0 := ⟨gt_at 727 (by decide +kernel) rfl, gt_pv 4 (by decide +kernel) rfl, gt_at 7 (by decide +kernel) rfl, gt_at 728 (by decide +kernel) rfl, by decide +kernel, by decide +kernel, by decide +kernel⟩
abbrev MX6_judge : MI := (yX6_judge, cX6_judge, 3, (some .int))
abbrev rmX6_judge : Room := { frames := 6, cells := 0, slots := 0, locals := 134 }
def tabX6_judge : List (Nat × TE) := [(0, .iload_n 1, 1, 0, 0), (1, .iconst 0, 1, 0, 0), (2, .iconst 1, 1, 1, 0), (3, .invokestatic 66, 3, 0, 0), (6, .ifCond .ne 6, 3, 0, 0), (9, .bipush (-2), 2, (-2), 0), (11, .ireturn, 1, 0, 0), (12, .aload_n 0, 1, 0, 0), (13, .invokevirtual 97, 3, 0, 0), (16, .ifCond .lt 6, 3, 0, 0), (19, .bipush (-5), 2, (-5), 0), (21, .ireturn, 1, 0, 0), (22, .aload_n 0, 1, 0, 0), (23, .invokevirtual 152, 3, 0, 0), (26, .istore_n 2, 1, 0, 0), (27, .iload_n 2, 1, 0, 0), (28, .ifCond .lt 7, 3, 0, 0), (31, .iload_n 1, 1, 0, 0), (32, .ifCond .ne 7, 3, 0, 0), (35, .iload_n 2, 1, 0, 0), (36, .goto 7, 3, 0, 0), (39, .aload_n 0, 1, 0, 0), (40, .getfield 146, 3, 0, 0), (43, .ireturn, 1, 0, 0)]
theorem tTX6_judge : tOK RX6 cX6_judge tabX6_judge = true := by decide +kernel
theorem hMX6_judge : MV MX6_judge 1 := ⟨gt_at 722 (by decide +kernel) rfl, gt_at 723 (by decide +kernel) rfl, gt_at 7 (by decide +kernel) rfl, gt_at 724 (by decide +kernel) rfl, by decide +kernel, by decide +kernel, by decide +kernel⟩
abbrev MX6_barOfNights : MI := (yX6_barOfNights, cX6_barOfNights, 1, (some .int))
abbrev rmX6_barOfNights : Room := { frames := 6, cells := 0, slots := 0, locals := 134 }
def tabX6_barOfNights : List (Nat × TE) := [(0, .aload_n 0, 1, 0, 0), (1, .invokevirtual 97, 3, 0, 0), (4, .ifCond .ge 10, 3, 0, 0), (7, .aload_n 0, 1, 0, 0), (8, .invokevirtual 152, 3, 0, 0), (11, .ifCond .lt 8, 3, 0, 0), (14, .bipush (-5), 2, (-5), 0), (16, .goto 4, 3, 0, 0), (19, .iconst 0, 1, 0, 0), (20, .ireturn, 1, 0, 0)]
theorem tTX6_barOfNights : tOK RX6 cX6_barOfNights tabX6_barOfNights = true := by decide +kernel
theorem hMX6_barOfNights : MV MX6_barOfNights 0 := ⟨gt_at 775 (by decide +kernel) rfl, gt_pv 15 (by decide +kernel) rfl, gt_at 7 (by decide +kernel) rfl, gt_at 776 (by decide +kernel) rfl, by decide +kernel, by decide +kernel, by decide +kernel⟩
abbrev MX6_done : MI := (yX6_done, cX6_done, 2, (some .int))
abbrev rmX6_done : Room := { frames := 7, cells := 0, slots := 0, locals := 154 }
def tabX6_done : List (Nat × TE) := [(0, .aload_n 0, 1, 0, 0), (1, .invokevirtual 155, 3, 0, 0), (4, .ifCond .ge 6, 3, 0, 0), (7, .bipush (-5), 2, (-5), 0), (9, .ireturn, 1, 0, 0), (10, .iconst 0, 1, 0, 0), (11, .istore_n 1, 1, 0, 0), (12, .iload_n 1, 1, 0, 0), (13, .bipush 6, 2, 6, 0), (15, .if_icmp .ge 57, 3, 0, 0), (18, .aload_n 0, 1, 0, 0), (19, .getfield 20, 3, 0, 0), (22, .iload_n 1, 1, 0, 0), (23, .aload_n 0, 1, 0, 0), (24, .getfield 35, 3, 0, 0), (27, .iload_n 1, 1, 0, 0), (28, .iaload, 1, 0, 0), (29, .iastore, 1, 0, 0), (30, .aload_n 0, 1, 0, 0), (31, .getfield 23, 3, 0, 0), (34, .iload_n 1, 1, 0, 0), (35, .aload_n 0, 1, 0, 0), (36, .getfield 38, 3, 0, 0), (39, .iload_n 1, 1, 0, 0), (40, .iaload, 1, 0, 0), (41, .iastore, 1, 0, 0), (42, .aload_n 0, 1, 0, 0), (43, .getfield 26, 3, 0, 0), (46, .iload_n 1, 1, 0, 0), (47, .aload_n 0, 1, 0, 0), (48, .getfield 41, 3, 0, 0), (51, .iload_n 1, 1, 0, 0), (52, .iaload, 1, 0, 0), (53, .iastore, 1, 0, 0), (54, .aload_n 0, 1, 0, 0), (55, .getfield 29, 3, 0, 0), (58, .iload_n 1, 1, 0, 0), (59, .aload_n 0, 1, 0, 0), (60, .getfield 44, 3, 0, 0), (63, .iload_n 1, 1, 0, 0), (64, .iaload, 1, 0, 0), (65, .iastore, 1, 0, 0), (66, .iinc 1 1, 3, 1, 0), (69, .goto (-57), 3, 0, 0), (72, .aload_n 0, 1, 0, 0), (73, .aload_n 0, 1, 0, 0), (74, .getfield 101, 3, 0, 0), (77, .putfield 88, 3, 0, 0), (80, .aload_n 0, 1, 0, 0), (81, .aload_n 0, 1, 0, 0), (82, .getfield 104, 3, 0, 0), (85, .putfield 82, 3, 0, 0), (88, .aload_n 0, 1, 0, 0), (89, .aload_n 0, 1, 0, 0), (90, .getfield 107, 3, 0, 0), (93, .putfield 85, 3, 0, 0), (96, .aload_n 0, 1, 0, 0), (97, .aload_n 0, 1, 0, 0), (98, .getfield 110, 3, 0, 0), (101, .putfield 13, 3, 0, 0), (104, .aload_n 0, 1, 0, 0), (105, .iconst 0, 1, 0, 0), (106, .putfield 91, 3, 0, 0), (109, .aload_n 0, 1, 0, 0), (110, .getfield 140, 3, 0, 0), (113, .ireturn, 1, 0, 0)]
theorem tTX6_done : tOK RX6 cX6_done tabX6_done = true := by decide +kernel
theorem hMX6_done : MV MX6_done 0 := ⟨gt_at 770 (by decide +kernel) rfl, gt_at 771 (by decide +kernel) rfl, gt_at 7 (by decide +kernel) rfl, gt_at 772 (by decide +kernel) rfl, by decide +kernel, by decide +kernel, by decide +kernel⟩
abbrev MX6_stateNow : MI := (yX6_stateNow, cX6_stateNow, 3, (some .int))
abbrev rmX6_stateNow : Room := { frames := 0, cells := 0, slots := 0, locals := 0 }
def tabX6_stateNow : List (Nat × TE) := [(0, .iload_n 2, 1, 0, 0), (1, .ifCond .ne 12, 3, 0, 0), (4, .aload_n 0, 1, 0, 0), (5, .getfield 35, 3, 0, 0), (8, .iload_n 1, 1, 0, 0), (9, .iaload, 1, 0, 0), (10, .goto 39, 3, 0, 0), (13, .iload_n 2, 1, 0, 0), (14, .iconst 1, 1, 1, 0), (15, .if_icmp .ne 12, 3, 0, 0), (18, .aload_n 0, 1, 0, 0), (19, .getfield 38, 3, 0, 0), (22, .iload_n 1, 1, 0, 0), (23, .iaload, 1, 0, 0), (24, .goto 25, 3, 0, 0), (27, .iload_n 2, 1, 0, 0), (28, .iconst 2, 1, 2, 0), (29, .if_icmp .ne 14, 3, 0, 0), (32, .aload_n 0, 1, 0, 0), (33, .getfield 101, 3, 0, 0), (36, .iload_n 1, 1, 0, 0), (37, .ishr, 1, 0, 0), (38, .iconst 1, 1, 1, 0), (39, .iand, 1, 0, 0), (40, .goto 9, 3, 0, 0), (43, .aload_n 0, 1, 0, 0), (44, .getfield 41, 3, 0, 0), (47, .iload_n 1, 1, 0, 0), (48, .iaload, 1, 0, 0), (49, .ireturn, 1, 0, 0)]
theorem tTX6_stateNow : tOK RX6 cX6_stateNow tabX6_stateNow = true := by decide +kernel
theorem hMX6_stateNow : MV MX6_stateNow 2 := ⟨gt_at 783 (by decide +kernel) rfl, gt_pv 16 (by decide +kernel) rfl, gt_at 7 (by decide +kernel) rfl, gt_at 784 (by decide +kernel) rfl, by decide +kernel, by decide +kernel, by decide +kernel⟩
abbrev MX6_state : MI := (yX6_state, cX6_state, 3, (some .int))
abbrev rmX6_state : Room := { frames := 2, cells := 0, slots := 0, locals := 43 }
def tabX6_state : List (Nat × TE) := [(0, .aload_n 0, 1, 0, 0), (1, .iload_n 1, 1, 0, 0), (2, .invokevirtual 78, 3, 0, 0), (5, .ifCond .ne 5, 3, 0, 0), (8, .iconst (-1), 1, (-1), 0), (9, .ireturn, 1, 0, 0), (10, .iload_n 2, 1, 0, 0), (11, .iconst 0, 1, 0, 0), (12, .iconst 3, 1, 3, 0), (13, .invokestatic 66, 3, 0, 0), (16, .ifCond .ne 6, 3, 0, 0), (19, .bipush (-2), 2, (-2), 0), (21, .ireturn, 1, 0, 0), (22, .aload_n 0, 1, 0, 0), (23, .invokevirtual 137, 3, 0, 0), (26, .aload_n 0, 1, 0, 0), (27, .iload_n 1, 1, 0, 0), (28, .iload_n 2, 1, 0, 0), (29, .invokevirtual 158, 3, 0, 0), (32, .ireturn, 1, 0, 0)]
theorem tTX6_state : tOK RX6 cX6_state tabX6_state = true := by decide +kernel
theorem hMX6_state : MV MX6_state 2 := ⟨gt_at 778 (by decide +kernel) rfl, gt_at 779 (by decide +kernel) rfl, gt_at 7 (by decide +kernel) rfl, gt_at 780 (by decide +kernel) rfl, by decide +kernel, by decide +kernel, by decide +kernel⟩
abbrev MX6_behind : MI := (yX6_behind, cX6_behind, 3, (some .int))
abbrev rmX6_behind : Room := { frames := 7, cells := 0, slots := 0, locals := 154 }
def tabX6_behind : List (Nat × TE) := [(0, .aload_n 0, 1, 0, 0), (1, .iload_n 1, 1, 0, 0), (2, .invokevirtual 78, 3, 0, 0), (5, .ifCond .ne 5, 3, 0, 0), (8, .iconst (-1), 1, (-1), 0), (9, .ireturn, 1, 0, 0), (10, .iload_n 2, 1, 0, 0), (11, .iconst 0, 1, 0, 0), (12, .iconst 3, 1, 3, 0), (13, .invokestatic 66, 3, 0, 0), (16, .ifCond .ne 6, 3, 0, 0), (19, .bipush (-2), 2, (-2), 0), (21, .ireturn, 1, 0, 0), (22, .aload_n 0, 1, 0, 0), (23, .invokevirtual 155, 3, 0, 0), (26, .ifCond .ge 8, 3, 0, 0), (29, .bipush (-5), 2, (-5), 0), (31, .goto 9, 3, 0, 0), (34, .aload_n 0, 1, 0, 0), (35, .iload_n 1, 1, 0, 0), (36, .iload_n 2, 1, 0, 0), (37, .invokevirtual 158, 3, 0, 0), (40, .ireturn, 1, 0, 0)]
theorem tTX6_behind : tOK RX6 cX6_behind tabX6_behind = true := by decide +kernel
theorem hMX6_behind : MV MX6_behind 2 := ⟨gt_at 786 (by decide +kernel) rfl, gt_at 787 (by decide +kernel) rfl, gt_at 7 (by decide +kernel) rfl, gt_at 788 (by decide +kernel) rfl, by decide +kernel, by decide +kernel, by decide +kernel⟩
abbrev MX6_trees : MI := (yX6_trees, cX6_trees, 6, (some .int))
abbrev rmX6_trees : Room := { frames := 1, cells := 0, slots := 0, locals := 22 }
def tabX6_trees : List (Nat × TE) := [(0, .iload_n 1, 1, 0, 0), (1, .iconst 0, 1, 0, 0), (2, .iconst 2, 1, 2, 0), (3, .invokestatic 66, 3, 0, 0), (6, .ifCond .ne 6, 3, 0, 0), (9, .bipush (-2), 2, (-2), 0), (11, .ireturn, 1, 0, 0), (12, .iconst 0, 1, 0, 0), (13, .istore_n 2, 1, 0, 0), (14, .aload_n 0, 1, 0, 0), (15, .getfield 63, 3, 0, 0), (18, .istore_n 3, 1, 0, 0), (19, .bipush (-6), 2, (-6), 0), (21, .istore 4, 2, 0, 0), (23, .iconst 0, 1, 0, 0), (24, .istore 5, 2, 0, 0), (26, .iload 5, 2, 0, 0), (28, .bipush 6, 2, 6, 0), (30, .if_icmp .ge 85, 3, 0, 0), (33, .aload_n 0, 1, 0, 0), (34, .getfield 63, 3, 0, 0), (37, .iload 5, 2, 0, 0), (39, .invokestatic 70, 3, 0, 0), (42, .ifCond .eq 67, 3, 0, 0), (45, .iload_n 2, 1, 0, 0), (46, .aload_n 0, 1, 0, 0), (47, .getfield 20, 3, 0, 0), (50, .iload 5, 2, 0, 0), (52, .iaload, 1, 0, 0), (53, .ifCond .ne 10, 3, 0, 0), (56, .iconst 1, 1, 1, 0), (57, .iload 5, 2, 0, 0), (59, .ishl, 1, 0, 0), (60, .goto 4, 3, 0, 0), (63, .iconst 0, 1, 0, 0), (64, .ior, 1, 0, 0), (65, .istore_n 2, 1, 0, 0), (66, .iload_n 3, 1, 0, 0), (67, .aload_n 0, 1, 0, 0), (68, .getfield 26, 3, 0, 0), (71, .iload 5, 2, 0, 0), (73, .iaload, 1, 0, 0), (74, .iconst (-1), 1, (-1), 0), (75, .ixor, 1, 0, 0), (76, .iand, 1, 0, 0), (77, .istore_n 3, 1, 0, 0), (78, .iload 4, 2, 0, 0), (80, .ifCond .lt 20, 3, 0, 0), (83, .aload_n 0, 1, 0, 0), (84, .getfield 23, 3, 0, 0), (87, .iload 5, 2, 0, 0), (89, .iaload, 1, 0, 0), (90, .aload_n 0, 1, 0, 0), (91, .getfield 23, 3, 0, 0), (94, .iload 4, 2, 0, 0), (96, .iaload, 1, 0, 0), (97, .if_icmp .le 8, 3, 0, 0), (100, .iload 5, 2, 0, 0), (102, .goto 5, 3, 0, 0), (105, .iload 4, 2, 0, 0), (107, .istore 4, 2, 0, 0), (109, .iinc 5 1, 3, 1, 0), (112, .goto (-86), 3, 0, 0), (115, .iload_n 1, 1, 0, 0), (116, .ifCond .ne 7, 3, 0, 0), (119, .iload_n 2, 1, 0, 0), (120, .goto 14, 3, 0, 0), (123, .iload_n 1, 1, 0, 0), (124, .iconst 1, 1, 1, 0), (125, .if_icmp .ne 7, 3, 0, 0), (128, .iload_n 3, 1, 0, 0), (129, .goto 5, 3, 0, 0), (132, .iload 4, 2, 0, 0), (134, .ireturn, 1, 0, 0)]
theorem tTX6_trees : tOK RX6 cX6_trees tabX6_trees = true := by decide +kernel
theorem hMX6_trees : MV MX6_trees 1 := ⟨gt_at 790 (by decide +kernel) rfl, gt_at 791 (by decide +kernel) rfl, gt_at 7 (by decide +kernel) rfl, gt_at 792 (by decide +kernel) rfl, by decide +kernel, by decide +kernel, by decide +kernel⟩
abbrev MX6_may : MI := (yX6_may, cX6_may, 4, (some .int))
abbrev rmX6_may : Room := { frames := 4, cells := 0, slots := 0, locals := 88 }
def tabX6_may : List (Nat × TE) := [(0, .aload_n 0, 1, 0, 0), (1, .iload_n 1, 1, 0, 0), (2, .invokevirtual 78, 3, 0, 0), (5, .ifCond .ne 5, 3, 0, 0), (8, .iconst (-1), 1, (-1), 0), (9, .ireturn, 1, 0, 0), (10, .aload_n 0, 1, 0, 0), (11, .invokevirtual 137, 3, 0, 0), (14, .iconst 0, 1, 0, 0), (15, .istore_n 2, 1, 0, 0), (16, .iconst 0, 1, 0, 0), (17, .istore_n 3, 1, 0, 0), (18, .iload_n 3, 1, 0, 0), (19, .bipush 6, 2, 6, 0), (21, .if_icmp .ge 28, 3, 0, 0), (24, .iload_n 2, 1, 0, 0), (25, .aload_n 0, 1, 0, 0), (26, .iload_n 1, 1, 0, 0), (27, .iload_n 3, 1, 0, 0), (28, .invokevirtual 120, 3, 0, 0), (31, .ifCond .ne 9, 3, 0, 0), (34, .iconst 1, 1, 1, 0), (35, .iload_n 3, 1, 0, 0), (36, .ishl, 1, 0, 0), (37, .goto 4, 3, 0, 0), (40, .iconst 0, 1, 0, 0), (41, .ior, 1, 0, 0), (42, .istore_n 2, 1, 0, 0), (43, .iinc 3 1, 3, 1, 0), (46, .goto (-28), 3, 0, 0), (49, .iload_n 2, 1, 0, 0), (50, .ireturn, 1, 0, 0)]
theorem tTX6_may : tOK RX6 cX6_may tabX6_may = true := by decide +kernel
theorem hMX6_may : MV MX6_may 1 := ⟨gt_at 794 (by decide +kernel) rfl, gt_at 795 (by decide +kernel) rfl, gt_at 7 (by decide +kernel) rfl, gt_at 796 (by decide +kernel) rfl, by decide +kernel, by decide +kernel, by decide +kernel⟩
abbrev MX6_mayRob : MI := (yX6_mayRob, cX6_mayRob, 4, (some .int))
abbrev rmX6_mayRob : Room := { frames := 3, cells := 0, slots := 0, locals := 65 }
def tabX6_mayRob : List (Nat × TE) := [(0, .iconst 0, 1, 0, 0), (1, .istore_n 2, 1, 0, 0), (2, .iconst 0, 1, 0, 0), (3, .istore_n 3, 1, 0, 0), (4, .iload_n 3, 1, 0, 0), (5, .bipush 6, 2, 6, 0), (7, .if_icmp .ge 28, 3, 0, 0), (10, .iload_n 2, 1, 0, 0), (11, .aload_n 0, 1, 0, 0), (12, .iload_n 1, 1, 0, 0), (13, .iload_n 3, 1, 0, 0), (14, .invokevirtual 113, 3, 0, 0), (17, .ifCond .ne 9, 3, 0, 0), (20, .iconst 1, 1, 1, 0), (21, .iload_n 3, 1, 0, 0), (22, .ishl, 1, 0, 0), (23, .goto 4, 3, 0, 0), (26, .iconst 0, 1, 0, 0), (27, .ior, 1, 0, 0), (28, .istore_n 2, 1, 0, 0), (29, .iinc 3 1, 3, 1, 0), (32, .goto (-28), 3, 0, 0), (35, .iload_n 2, 1, 0, 0), (36, .ireturn, 1, 0, 0)]
theorem tTX6_mayRob : tOK RX6 cX6_mayRob tabX6_mayRob = true := by decide +kernel
theorem hMX6_mayRob : MV MX6_mayRob 1 := ⟨gt_at 803 (by decide +kernel) rfl, gt_pv 17 (by decide +kernel) rfl, gt_at 7 (by decide +kernel) rfl, gt_at 804 (by decide +kernel) rfl, by decide +kernel, by decide +kernel, by decide +kernel⟩
abbrev MX6_safe : MI := (yX6_safe, cX6_safe, 3, (some .int))
abbrev rmX6_safe : Room := { frames := 4, cells := 0, slots := 0, locals := 88 }
def tabX6_safe : List (Nat × TE) := [(0, .aload_n 0, 1, 0, 0), (1, .invokevirtual 137, 3, 0, 0), (4, .aload_n 0, 1, 0, 0), (5, .getfield 63, 3, 0, 0), (8, .istore_n 1, 1, 0, 0), (9, .iconst 0, 1, 0, 0), (10, .istore_n 2, 1, 0, 0), (11, .iload_n 2, 1, 0, 0), (12, .bipush 6, 2, 6, 0), (14, .if_icmp .ge 19, 3, 0, 0), (17, .iload_n 1, 1, 0, 0), (18, .aload_n 0, 1, 0, 0), (19, .iload_n 2, 1, 0, 0), (20, .invokevirtual 161, 3, 0, 0), (23, .iconst (-1), 1, (-1), 0), (24, .ixor, 1, 0, 0), (25, .iand, 1, 0, 0), (26, .istore_n 1, 1, 0, 0), (27, .iinc 2 1, 3, 1, 0), (30, .goto (-19), 3, 0, 0), (33, .iload_n 1, 1, 0, 0), (34, .ireturn, 1, 0, 0)]
theorem tTX6_safe : tOK RX6 cX6_safe tabX6_safe = true := by decide +kernel
theorem hMX6_safe : MV MX6_safe 0 := ⟨gt_at 798 (by decide +kernel) rfl, gt_at 799 (by decide +kernel) rfl, gt_at 7 (by decide +kernel) rfl, gt_at 800 (by decide +kernel) rfl, by decide +kernel, by decide +kernel, by decide +kernel⟩
abbrev MX6_wanted : MI := (yX6_wanted, cX6_wanted, 3, (some .int))
abbrev rmX6_wanted : Room := { frames := 1, cells := 0, slots := 0, locals := 21 }
def tabX6_wanted : List (Nat × TE) := [(0, .aload_n 0, 1, 0, 0), (1, .getfield 63, 3, 0, 0), (4, .iload_n 1, 1, 0, 0), (5, .invokestatic 70, 3, 0, 0), (8, .ifCond .eq 18, 3, 0, 0), (11, .aload_n 0, 1, 0, 0), (12, .getfield 20, 3, 0, 0), (15, .iload_n 1, 1, 0, 0), (16, .iaload, 1, 0, 0), (17, .iload_n 2, 1, 0, 0), (18, .iadd, 1, 0, 0), (19, .iconst 1, 1, 1, 0), (20, .isub, 1, 0, 0), (21, .iload_n 2, 1, 0, 0), (22, .idiv, 1, 0, 0), (23, .goto 4, 3, 0, 0), (26, .iconst 0, 1, 0, 0), (27, .ireturn, 1, 0, 0)]
theorem tTX6_wanted : tOK RX6 cX6_wanted tabX6_wanted = true := by decide +kernel
theorem hMX6_wanted : MV MX6_wanted 2 := ⟨gt_at 811 (by decide +kernel) rfl, gt_pv 18 (by decide +kernel) rfl, gt_at 7 (by decide +kernel) rfl, gt_at 812 (by decide +kernel) rfl, by decide +kernel, by decide +kernel, by decide +kernel⟩
end
section
abbrev MX6_mostThefts : MI := (yX6_mostThefts, cX6_mostThefts, 9, (some .int))
abbrev rmX6_mostThefts : Room := { frames := 3, cells := 0, slots := 0, locals := 65 }
def tabX6_mostThefts : List (Nat × TE) := [(0, .aload_n 0, 1, 0, 0), (1, .invokevirtual 137, 3, 0, 0), (4, .ldc 164, 2, 1000000, 0), (6, .istore_n 3, 1, 0, 0), (7, .iconst 0, 1, 0, 0), (8, .istore 4, 2, 0, 0), (10, .iload 4, 2, 0, 0), (12, .bipush 64, 2, 64, 0), (14, .if_icmp .ge 146, 3, 0, 0), (17, .iload 4, 2, 0, 0), (19, .aload_n 0, 1, 0, 0), (20, .getfield 63, 3, 0, 0), (23, .iconst (-1), 1, (-1), 0), (24, .ixor, 1, 0, 0), (25, .iand, 1, 0, 0), (26, .ifCond .ne 128, 3, 0, 0), (29, .iload_n 2, 1, 0, 0), (30, .aload_n 0, 1, 0, 0), (31, .getfield 63, 3, 0, 0), (34, .invokestatic 74, 3, 0, 0), (37, .iload 4, 2, 0, 0), (39, .invokestatic 74, 3, 0, 0), (42, .isub, 1, 0, 0), (43, .imul, 1, 0, 0), (44, .istore 5, 2, 0, 0), (46, .iconst 0, 1, 0, 0), (47, .istore 6, 2, 0, 0), (49, .iload 6, 2, 0, 0), (51, .bipush 6, 2, 6, 0), (53, .if_icmp .ge 88, 3, 0, 0), (56, .iconst 0, 1, 0, 0), (57, .istore 7, 2, 0, 0), (59, .iconst 0, 1, 0, 0), (60, .istore 8, 2, 0, 0), (62, .iload 8, 2, 0, 0), (64, .bipush 6, 2, 6, 0), (66, .if_icmp .ge 40, 3, 0, 0), (69, .iload 7, 2, 0, 0), (71, .iload 4, 2, 0, 0), (73, .iload 8, 2, 0, 0), (75, .invokestatic 70, 3, 0, 0), (78, .ifCond .eq 18, 3, 0, 0), (81, .aload_n 0, 1, 0, 0), (82, .iload 8, 2, 0, 0), (84, .iload 6, 2, 0, 0), (86, .invokevirtual 113, 3, 0, 0), (89, .ifCond .ne 7, 3, 0, 0), (92, .iconst 1, 1, 1, 0), (93, .goto 4, 3, 0, 0), (96, .iconst 0, 1, 0, 0), (97, .iadd, 1, 0, 0), (98, .istore 7, 2, 0, 0), (100, .iinc 8 1, 3, 1, 0), (103, .goto (-41), 3, 0, 0), (106, .iload 5, 2, 0, 0), (108, .iload 7, 2, 0, 0), (110, .aload_n 0, 1, 0, 0), (111, .iload 6, 2, 0, 0), (113, .iload_n 1, 1, 0, 0), (114, .invokevirtual 165, 3, 0, 0), (117, .if_icmp .ge 8, 3, 0, 0), (120, .iload 7, 2, 0, 0), (122, .goto 10, 3, 0, 0), (125, .aload_n 0, 1, 0, 0), (126, .iload 6, 2, 0, 0), (128, .iload_n 1, 1, 0, 0), (129, .invokevirtual 165, 3, 0, 0), (132, .iadd, 1, 0, 0), (133, .istore 5, 2, 0, 0), (135, .iinc 6 1, 3, 1, 0), (138, .goto (-89), 3, 0, 0), (141, .iload 5, 2, 0, 0), (143, .iload_n 3, 1, 0, 0), (144, .if_icmp .ge 8, 3, 0, 0), (147, .iload 5, 2, 0, 0), (149, .goto 4, 3, 0, 0), (152, .iload_n 3, 1, 0, 0), (153, .istore_n 3, 1, 0, 0), (154, .iinc 4 1, 3, 1, 0), (157, .goto (-147), 3, 0, 0), (160, .iload_n 3, 1, 0, 0), (161, .ireturn, 1, 0, 0)]
theorem tTX6_mostThefts : tOK RX6 cX6_mostThefts tabX6_mostThefts = true := by decide +kernel
theorem hMX6_mostThefts : MV MX6_mostThefts 2 := ⟨gt_at 815 (by decide +kernel) rfl, gt_pv 19 (by decide +kernel) rfl, gt_at 7 (by decide +kernel) rfl, gt_at 816 (by decide +kernel) rfl, by decide +kernel, by decide +kernel, by decide +kernel⟩
abbrev MX6_stripped : MI := (yX6_stripped, cX6_stripped, 4, (some .int))
abbrev rmX6_stripped : Room := { frames := 4, cells := 0, slots := 0, locals := 93 }
def tabX6_stripped : List (Nat × TE) := [(0, .iload_n 1, 1, 0, 0), (1, .iconst 1, 1, 1, 0), (2, .bipush 20, 2, 20, 0), (4, .invokestatic 66, 3, 0, 0), (7, .ifCond .ne 6, 3, 0, 0), (10, .bipush (-2), 2, (-2), 0), (12, .ireturn, 1, 0, 0), (13, .iconst 0, 1, 0, 0), (14, .istore_n 2, 1, 0, 0), (15, .iconst 0, 1, 0, 0), (16, .istore_n 3, 1, 0, 0), (17, .iload_n 3, 1, 0, 0), (18, .bipush 6, 2, 6, 0), (20, .if_icmp .ge 18, 3, 0, 0), (23, .iload_n 2, 1, 0, 0), (24, .aload_n 0, 1, 0, 0), (25, .iload_n 3, 1, 0, 0), (26, .iload_n 1, 1, 0, 0), (27, .invokevirtual 165, 3, 0, 0), (30, .iadd, 1, 0, 0), (31, .istore_n 2, 1, 0, 0), (32, .iinc 3 1, 3, 1, 0), (35, .goto (-18), 3, 0, 0), (38, .iconst 0, 1, 0, 0), (39, .istore_n 3, 1, 0, 0), (40, .iload_n 3, 1, 0, 0), (41, .bipush 6, 2, 6, 0), (43, .if_icmp .ge 21, 3, 0, 0), (46, .aload_n 0, 1, 0, 0), (47, .iload_n 1, 1, 0, 0), (48, .iload_n 3, 1, 0, 0), (49, .invokevirtual 168, 3, 0, 0), (52, .iload_n 2, 1, 0, 0), (53, .if_icmp .ne 5, 3, 0, 0), (56, .iload_n 3, 1, 0, 0), (57, .ireturn, 1, 0, 0), (58, .iinc 3 1, 3, 1, 0), (61, .goto (-21), 3, 0, 0), (64, .bipush (-6), 2, (-6), 0), (66, .ireturn, 1, 0, 0)]
theorem tTX6_stripped : tOK RX6 cX6_stripped tabX6_stripped = true := by decide +kernel
theorem hMX6_stripped : MV MX6_stripped 1 := ⟨gt_at 806 (by decide +kernel) rfl, gt_at 807 (by decide +kernel) rfl, gt_at 7 (by decide +kernel) rfl, gt_at 808 (by decide +kernel) rfl, by decide +kernel, by decide +kernel, by decide +kernel⟩
abbrev MX6_thefts : MI := (yX6_thefts, cX6_thefts, 3, (some .int))
abbrev rmX6_thefts : Room := { frames := 4, cells := 0, slots := 0, locals := 93 }
def tabX6_thefts : List (Nat × TE) := [(0, .iload_n 1, 1, 0, 0), (1, .iconst 1, 1, 1, 0), (2, .bipush 20, 2, 20, 0), (4, .invokestatic 66, 3, 0, 0), (7, .ifCond .eq 21, 3, 0, 0), (10, .iload_n 2, 1, 0, 0), (11, .iconst 0, 1, 0, 0), (12, .iconst 5, 1, 5, 0), (13, .invokestatic 66, 3, 0, 0), (16, .ifCond .eq 12, 3, 0, 0), (19, .aload_n 0, 1, 0, 0), (20, .iload_n 1, 1, 0, 0), (21, .iload_n 2, 1, 0, 0), (22, .invokevirtual 168, 3, 0, 0), (25, .goto 5, 3, 0, 0), (28, .bipush (-2), 2, (-2), 0), (30, .ireturn, 1, 0, 0)]
theorem tTX6_thefts : tOK RX6 cX6_thefts tabX6_thefts = true := by decide +kernel
theorem hMX6_thefts : MV MX6_thefts 2 := ⟨gt_at 819 (by decide +kernel) rfl, gt_at 820 (by decide +kernel) rfl, gt_at 7 (by decide +kernel) rfl, gt_at 821 (by decide +kernel) rfl, by decide +kernel, by decide +kernel, by decide +kernel⟩
abbrev MX6_layChains : MI := (yX6_layChains, cX6_layChains, 6, none)
abbrev rmX6_layChains : Room := { frames := 4, cells := 0, slots := 0, locals := 88 }
def tabX6_layChains : List (Nat × TE) := [(0, .aload_n 0, 1, 0, 0), (1, .invokevirtual 137, 3, 0, 0), (4, .iconst 0, 1, 0, 0), (5, .istore_n 2, 1, 0, 0), (6, .iload_n 2, 1, 0, 0), (7, .sipush 384, 3, 384, 0), (10, .if_icmp .ge 32, 3, 0, 0), (13, .aload_n 0, 1, 0, 0), (14, .getfield 47, 3, 0, 0), (17, .iload_n 2, 1, 0, 0), (18, .iload_n 2, 1, 0, 0), (19, .bipush 6, 2, 6, 0), (21, .iconst 1, 1, 1, 0), (22, .iload_n 1, 1, 0, 0), (23, .ishl, 1, 0, 0), (24, .imul, 1, 0, 0), (25, .iload_n 1, 1, 0, 0), (26, .iadd, 1, 0, 0), (27, .if_icmp .ne 7, 3, 0, 0), (30, .iconst 1, 1, 1, 0), (31, .goto 4, 3, 0, 0), (34, .iconst 0, 1, 0, 0), (35, .bastore, 1, 0, 0), (36, .iinc 2 1, 3, 1, 0), (39, .goto (-33), 3, 0, 0), (42, .iconst 0, 1, 0, 0), (43, .istore_n 2, 1, 0, 0), (44, .iload_n 2, 1, 0, 0), (45, .bipush 64, 2, 64, 0), (47, .if_icmp .ge 92, 3, 0, 0), (50, .iconst 0, 1, 0, 0), (51, .istore_n 3, 1, 0, 0), (52, .iload_n 3, 1, 0, 0), (53, .bipush 6, 2, 6, 0), (55, .if_icmp .ge 78, 3, 0, 0), (58, .aload_n 0, 1, 0, 0), (59, .getfield 47, 3, 0, 0), (62, .bipush 6, 2, 6, 0), (64, .iload_n 2, 1, 0, 0), (65, .imul, 1, 0, 0), (66, .iload_n 3, 1, 0, 0), (67, .iadd, 1, 0, 0), (68, .baload, 1, 0, 0), (69, .ifCond .eq 58, 3, 0, 0), (72, .aload_n 0, 1, 0, 0), (73, .iload_n 3, 1, 0, 0), (74, .invokevirtual 161, 3, 0, 0), (77, .iload_n 2, 1, 0, 0), (78, .iconst (-1), 1, (-1), 0), (79, .ixor, 1, 0, 0), (80, .iand, 1, 0, 0), (81, .istore 4, 2, 0, 0), (83, .iconst 0, 1, 0, 0), (84, .istore 5, 2, 0, 0), (86, .iload 5, 2, 0, 0), (88, .bipush 6, 2, 6, 0), (90, .if_icmp .ge 37, 3, 0, 0), (93, .iload 4, 2, 0, 0), (95, .iload 5, 2, 0, 0), (97, .invokestatic 70, 3, 0, 0), (100, .ifCond .eq 21, 3, 0, 0), (103, .aload_n 0, 1, 0, 0), (104, .getfield 47, 3, 0, 0), (107, .bipush 6, 2, 6, 0), (109, .iload_n 2, 1, 0, 0), (110, .iconst 1, 1, 1, 0), (111, .iload 5, 2, 0, 0), (113, .ishl, 1, 0, 0), (114, .ior, 1, 0, 0), (115, .imul, 1, 0, 0), (116, .iload 5, 2, 0, 0), (118, .iadd, 1, 0, 0), (119, .iconst 1, 1, 1, 0), (120, .bastore, 1, 0, 0), (121, .iinc 5 1, 3, 1, 0), (124, .goto (-38), 3, 0, 0), (127, .iinc 3 1, 3, 1, 0), (130, .goto (-78), 3, 0, 0), (133, .iinc 2 1, 3, 1, 0), (136, .goto (-92), 3, 0, 0), (139, .return_, 1, 0, 0)]
theorem tTX6_layChains : tOK RX6 cX6_layChains tabX6_layChains = true := by decide +kernel
theorem hMX6_layChains : MV MX6_layChains 1 := ⟨gt_at 828 (by decide +kernel) rfl, gt_pv 20 (by decide +kernel) rfl, gt_at 7 (by decide +kernel) rfl, gt_at 829 (by decide +kernel) rfl, by decide +kernel, by decide +kernel, by decide +kernel⟩
abbrev MX6_round : MI := (yX6_round, cX6_round, 6, (some .int))
abbrev rmX6_round : Room := { frames := 5, cells := 0, slots := 0, locals := 113 }
def tabX6_round : List (Nat × TE) := [(0, .bipush (-6), 2, (-6), 0), (2, .istore_n 1, 1, 0, 0), (3, .iconst 0, 1, 0, 0), (4, .istore_n 2, 1, 0, 0), (5, .iload_n 2, 1, 0, 0), (6, .bipush 6, 2, 6, 0), (8, .if_icmp .ge 118, 3, 0, 0), (11, .aload_n 0, 1, 0, 0), (12, .getfield 63, 3, 0, 0), (15, .iload_n 2, 1, 0, 0), (16, .invokestatic 70, 3, 0, 0), (19, .ifCond .eq 101, 3, 0, 0), (22, .aload_n 0, 1, 0, 0), (23, .iload_n 2, 1, 0, 0), (24, .invokevirtual 171, 3, 0, 0), (27, .iconst 0, 1, 0, 0), (28, .istore_n 3, 1, 0, 0), (29, .iload_n 3, 1, 0, 0), (30, .bipush 64, 2, 64, 0), (32, .if_icmp .ge 88, 3, 0, 0), (35, .iconst 0, 1, 0, 0), (36, .istore 4, 2, 0, 0), (38, .iload 4, 2, 0, 0), (40, .bipush 6, 2, 6, 0), (42, .if_icmp .ge 72, 3, 0, 0), (45, .aload_n 0, 1, 0, 0), (46, .getfield 47, 3, 0, 0), (49, .bipush 6, 2, 6, 0), (51, .iload_n 3, 1, 0, 0), (52, .imul, 1, 0, 0), (53, .iload 4, 2, 0, 0), (55, .iadd, 1, 0, 0), (56, .baload, 1, 0, 0), (57, .ifCond .eq 26, 3, 0, 0), (60, .iload 4, 2, 0, 0), (62, .iload_n 2, 1, 0, 0), (63, .if_icmp .eq 20, 3, 0, 0), (66, .aload_n 0, 1, 0, 0), (67, .iload 4, 2, 0, 0), (69, .invokevirtual 161, 3, 0, 0), (72, .iload_n 2, 1, 0, 0), (73, .invokestatic 70, 3, 0, 0), (76, .ifCond .eq 7, 3, 0, 0), (79, .iconst 1, 1, 1, 0), (80, .goto 4, 3, 0, 0), (83, .iconst 0, 1, 0, 0), (84, .istore 5, 2, 0, 0), (86, .iload 5, 2, 0, 0), (88, .ifCond .eq 18, 3, 0, 0), (91, .iload_n 3, 1, 0, 0), (92, .invokestatic 74, 3, 0, 0), (95, .iload_n 1, 1, 0, 0), (96, .if_icmp .le 10, 3, 0, 0), (99, .iload_n 3, 1, 0, 0), (100, .invokestatic 74, 3, 0, 0), (103, .goto 4, 3, 0, 0), (106, .iload_n 1, 1, 0, 0), (107, .istore_n 1, 1, 0, 0), (108, .iinc 4 1, 3, 1, 0), (111, .goto (-73), 3, 0, 0), (114, .iinc 3 1, 3, 1, 0), (117, .goto (-88), 3, 0, 0), (120, .iinc 2 1, 3, 1, 0), (123, .goto (-118), 3, 0, 0), (126, .iload_n 1, 1, 0, 0), (127, .ireturn, 1, 0, 0)]
theorem tTX6_round : tOK RX6 cX6_round tabX6_round = true := by decide +kernel
theorem hMX6_round : MV MX6_round 0 := ⟨gt_at 823 (by decide +kernel) rfl, gt_at 824 (by decide +kernel) rfl, gt_at 7 (by decide +kernel) rfl, gt_at 825 (by decide +kernel) rfl, by decide +kernel, by decide +kernel, by decide +kernel⟩
abbrev MX6_chain : MI := (yX6_chain, cX6_chain, 5, (some .int))
abbrev rmX6_chain : Room := { frames := 5, cells := 0, slots := 0, locals := 113 }
def tabX6_chain : List (Nat × TE) := [(0, .aload_n 0, 1, 0, 0), (1, .iload_n 1, 1, 0, 0), (2, .invokevirtual 78, 3, 0, 0), (5, .ifCond .eq 16, 3, 0, 0), (8, .aload_n 0, 1, 0, 0), (9, .iload_n 2, 1, 0, 0), (10, .invokevirtual 78, 3, 0, 0), (13, .ifCond .eq 8, 3, 0, 0), (16, .iload_n 1, 1, 0, 0), (17, .iload_n 2, 1, 0, 0), (18, .if_icmp .ne 5, 3, 0, 0), (21, .iconst (-1), 1, (-1), 0), (22, .ireturn, 1, 0, 0), (23, .aload_n 0, 1, 0, 0), (24, .iload_n 1, 1, 0, 0), (25, .invokevirtual 171, 3, 0, 0), (28, .bipush (-6), 2, (-6), 0), (30, .istore_n 3, 1, 0, 0), (31, .iconst 0, 1, 0, 0), (32, .istore 4, 2, 0, 0), (34, .iload 4, 2, 0, 0), (36, .bipush 64, 2, 64, 0), (38, .if_icmp .ge 43, 3, 0, 0), (41, .aload_n 0, 1, 0, 0), (42, .getfield 47, 3, 0, 0), (45, .bipush 6, 2, 6, 0), (47, .iload 4, 2, 0, 0), (49, .imul, 1, 0, 0), (50, .iload_n 2, 1, 0, 0), (51, .iadd, 1, 0, 0), (52, .baload, 1, 0, 0), (53, .ifCond .eq 20, 3, 0, 0), (56, .iload 4, 2, 0, 0), (58, .invokestatic 74, 3, 0, 0), (61, .iload_n 3, 1, 0, 0), (62, .if_icmp .le 11, 3, 0, 0), (65, .iload 4, 2, 0, 0), (67, .invokestatic 74, 3, 0, 0), (70, .goto 4, 3, 0, 0), (73, .iload_n 3, 1, 0, 0), (74, .istore_n 3, 1, 0, 0), (75, .iinc 4 1, 3, 1, 0), (78, .goto (-44), 3, 0, 0), (81, .iload_n 3, 1, 0, 0), (82, .ireturn, 1, 0, 0)]
theorem tTX6_chain : tOK RX6 cX6_chain tabX6_chain = true := by decide +kernel
theorem hMX6_chain : MV MX6_chain 2 := ⟨gt_at 831 (by decide +kernel) rfl, gt_at 832 (by decide +kernel) rfl, gt_at 7 (by decide +kernel) rfl, gt_at 833 (by decide +kernel) rfl, by decide +kernel, by decide +kernel, by decide +kernel⟩
abbrev MX6_exchange : MI := (yX6_exchange, cX6_exchange, 6, (some .int))
abbrev rmX6_exchange : Room := { frames := 2, cells := 0, slots := 0, locals := 43 }
def tabX6_exchange : List (Nat × TE) := [(0, .aload_n 0, 1, 0, 0), (1, .iload_n 1, 1, 0, 0), (2, .invokevirtual 78, 3, 0, 0), (5, .ifCond .eq 34, 3, 0, 0), (8, .aload_n 0, 1, 0, 0), (9, .iload_n 2, 1, 0, 0), (10, .invokevirtual 78, 3, 0, 0), (13, .ifCond .eq 26, 3, 0, 0), (16, .aload_n 0, 1, 0, 0), (17, .iload_n 3, 1, 0, 0), (18, .invokevirtual 78, 3, 0, 0), (21, .ifCond .eq 18, 3, 0, 0), (24, .iload_n 1, 1, 0, 0), (25, .iload_n 2, 1, 0, 0), (26, .if_icmp .eq 13, 3, 0, 0), (29, .iload_n 1, 1, 0, 0), (30, .iload_n 3, 1, 0, 0), (31, .if_icmp .eq 8, 3, 0, 0), (34, .iload_n 2, 1, 0, 0), (35, .iload_n 3, 1, 0, 0), (36, .if_icmp .ne 5, 3, 0, 0), (39, .iconst (-1), 1, (-1), 0), (40, .ireturn, 1, 0, 0), (41, .aload_n 0, 1, 0, 0), (42, .getfield 7, 3, 0, 0), (45, .iload_n 1, 1, 0, 0), (46, .iaload, 1, 0, 0), (47, .aload_n 0, 1, 0, 0), (48, .getfield 20, 3, 0, 0), (51, .iload_n 3, 1, 0, 0), (52, .iaload, 1, 0, 0), (53, .if_icmp .ge 12, 3, 0, 0), (56, .aload_n 0, 1, 0, 0), (57, .getfield 7, 3, 0, 0), (60, .iload_n 1, 1, 0, 0), (61, .iaload, 1, 0, 0), (62, .goto 9, 3, 0, 0), (65, .aload_n 0, 1, 0, 0), (66, .getfield 20, 3, 0, 0), (69, .iload_n 3, 1, 0, 0), (70, .iaload, 1, 0, 0), (71, .istore 4, 2, 0, 0), (73, .aload_n 0, 1, 0, 0), (74, .getfield 20, 3, 0, 0), (77, .iload_n 3, 1, 0, 0), (78, .iaload, 1, 0, 0), (79, .iload 4, 2, 0, 0), (81, .isub, 1, 0, 0), (82, .istore 5, 2, 0, 0), (84, .aload_n 0, 1, 0, 0), (85, .getfield 7, 3, 0, 0), (88, .iload_n 2, 1, 0, 0), (89, .iaload, 1, 0, 0), (90, .iload 5, 2, 0, 0), (92, .if_icmp .ge 12, 3, 0, 0), (95, .aload_n 0, 1, 0, 0), (96, .getfield 7, 3, 0, 0), (99, .iload_n 2, 1, 0, 0), (100, .iaload, 1, 0, 0), (101, .goto 5, 3, 0, 0), (104, .iload 5, 2, 0, 0), (106, .ireturn, 1, 0, 0)]
theorem tTX6_exchange : tOK RX6 cX6_exchange tabX6_exchange = true := by decide +kernel
theorem hMX6_exchange : MV MX6_exchange 3 := ⟨gt_at 835 (by decide +kernel) rfl, gt_at 836 (by decide +kernel) rfl, gt_at 7 (by decide +kernel) rfl, gt_at 837 (by decide +kernel) rfl, by decide +kernel, by decide +kernel, by decide +kernel⟩
abbrev MX6_seen : MI := (yX6_seen, cX6_seen, 3, (some .int))
abbrev rmX6_seen : Room := { frames := 2, cells := 0, slots := 0, locals := 43 }
def tabX6_seen : List (Nat × TE) := [(0, .aload_n 0, 1, 0, 0), (1, .iload_n 1, 1, 0, 0), (2, .invokevirtual 78, 3, 0, 0), (5, .ifCond .ne 5, 3, 0, 0), (8, .iconst (-1), 1, (-1), 0), (9, .ireturn, 1, 0, 0), (10, .iload_n 2, 1, 0, 0), (11, .iconst 0, 1, 0, 0), (12, .bipush 99, 2, 99, 0), (14, .invokestatic 66, 3, 0, 0), (17, .ifCond .ne 6, 3, 0, 0), (20, .bipush (-2), 2, (-2), 0), (22, .ireturn, 1, 0, 0), (23, .aload_n 0, 1, 0, 0), (24, .getfield 174, 3, 0, 0), (27, .bipush 8, 2, 8, 0), (29, .if_icmp .ne 6, 3, 0, 0), (32, .bipush (-4), 2, (-4), 0), (34, .ireturn, 1, 0, 0), (35, .aload_n 0, 1, 0, 0), (36, .getfield 17, 3, 0, 0), (39, .iconst 2, 1, 2, 0), (40, .aload_n 0, 1, 0, 0), (41, .getfield 174, 3, 0, 0), (44, .imul, 1, 0, 0), (45, .iload_n 1, 1, 0, 0), (46, .iastore, 1, 0, 0), (47, .aload_n 0, 1, 0, 0), (48, .getfield 17, 3, 0, 0), (51, .iconst 2, 1, 2, 0), (52, .aload_n 0, 1, 0, 0), (53, .getfield 174, 3, 0, 0), (56, .imul, 1, 0, 0), (57, .iconst 1, 1, 1, 0), (58, .iadd, 1, 0, 0), (59, .iload_n 2, 1, 0, 0), (60, .iastore, 1, 0, 0), (61, .aload_n 0, 1, 0, 0), (62, .dup, 1, 0, 0), (63, .getfield 174, 3, 0, 0), (66, .iconst 1, 1, 1, 0), (67, .iadd, 1, 0, 0), (68, .putfield 174, 3, 0, 0), (71, .aload_n 0, 1, 0, 0), (72, .getfield 174, 3, 0, 0), (75, .ireturn, 1, 0, 0)]
theorem tTX6_seen : tOK RX6 cX6_seen tabX6_seen = true := by decide +kernel
theorem hMX6_seen : MV MX6_seen 2 := ⟨gt_at 839 (by decide +kernel) rfl, gt_at 840 (by decide +kernel) rfl, gt_at 7 (by decide +kernel) rfl, gt_at 841 (by decide +kernel) rfl, by decide +kernel, by decide +kernel, by decide +kernel⟩
abbrev MX6_forget : MI := (yX6_forget, cX6_forget, 2, (some .int))
abbrev rmX6_forget : Room := { frames := 0, cells := 0, slots := 0, locals := 0 }
def tabX6_forget : List (Nat × TE) := [(0, .aload_n 0, 1, 0, 0), (1, .getfield 174, 3, 0, 0), (4, .istore_n 1, 1, 0, 0), (5, .aload_n 0, 1, 0, 0), (6, .iconst 0, 1, 0, 0), (7, .putfield 174, 3, 0, 0), (10, .iload_n 1, 1, 0, 0), (11, .ireturn, 1, 0, 0)]
theorem tTX6_forget : tOK RX6 cX6_forget tabX6_forget = true := by decide +kernel
theorem hMX6_forget : MV MX6_forget 0 := ⟨gt_at 843 (by decide +kernel) rfl, gt_at 844 (by decide +kernel) rfl, gt_at 7 (by decide +kernel) rfl, gt_at 845 (by decide +kernel) rfl, by decide +kernel, by decide +kernel, by decide +kernel⟩
abbrev MX6_layBoots : MI := (yX6_layBoots, cX6_layBoots, 6, none)
abbrev rmX6_layBoots : Room := { frames := 5, cells := 0, slots := 0, locals := 114 }
def tabX6_layBoots : List (Nat × TE) := [(0, .aload_n 0, 1, 0, 0), (1, .iconst 0, 1, 0, 0), (2, .putfield 177, 3, 0, 0), (5, .aload_n 0, 1, 0, 0), (6, .iconst 0, 1, 0, 0), (7, .putfield 180, 3, 0, 0), (10, .aload_n 0, 1, 0, 0), (11, .bipush 63, 2, 63, 0), (13, .putfield 183, 3, 0, 0), (16, .iconst 0, 1, 0, 0), (17, .istore_n 1, 1, 0, 0), (18, .iload_n 1, 1, 0, 0), (19, .sipush 600, 3, 600, 0), (22, .if_icmp .ge 16, 3, 0, 0), (25, .aload_n 0, 1, 0, 0), (26, .getfield 51, 3, 0, 0), (29, .iload_n 1, 1, 0, 0), (30, .iconst 0, 1, 0, 0), (31, .iastore, 1, 0, 0), (32, .iinc 1 1, 3, 1, 0), (35, .goto (-17), 3, 0, 0), (38, .iconst 0, 1, 0, 0), (39, .istore_n 1, 1, 0, 0), (40, .iload_n 1, 1, 0, 0), (41, .ldc 186, 2, 117649, 0), (43, .if_icmp .ge 97, 3, 0, 0), (46, .iload_n 1, 1, 0, 0), (47, .istore_n 2, 1, 0, 0), (48, .iconst 1, 1, 1, 0), (49, .istore_n 3, 1, 0, 0), (50, .iconst 0, 1, 0, 0), (51, .istore 4, 2, 0, 0), (53, .iload 4, 2, 0, 0), (55, .bipush 6, 2, 6, 0), (57, .if_icmp .ge 68, 3, 0, 0), (60, .iload_n 3, 1, 0, 0), (61, .ifCond .eq 64, 3, 0, 0), (64, .iload_n 2, 1, 0, 0), (65, .bipush 7, 2, 7, 0), (67, .irem, 1, 0, 0), (68, .istore 5, 2, 0, 0), (70, .iload_n 2, 1, 0, 0), (71, .bipush 7, 2, 7, 0), (73, .idiv, 1, 0, 0), (74, .istore_n 2, 1, 0, 0), (75, .iload 5, 2, 0, 0), (77, .bipush 6, 2, 6, 0), (79, .if_icmp .eq 34, 3, 0, 0), (82, .aload_n 0, 1, 0, 0), (83, .getfield 63, 3, 0, 0), (86, .iload 4, 2, 0, 0), (88, .invokestatic 70, 3, 0, 0), (91, .ifCond .eq 26, 3, 0, 0), (94, .aload_n 0, 1, 0, 0), (95, .getfield 63, 3, 0, 0), (98, .iload 5, 2, 0, 0), (100, .invokestatic 70, 3, 0, 0), (103, .ifCond .eq 14, 3, 0, 0), (106, .iload 5, 2, 0, 0), (108, .iload 4, 2, 0, 0), (110, .if_icmp .eq 7, 3, 0, 0), (113, .iconst 1, 1, 1, 0), (114, .goto 4, 3, 0, 0), (117, .iconst 0, 1, 0, 0), (118, .istore_n 3, 1, 0, 0), (119, .iinc 4 1, 3, 1, 0), (122, .goto (-69), 3, 0, 0), (125, .iload_n 3, 1, 0, 0), (126, .ifCond .eq 8, 3, 0, 0), (129, .aload_n 0, 1, 0, 0), (130, .iload_n 1, 1, 0, 0), (131, .invokevirtual 187, 3, 0, 0), (134, .iinc 1 1, 3, 1, 0), (137, .goto (-97), 3, 0, 0), (140, .return_, 1, 0, 0)]
theorem tTX6_layBoots : tOK RX6 cX6_layBoots tabX6_layBoots = true := by decide +kernel
theorem hMX6_layBoots : MV MX6_layBoots 0 := ⟨gt_at 852 (by decide +kernel) rfl, gt_pv 21 (by decide +kernel) rfl, gt_at 7 (by decide +kernel) rfl, gt_at 853 (by decide +kernel) rfl, by decide +kernel, by decide +kernel, by decide +kernel⟩
abbrev MX6_tryBoots : MI := (yX6_tryBoots, cX6_tryBoots, 7, none)
abbrev rmX6_tryBoots : Room := { frames := 4, cells := 0, slots := 0, locals := 88 }
def tabX6_tryBoots : List (Nat × TE) := [(0, .iload_n 1, 1, 0, 0), (1, .istore_n 2, 1, 0, 0), (2, .iconst 0, 1, 0, 0), (3, .istore_n 3, 1, 0, 0), (4, .iconst 1, 1, 1, 0), (5, .istore 4, 2, 0, 0), (7, .aload_n 0, 1, 0, 0), (8, .invokevirtual 137, 3, 0, 0), (11, .iconst 0, 1, 0, 0), (12, .istore 5, 2, 0, 0), (14, .iload 5, 2, 0, 0), (16, .bipush 6, 2, 6, 0), (18, .if_icmp .ge 70, 3, 0, 0), (21, .iload 4, 2, 0, 0), (23, .ifCond .eq 65, 3, 0, 0), (26, .iload_n 2, 1, 0, 0), (27, .bipush 7, 2, 7, 0), (29, .irem, 1, 0, 0), (30, .istore 6, 2, 0, 0), (32, .iload_n 2, 1, 0, 0), (33, .bipush 7, 2, 7, 0), (35, .idiv, 1, 0, 0), (36, .istore_n 2, 1, 0, 0), (37, .iload 6, 2, 0, 0), (39, .bipush 6, 2, 6, 0), (41, .if_icmp .ge 41, 3, 0, 0), (44, .aload_n 0, 1, 0, 0), (45, .iload 5, 2, 0, 0), (47, .iload 6, 2, 0, 0), (49, .invokevirtual 120, 3, 0, 0), (52, .ifCond .ne 7, 3, 0, 0), (55, .iconst 1, 1, 1, 0), (56, .goto 4, 3, 0, 0), (59, .iconst 0, 1, 0, 0), (60, .istore 4, 2, 0, 0), (62, .iload 4, 2, 0, 0), (64, .ifCond .eq 18, 3, 0, 0), (67, .aload_n 0, 1, 0, 0), (68, .iload 5, 2, 0, 0), (70, .iload 6, 2, 0, 0), (72, .invokevirtual 123, 3, 0, 0), (75, .iload_n 3, 1, 0, 0), (76, .iconst 1, 1, 1, 0), (77, .iload 5, 2, 0, 0), (79, .ishl, 1, 0, 0), (80, .ior, 1, 0, 0), (81, .istore_n 3, 1, 0, 0), (82, .iinc 5 1, 3, 1, 0), (85, .goto (-71), 3, 0, 0), (88, .iconst 0, 1, 0, 0), (89, .istore 5, 2, 0, 0), (91, .iload 5, 2, 0, 0), (93, .aload_n 0, 1, 0, 0), (94, .getfield 174, 3, 0, 0), (97, .if_icmp .ge 68, 3, 0, 0), (100, .iload 4, 2, 0, 0), (102, .ifCond .eq 63, 3, 0, 0), (105, .aload_n 0, 1, 0, 0), (106, .getfield 63, 3, 0, 0), (109, .aload_n 0, 1, 0, 0), (110, .getfield 17, 3, 0, 0), (113, .iconst 2, 1, 2, 0), (114, .iload 5, 2, 0, 0), (116, .imul, 1, 0, 0), (117, .iaload, 1, 0, 0), (118, .invokestatic 70, 3, 0, 0), (121, .ifCond .eq 35, 3, 0, 0), (124, .aload_n 0, 1, 0, 0), (125, .getfield 35, 3, 0, 0), (128, .aload_n 0, 1, 0, 0), (129, .getfield 17, 3, 0, 0), (132, .iconst 2, 1, 2, 0), (133, .iload 5, 2, 0, 0), (135, .imul, 1, 0, 0), (136, .iaload, 1, 0, 0), (137, .iaload, 1, 0, 0), (138, .aload_n 0, 1, 0, 0), (139, .getfield 17, 3, 0, 0), (142, .iconst 2, 1, 2, 0), (143, .iload 5, 2, 0, 0), (145, .imul, 1, 0, 0), (146, .iconst 1, 1, 1, 0), (147, .iadd, 1, 0, 0), (148, .iaload, 1, 0, 0), (149, .if_icmp .ne 7, 3, 0, 0), (152, .iconst 1, 1, 1, 0), (153, .goto 4, 3, 0, 0), (156, .iconst 0, 1, 0, 0), (157, .istore 4, 2, 0, 0), (159, .iinc 5 1, 3, 1, 0), (162, .goto (-71), 3, 0, 0), (165, .iload 4, 2, 0, 0), (167, .ifCond .eq 71, 3, 0, 0), (170, .aload_n 0, 1, 0, 0), (171, .dup, 1, 0, 0), (172, .getfield 177, 3, 0, 0), (175, .iconst 1, 1, 1, 0), (176, .iadd, 1, 0, 0), (177, .putfield 177, 3, 0, 0), (180, .aload_n 0, 1, 0, 0), (181, .dup, 1, 0, 0), (182, .getfield 180, 3, 0, 0), (185, .iload_n 3, 1, 0, 0), (186, .ior, 1, 0, 0), (187, .putfield 180, 3, 0, 0), (190, .aload_n 0, 1, 0, 0), (191, .dup, 1, 0, 0), (192, .getfield 183, 3, 0, 0), (195, .iload_n 3, 1, 0, 0), (196, .iand, 1, 0, 0), (197, .putfield 183, 3, 0, 0), (200, .iconst 0, 1, 0, 0), (201, .istore 5, 2, 0, 0), (203, .iload 5, 2, 0, 0), (205, .bipush 6, 2, 6, 0), (207, .if_icmp .ge 31, 3, 0, 0), (210, .aload_n 0, 1, 0, 0), (211, .getfield 51, 3, 0, 0), (214, .bipush 100, 2, 100, 0), (216, .iload 5, 2, 0, 0), (218, .imul, 1, 0, 0), (219, .aload_n 0, 1, 0, 0), (220, .getfield 35, 3, 0, 0), (223, .iload 5, 2, 0, 0), (225, .iaload, 1, 0, 0), (226, .iadd, 1, 0, 0), (227, .dup2, 1, 0, 0), (228, .iaload, 1, 0, 0), (229, .iconst 1, 1, 1, 0), (230, .iadd, 1, 0, 0), (231, .iastore, 1, 0, 0), (232, .iinc 5 1, 3, 1, 0), (235, .goto (-32), 3, 0, 0), (238, .return_, 1, 0, 0)]
theorem tTX6_tryBoots : tOK RX6 cX6_tryBoots tabX6_tryBoots = true := by decide +kernel
theorem hMX6_tryBoots : MV MX6_tryBoots 1 := ⟨gt_at 857 (by decide +kernel) rfl, gt_pv 22 (by decide +kernel) rfl, gt_at 7 (by decide +kernel) rfl, gt_at 858 (by decide +kernel) rfl, by decide +kernel, by decide +kernel, by decide +kernel⟩
abbrev MX6_boots : MI := (yX6_boots, cX6_boots, 2, (some .int))
abbrev rmX6_boots : Room := { frames := 6, cells := 0, slots := 0, locals := 139 }
def tabX6_boots : List (Nat × TE) := [(0, .iload_n 1, 1, 0, 0), (1, .iconst 0, 1, 0, 0), (2, .iconst 2, 1, 2, 0), (3, .invokestatic 66, 3, 0, 0), (6, .ifCond .ne 6, 3, 0, 0), (9, .bipush (-2), 2, (-2), 0), (11, .ireturn, 1, 0, 0), (12, .aload_n 0, 1, 0, 0), (13, .invokevirtual 190, 3, 0, 0), (16, .iload_n 1, 1, 0, 0), (17, .ifCond .ne 10, 3, 0, 0), (20, .aload_n 0, 1, 0, 0), (21, .getfield 177, 3, 0, 0), (24, .goto 30, 3, 0, 0), (27, .iload_n 1, 1, 0, 0), (28, .iconst 1, 1, 1, 0), (29, .if_icmp .ne 10, 3, 0, 0), (32, .aload_n 0, 1, 0, 0), (33, .getfield 180, 3, 0, 0), (36, .goto 18, 3, 0, 0), (39, .aload_n 0, 1, 0, 0), (40, .getfield 177, 3, 0, 0), (43, .ifCond .ne 7, 3, 0, 0), (46, .iconst 0, 1, 0, 0), (47, .goto 7, 3, 0, 0), (50, .aload_n 0, 1, 0, 0), (51, .getfield 183, 3, 0, 0), (54, .ireturn, 1, 0, 0)]
theorem tTX6_boots : tOK RX6 cX6_boots tabX6_boots = true := by decide +kernel
theorem hMX6_boots : MV MX6_boots 1 := ⟨gt_at 847 (by decide +kernel) rfl, gt_at 848 (by decide +kernel) rfl, gt_at 7 (by decide +kernel) rfl, gt_at 849 (by decide +kernel) rfl, by decide +kernel, by decide +kernel, by decide +kernel⟩
abbrev MX6_look : MI := (yX6_look, cX6_look, 8, (some .int))
abbrev rmX6_look : Room := { frames := 6, cells := 0, slots := 0, locals := 139 }
def tabX6_look : List (Nat × TE) := [(0, .iload_n 1, 1, 0, 0), (1, .iconst 0, 1, 0, 0), (2, .iconst 1, 1, 1, 0), (3, .invokestatic 66, 3, 0, 0), (6, .ifCond .ne 6, 3, 0, 0), (9, .bipush (-2), 2, (-2), 0), (11, .ireturn, 1, 0, 0), (12, .aload_n 0, 1, 0, 0), (13, .invokevirtual 190, 3, 0, 0), (16, .bipush (-6), 2, (-6), 0), (18, .istore_n 2, 1, 0, 0), (19, .ldc 164, 2, 1000000, 0), (21, .istore_n 3, 1, 0, 0), (22, .iconst 0, 1, 0, 0), (23, .istore 4, 2, 0, 0), (25, .iload 4, 2, 0, 0), (27, .bipush 6, 2, 6, 0), (29, .if_icmp .ge 174, 3, 0, 0), (32, .aload_n 0, 1, 0, 0), (33, .getfield 177, 3, 0, 0), (36, .ifCond .le 167, 3, 0, 0), (39, .iconst 0, 1, 0, 0), (40, .istore 5, 2, 0, 0), (42, .iconst 0, 1, 0, 0), (43, .istore 6, 2, 0, 0), (45, .iload 6, 2, 0, 0), (47, .aload_n 0, 1, 0, 0), (48, .getfield 174, 3, 0, 0), (51, .if_icmp .ge 35, 3, 0, 0), (54, .iload 5, 2, 0, 0), (56, .ifCond .ne 17, 3, 0, 0), (59, .aload_n 0, 1, 0, 0), (60, .getfield 17, 3, 0, 0), (63, .iconst 2, 1, 2, 0), (64, .iload 6, 2, 0, 0), (66, .imul, 1, 0, 0), (67, .iaload, 1, 0, 0), (68, .iload 4, 2, 0, 0), (70, .if_icmp .ne 7, 3, 0, 0), (73, .iconst 1, 1, 1, 0), (74, .goto 4, 3, 0, 0), (77, .iconst 0, 1, 0, 0), (78, .istore 5, 2, 0, 0), (80, .iinc 6 1, 3, 1, 0), (83, .goto (-38), 3, 0, 0), (86, .iconst 0, 1, 0, 0), (87, .istore 6, 2, 0, 0), (89, .iconst 0, 1, 0, 0), (90, .istore 7, 2, 0, 0), (92, .iload 7, 2, 0, 0), (94, .bipush 100, 2, 100, 0), (96, .if_icmp .ge 47, 3, 0, 0), (99, .aload_n 0, 1, 0, 0), (100, .getfield 51, 3, 0, 0), (103, .bipush 100, 2, 100, 0), (105, .iload 4, 2, 0, 0), (107, .imul, 1, 0, 0), (108, .iload 7, 2, 0, 0), (110, .iadd, 1, 0, 0), (111, .iaload, 1, 0, 0), (112, .iload 6, 2, 0, 0), (114, .if_icmp .le 19, 3, 0, 0), (117, .aload_n 0, 1, 0, 0), (118, .getfield 51, 3, 0, 0), (121, .bipush 100, 2, 100, 0), (123, .iload 4, 2, 0, 0), (125, .imul, 1, 0, 0), (126, .iload 7, 2, 0, 0), (128, .iadd, 1, 0, 0), (129, .iaload, 1, 0, 0), (130, .goto 5, 3, 0, 0), (133, .iload 6, 2, 0, 0), (135, .istore 6, 2, 0, 0), (137, .iinc 7 1, 3, 1, 0), (140, .goto (-48), 3, 0, 0), (143, .aload_n 0, 1, 0, 0), (144, .getfield 63, 3, 0, 0), (147, .iload 4, 2, 0, 0), (149, .invokestatic 70, 3, 0, 0), (152, .ifCond .eq 18, 3, 0, 0), (155, .iload 5, 2, 0, 0), (157, .ifCond .ne 13, 3, 0, 0), (160, .iload 6, 2, 0, 0), (162, .iload_n 3, 1, 0, 0), (163, .if_icmp .ge 7, 3, 0, 0), (166, .iconst 1, 1, 1, 0), (167, .goto 4, 3, 0, 0), (170, .iconst 0, 1, 0, 0), (171, .istore 7, 2, 0, 0), (173, .iload 7, 2, 0, 0), (175, .ifCond .eq 8, 3, 0, 0), (178, .iload 4, 2, 0, 0), (180, .goto 4, 3, 0, 0), (183, .iload_n 2, 1, 0, 0), (184, .istore_n 2, 1, 0, 0), (185, .iload 7, 2, 0, 0), (187, .ifCond .eq 8, 3, 0, 0), (190, .iload 6, 2, 0, 0), (192, .goto 4, 3, 0, 0), (195, .iload_n 3, 1, 0, 0), (196, .istore_n 3, 1, 0, 0), (197, .iinc 4 1, 3, 1, 0), (200, .goto (-175), 3, 0, 0), (203, .iload_n 2, 1, 0, 0), (204, .ifCond .lt 7, 3, 0, 0), (207, .iload_n 1, 1, 0, 0), (208, .ifCond .ne 7, 3, 0, 0), (211, .iload_n 2, 1, 0, 0), (212, .goto 4, 3, 0, 0), (215, .iload_n 3, 1, 0, 0), (216, .ireturn, 1, 0, 0)]
theorem tTX6_look : tOK RX6 cX6_look tabX6_look = true := by decide +kernel
theorem hMX6_look : MV MX6_look 1 := ⟨gt_at 860 (by decide +kernel) rfl, gt_at 861 (by decide +kernel) rfl, gt_at 7 (by decide +kernel) rfl, gt_at 862 (by decide +kernel) rfl, by decide +kernel, by decide +kernel, by decide +kernel⟩
abbrev MX6_worth : MI := (yX6_worth, cX6_worth, 3, (some .int))
abbrev rmX6_worth : Room := { frames := 0, cells := 0, slots := 0, locals := 0 }
def tabX6_worth : List (Nat × TE) := [(0, .aload_n 0, 1, 0, 0), (1, .getfield 7, 3, 0, 0), (4, .iload_n 1, 1, 0, 0), (5, .iaload, 1, 0, 0), (6, .aload_n 0, 1, 0, 0), (7, .getfield 20, 3, 0, 0), (10, .iload_n 2, 1, 0, 0), (11, .iaload, 1, 0, 0), (12, .if_icmp .ge 12, 3, 0, 0), (15, .aload_n 0, 1, 0, 0), (16, .getfield 7, 3, 0, 0), (19, .iload_n 1, 1, 0, 0), (20, .iaload, 1, 0, 0), (21, .goto 9, 3, 0, 0), (24, .aload_n 0, 1, 0, 0), (25, .getfield 20, 3, 0, 0), (28, .iload_n 2, 1, 0, 0), (29, .iaload, 1, 0, 0), (30, .ireturn, 1, 0, 0)]
theorem tTX6_worth : tOK RX6 cX6_worth tabX6_worth = true := by decide +kernel
theorem hMX6_worth : MV MX6_worth 2 := ⟨gt_at 870 (by decide +kernel) rfl, gt_pv 23 (by decide +kernel) rfl, gt_at 7 (by decide +kernel) rfl, gt_at 871 (by decide +kernel) rfl, by decide +kernel, by decide +kernel, by decide +kernel⟩
abbrev MX6_duel : MI := (yX6_duel, cX6_duel, 10, (some .int))
abbrev rmX6_duel : Room := { frames := 2, cells := 0, slots := 0, locals := 43 }
def tabX6_duel : List (Nat × TE) := [(0, .aload_n 0, 1, 0, 0), (1, .iload_n 1, 1, 0, 0), (2, .invokevirtual 78, 3, 0, 0), (5, .ifCond .eq 31, 3, 0, 0), (8, .aload_n 0, 1, 0, 0), (9, .iload_n 2, 1, 0, 0), (10, .invokevirtual 78, 3, 0, 0), (13, .ifCond .eq 23, 3, 0, 0), (16, .iload_n 1, 1, 0, 0), (17, .iload_n 2, 1, 0, 0), (18, .if_icmp .eq 18, 3, 0, 0), (21, .iload_n 3, 1, 0, 0), (22, .ifCond .lt 14, 3, 0, 0), (25, .iload_n 3, 1, 0, 0), (26, .aload_n 0, 1, 0, 0), (27, .getfield 63, 3, 0, 0), (30, .iconst (-1), 1, (-1), 0), (31, .ixor, 1, 0, 0), (32, .iand, 1, 0, 0), (33, .ifCond .eq 5, 3, 0, 0), (36, .iconst (-1), 1, (-1), 0), (37, .ireturn, 1, 0, 0), (38, .iload 4, 2, 0, 0), (40, .iconst 0, 1, 0, 0), (41, .iconst 1, 1, 1, 0), (42, .invokestatic 66, 3, 0, 0), (45, .ifCond .ne 6, 3, 0, 0), (48, .bipush (-2), 2, (-2), 0), (50, .ireturn, 1, 0, 0), (51, .bipush (-6), 2, (-6), 0), (53, .istore 5, 2, 0, 0), (55, .iconst 0, 1, 0, 0), (56, .istore 6, 2, 0, 0), (58, .iload 6, 2, 0, 0), (60, .bipush 64, 2, 64, 0), (62, .if_icmp .ge 173, 3, 0, 0), (65, .iload_n 3, 1, 0, 0), (66, .invokestatic 74, 3, 0, 0), (69, .iload 6, 2, 0, 0), (71, .invokestatic 74, 3, 0, 0), (74, .isub, 1, 0, 0), (75, .iconst 2, 1, 2, 0), (76, .irem, 1, 0, 0), (77, .ifCond .ne 7, 3, 0, 0), (80, .iconst 1, 1, 1, 0), (81, .goto 4, 3, 0, 0), (84, .iconst 0, 1, 0, 0), (85, .istore 7, 2, 0, 0), (87, .aload_n 0, 1, 0, 0), (88, .getfield 54, 3, 0, 0), (91, .iload 6, 2, 0, 0), (93, .iload 6, 2, 0, 0), (95, .ifCond .ne 7, 3, 0, 0), (98, .iconst 0, 1, 0, 0), (99, .goto 5, 3, 0, 0), (102, .ldc 193, 2, (-1000000), 0), (104, .iastore, 1, 0, 0), (105, .iconst 5, 1, 5, 0), (106, .istore 8, 2, 0, 0), (108, .iload 8, 2, 0, 0), (110, .ifCond .lt 119, 3, 0, 0), (113, .iload 6, 2, 0, 0), (115, .iload_n 3, 1, 0, 0), (116, .iconst (-1), 1, (-1), 0), (117, .ixor, 1, 0, 0), (118, .iand, 1, 0, 0), (119, .ifCond .ne 110, 3, 0, 0), (122, .iload 6, 2, 0, 0), (124, .iload 8, 2, 0, 0), (126, .invokestatic 70, 3, 0, 0), (129, .ifCond .eq 94, 3, 0, 0), (132, .aload_n 0, 1, 0, 0), (133, .iload 7, 2, 0, 0), (135, .ifCond .eq 7, 3, 0, 0), (138, .iload_n 1, 1, 0, 0), (139, .goto 4, 3, 0, 0), (142, .iload_n 2, 1, 0, 0), (143, .iload 8, 2, 0, 0), (145, .invokevirtual 194, 3, 0, 0), (148, .aload_n 0, 1, 0, 0), (149, .getfield 54, 3, 0, 0), (152, .iload 6, 2, 0, 0), (154, .iconst 1, 1, 1, 0), (155, .iload 8, 2, 0, 0), (157, .ishl, 1, 0, 0), (158, .iconst (-1), 1, (-1), 0), (159, .ixor, 1, 0, 0), (160, .iand, 1, 0, 0), (161, .iaload, 1, 0, 0), (162, .isub, 1, 0, 0), (163, .istore 9, 2, 0, 0), (165, .iload 6, 2, 0, 0), (167, .iload_n 3, 1, 0, 0), (168, .if_icmp .ne 20, 3, 0, 0), (171, .iload 9, 2, 0, 0), (173, .aload_n 0, 1, 0, 0), (174, .getfield 54, 3, 0, 0), (177, .iload 6, 2, 0, 0), (179, .iaload, 1, 0, 0), (180, .if_icmp .lt 8, 3, 0, 0), (183, .iload 8, 2, 0, 0), (185, .goto 5, 3, 0, 0), (188, .iload 5, 2, 0, 0), (190, .istore 5, 2, 0, 0), (192, .aload_n 0, 1, 0, 0), (193, .getfield 54, 3, 0, 0), (196, .iload 6, 2, 0, 0), (198, .iload 9, 2, 0, 0), (200, .aload_n 0, 1, 0, 0), (201, .getfield 54, 3, 0, 0), (204, .iload 6, 2, 0, 0), (206, .iaload, 1, 0, 0), (207, .if_icmp .le 8, 3, 0, 0), (210, .iload 9, 2, 0, 0), (212, .goto 10, 3, 0, 0), (215, .aload_n 0, 1, 0, 0), (216, .getfield 54, 3, 0, 0), (219, .iload 6, 2, 0, 0), (221, .iaload, 1, 0, 0), (222, .iastore, 1, 0, 0), (223, .iinc 8 (-1), 3, (-1), 0), (226, .goto (-118), 3, 0, 0), (229, .iinc 6 1, 3, 1, 0), (232, .goto (-174), 3, 0, 0), (235, .iload 4, 2, 0, 0), (237, .ifCond .ne 16, 3, 0, 0), (240, .aload_n 0, 1, 0, 0), (241, .getfield 54, 3, 0, 0), (244, .iload_n 3, 1, 0, 0), (245, .iaload, 1, 0, 0), (246, .sipush 1000, 3, 1000, 0), (249, .iadd, 1, 0, 0), (250, .goto 5, 3, 0, 0), (253, .iload 5, 2, 0, 0), (255, .ireturn, 1, 0, 0)]
theorem tTX6_duel : tOK RX6 cX6_duel tabX6_duel = true := by decide +kernel
theorem hMX6_duel : MV MX6_duel 4 := ⟨gt_at 864 (by decide +kernel) rfl, gt_at 865 (by decide +kernel) rfl, gt_at 7 (by decide +kernel) rfl, gt_at 866 (by decide +kernel) rfl, by decide +kernel, by decide +kernel, by decide +kernel⟩
abbrev MX6_caught : MI := (yX6_caught, cX6_caught, 16, (some .long))
abbrev rmX6_caught : Room := { frames := 4, cells := 0, slots := 0, locals := 88 }
def tabX6_caught : List (Nat × TE) := [(0, .aload_n 0, 1, 0, 0), (1, .iload_n 1, 1, 0, 0), (2, .invokevirtual 78, 3, 0, 0), (5, .ifCond .eq 16, 3, 0, 0), (8, .aload_n 0, 1, 0, 0), (9, .iload_n 2, 1, 0, 0), (10, .invokevirtual 78, 3, 0, 0), (13, .ifCond .eq 8, 3, 0, 0), (16, .iload_n 1, 1, 0, 0), (17, .iload_n 2, 1, 0, 0), (18, .if_icmp .ne 7, 3, 0, 0), (21, .ldc2_w 197, 3, 0, (-1000000000000000001)), (24, .lreturn, 1, 0, 0), (25, .iload_n 3, 1, 0, 0), (26, .iconst 0, 1, 0, 0), (27, .bipush 10, 2, 10, 0), (29, .invokestatic 66, 3, 0, 0), (32, .ifCond .eq 23, 3, 0, 0), (35, .iload 4, 2, 0, 0), (37, .iconst 0, 1, 0, 0), (38, .iconst 1, 1, 1, 0), (39, .invokestatic 66, 3, 0, 0), (42, .ifCond .eq 13, 3, 0, 0), (45, .iload 5, 2, 0, 0), (47, .iconst 0, 1, 0, 0), (48, .iconst 1, 1, 1, 0), (49, .invokestatic 66, 3, 0, 0), (52, .ifCond .ne 7, 3, 0, 0), (55, .ldc2_w 199, 3, 0, (-1000000000000000002)), (58, .lreturn, 1, 0, 0), (59, .aload_n 0, 1, 0, 0), (60, .invokevirtual 137, 3, 0, 0), (63, .aload_n 0, 1, 0, 0), (64, .iload_n 1, 1, 0, 0), (65, .iload_n 2, 1, 0, 0), (66, .invokevirtual 120, 3, 0, 0), (69, .ifCond .eq 7, 3, 0, 0), (72, .ldc2_w 201, 3, 0, (-1000000000000000003)), (75, .lreturn, 1, 0, 0), (76, .aload_n 0, 1, 0, 0), (77, .getfield 23, 3, 0, 0), (80, .iload_n 1, 1, 0, 0), (81, .iaload, 1, 0, 0), (82, .aload_n 0, 1, 0, 0), (83, .iload_n 1, 1, 0, 0), (84, .iload_n 2, 1, 0, 0), (85, .invokevirtual 117, 3, 0, 0), (88, .iadd, 1, 0, 0), (89, .istore 6, 2, 0, 0), (91, .iload 6, 2, 0, 0), (93, .bipush 9, 2, 9, 0), (95, .if_icmp .le 11, 3, 0, 0), (98, .iload 6, 2, 0, 0), (100, .bipush 9, 2, 9, 0), (102, .isub, 1, 0, 0), (103, .goto 4, 3, 0, 0), (106, .iconst 0, 1, 0, 0), (107, .istore 7, 2, 0, 0), (109, .iload 4, 2, 0, 0), (111, .ifCond .ne 23, 3, 0, 0), (114, .iload_n 3, 1, 0, 0), (115, .i2l, 1, 0, 0), (116, .iload 7, 2, 0, 0), (118, .i2l, 1, 0, 0), (119, .lmul, 1, 0, 0), (120, .ldc2_w 203, 3, 0, 10), (123, .iload_n 3, 1, 0, 0), (124, .i2l, 1, 0, 0), (125, .lsub, 1, 0, 0), (126, .iload 6, 2, 0, 0), (128, .i2l, 1, 0, 0), (129, .lmul, 1, 0, 0), (130, .ladd, 1, 0, 0), (131, .goto 40, 3, 0, 0), (134, .iload 7, 2, 0, 0), (136, .aload_n 0, 1, 0, 0), (137, .getfield 23, 3, 0, 0), (140, .iload_n 1, 1, 0, 0), (141, .iaload, 1, 0, 0), (142, .if_icmp .le 7, 3, 0, 0), (145, .iload_n 3, 1, 0, 0), (146, .goto 4, 3, 0, 0), (149, .iconst 0, 1, 0, 0), (150, .iload 6, 2, 0, 0), (152, .aload_n 0, 1, 0, 0), (153, .getfield 23, 3, 0, 0), (156, .iload_n 1, 1, 0, 0), (157, .iaload, 1, 0, 0), (158, .if_icmp .le 10, 3, 0, 0), (161, .bipush 10, 2, 10, 0), (163, .iload_n 3, 1, 0, 0), (164, .isub, 1, 0, 0), (165, .goto 4, 3, 0, 0), (168, .iconst 0, 1, 0, 0), (169, .iadd, 1, 0, 0), (170, .i2l, 1, 0, 0), (171, .lstore 8, 2, 0, 0), (173, .lload 8, 2, 0, 0), (175, .lstore 10, 2, 0, 0), (177, .ldc2_w 203, 3, 0, 10), (180, .lstore 12, 2, 0, 0), (182, .lload 12, 2, 0, 0), (184, .lconst 0, 1, 0, 0), (185, .lcmp, 1, 0, 0), (186, .ifCond .eq 21, 3, 0, 0), (189, .lload 10, 2, 0, 0), (191, .lload 12, 2, 0, 0), (193, .lrem, 1, 0, 0), (194, .lstore 14, 2, 0, 0), (196, .lload 12, 2, 0, 0), (198, .lstore 10, 2, 0, 0), (200, .lload 14, 2, 0, 0), (202, .lstore 12, 2, 0, 0), (204, .goto (-22), 3, 0, 0), (207, .iload 5, 2, 0, 0), (209, .ifCond .ne 11, 3, 0, 0), (212, .lload 8, 2, 0, 0), (214, .lload 10, 2, 0, 0), (216, .ldiv, 1, 0, 0), (217, .goto 9, 3, 0, 0), (220, .ldc2_w 203, 3, 0, 10), (223, .lload 10, 2, 0, 0), (225, .ldiv, 1, 0, 0), (226, .lreturn, 1, 0, 0)]
theorem tTX6_caught : tOK RX6 cX6_caught tabX6_caught = true := by decide +kernel
theorem hMX6_caught : MV MX6_caught 5 := ⟨gt_at 873 (by decide +kernel) rfl, gt_at 874 (by decide +kernel) rfl, gt_at 7 (by decide +kernel) rfl, gt_at 875 (by decide +kernel) rfl, by decide +kernel, by decide +kernel, by decide +kernel⟩
abbrev MX6_moons : MI := (yX6_moons, cX6_moons, 6, (some .int))
abbrev rmX6_moons : Room := { frames := 2, cells := 0, slots := 0, locals := 43 }
def tabX6_moons : List (Nat × TE) := [(0, .aload_n 0, 1, 0, 0), (1, .iload_n 1, 1, 0, 0), (2, .invokevirtual 78, 3, 0, 0), (5, .ifCond .ne 5, 3, 0, 0), (8, .iconst (-1), 1, (-1), 0), (9, .ireturn, 1, 0, 0), (10, .iload_n 2, 1, 0, 0), (11, .iconst 0, 1, 0, 0), (12, .bipush 60, 2, 60, 0), (14, .invokestatic 66, 3, 0, 0), (17, .ifCond .ne 6, 3, 0, 0), (20, .bipush (-2), 2, (-2), 0), (22, .ireturn, 1, 0, 0), (23, .iconst 0, 1, 0, 0), (24, .istore_n 3, 1, 0, 0), (25, .iconst 0, 1, 0, 0), (26, .istore 4, 2, 0, 0), (28, .iload 4, 2, 0, 0), (30, .bipush 6, 2, 6, 0), (32, .if_icmp .ge 79, 3, 0, 0), (35, .aload_n 0, 1, 0, 0), (36, .getfield 23, 3, 0, 0), (39, .iload 4, 2, 0, 0), (41, .iaload, 1, 0, 0), (42, .aload_n 0, 1, 0, 0), (43, .getfield 23, 3, 0, 0), (46, .iload_n 1, 1, 0, 0), (47, .iaload, 1, 0, 0), (48, .if_icmp .lt 25, 3, 0, 0), (51, .aload_n 0, 1, 0, 0), (52, .getfield 23, 3, 0, 0), (55, .iload 4, 2, 0, 0), (57, .iaload, 1, 0, 0), (58, .aload_n 0, 1, 0, 0), (59, .getfield 23, 3, 0, 0), (62, .iload_n 1, 1, 0, 0), (63, .iaload, 1, 0, 0), (64, .if_icmp .ne 13, 3, 0, 0), (67, .iload 4, 2, 0, 0), (69, .iload_n 1, 1, 0, 0), (70, .if_icmp .ge 7, 3, 0, 0), (73, .iconst 1, 1, 1, 0), (74, .goto 4, 3, 0, 0), (77, .iconst 0, 1, 0, 0), (78, .istore 5, 2, 0, 0), (80, .iload_n 3, 1, 0, 0), (81, .aload_n 0, 1, 0, 0), (82, .getfield 63, 3, 0, 0), (85, .iload 4, 2, 0, 0), (87, .invokestatic 70, 3, 0, 0), (90, .ifCond .eq 12, 3, 0, 0), (93, .iload 5, 2, 0, 0), (95, .ifCond .eq 7, 3, 0, 0), (98, .iconst 1, 1, 1, 0), (99, .goto 4, 3, 0, 0), (102, .iconst 0, 1, 0, 0), (103, .iadd, 1, 0, 0), (104, .istore_n 3, 1, 0, 0), (105, .iinc 4 1, 3, 1, 0), (108, .goto (-80), 3, 0, 0), (111, .aload_n 0, 1, 0, 0), (112, .getfield 63, 3, 0, 0), (115, .invokestatic 74, 3, 0, 0), (118, .istore 4, 2, 0, 0), (120, .iload_n 2, 1, 0, 0), (121, .iload 4, 2, 0, 0), (123, .idiv, 1, 0, 0), (124, .iload_n 3, 1, 0, 0), (125, .iload_n 2, 1, 0, 0), (126, .iload 4, 2, 0, 0), (128, .irem, 1, 0, 0), (129, .if_icmp .ge 7, 3, 0, 0), (132, .iconst 1, 1, 1, 0), (133, .goto 4, 3, 0, 0), (136, .iconst 0, 1, 0, 0), (137, .iadd, 1, 0, 0), (138, .ireturn, 1, 0, 0)]
theorem tTX6_moons : tOK RX6 cX6_moons tabX6_moons = true := by decide +kernel
theorem hMX6_moons : MV MX6_moons 2 := ⟨gt_at 881 (by decide +kernel) rfl, gt_at 882 (by decide +kernel) rfl, gt_at 7 (by decide +kernel) rfl, gt_at 883 (by decide +kernel) rfl, by decide +kernel, by decide +kernel, by decide +kernel⟩
abbrev MX6_year : MI := (yX6_year, cX6_year, 11, (some .int))
abbrev rmX6_year : Room := { frames := 5, cells := 0, slots := 0, locals := 111 }
def tabX6_year : List (Nat × TE) := [(0, .iload_n 1, 1, 0, 0), (1, .iconst 0, 1, 0, 0), (2, .sipush 9999, 3, 9999, 0), (5, .invokestatic 66, 3, 0, 0), (8, .ifCond .eq 22, 3, 0, 0), (11, .iload_n 2, 1, 0, 0), (12, .iconst 1, 1, 1, 0), (13, .bipush 99, 2, 99, 0), (15, .invokestatic 66, 3, 0, 0), (18, .ifCond .eq 12, 3, 0, 0), (21, .iload_n 3, 1, 0, 0), (22, .iconst 0, 1, 0, 0), (23, .iconst 2, 1, 2, 0), (24, .invokestatic 66, 3, 0, 0), (27, .ifCond .ne 6, 3, 0, 0), (30, .bipush (-2), 2, (-2), 0), (32, .ireturn, 1, 0, 0), (33, .aload_n 0, 1, 0, 0), (34, .invokevirtual 137, 3, 0, 0), (37, .iload_n 1, 1, 0, 0), (38, .istore 4, 2, 0, 0), (40, .iconst 0, 1, 0, 0), (41, .istore 5, 2, 0, 0), (43, .iconst 0, 1, 0, 0), (44, .istore 6, 2, 0, 0), (46, .iload 6, 2, 0, 0), (48, .iload_n 2, 1, 0, 0), (49, .if_icmp .ge 129, 3, 0, 0), (52, .bipush 75, 2, 75, 0), (54, .iload 4, 2, 0, 0), (56, .imul, 1, 0, 0), (57, .bipush 74, 2, 74, 0), (59, .iadd, 1, 0, 0), (60, .ldc 205, 2, 65537, 0), (62, .irem, 1, 0, 0), (63, .istore 4, 2, 0, 0), (65, .iload 4, 2, 0, 0), (67, .bipush 8, 2, 8, 0), (69, .irem, 1, 0, 0), (70, .istore 7, 2, 0, 0), (72, .iload 4, 2, 0, 0), (74, .bipush 8, 2, 8, 0), (76, .idiv, 1, 0, 0), (77, .bipush 6, 2, 6, 0), (79, .irem, 1, 0, 0), (80, .istore 8, 2, 0, 0), (82, .iload 7, 2, 0, 0), (84, .ifCond .ne 11, 3, 0, 0), (87, .aload_n 0, 1, 0, 0), (88, .invokevirtual 143, 3, 0, 0), (91, .pop, 1, 0, 0), (92, .goto 80, 3, 0, 0), (95, .iload 7, 2, 0, 0), (97, .iconst 1, 1, 1, 0), (98, .if_icmp .ne 8, 3, 0, 0), (101, .bipush 42, 2, 42, 0), (103, .goto 36, 3, 0, 0), (106, .iload 7, 2, 0, 0), (108, .iconst 2, 1, 2, 0), (109, .if_icmp .ne 8, 3, 0, 0), (112, .bipush 126, 2, 126, 0), (114, .goto 25, 3, 0, 0), (117, .iload 7, 2, 0, 0), (119, .iconst 3, 1, 3, 0), (120, .if_icmp .ne 8, 3, 0, 0), (123, .bipush 33, 2, 33, 0), (125, .goto 14, 3, 0, 0), (128, .bipush 65, 2, 65, 0), (130, .iload 4, 2, 0, 0), (132, .bipush 64, 2, 64, 0), (134, .idiv, 1, 0, 0), (135, .bipush 6, 2, 6, 0), (137, .irem, 1, 0, 0), (138, .iadd, 1, 0, 0), (139, .istore 9, 2, 0, 0), (141, .aload_n 0, 1, 0, 0), (142, .iload 8, 2, 0, 0), (144, .iload 9, 2, 0, 0), (146, .invokevirtual 149, 3, 0, 0), (149, .istore 10, 2, 0, 0), (151, .iload 5, 2, 0, 0), (153, .iload 10, 2, 0, 0), (155, .ifCond .ne 13, 3, 0, 0), (158, .iload 7, 2, 0, 0), (160, .iconst 3, 1, 3, 0), (161, .if_icmp .le 7, 3, 0, 0), (164, .iconst 1, 1, 1, 0), (165, .goto 4, 3, 0, 0), (168, .iconst 0, 1, 0, 0), (169, .iadd, 1, 0, 0), (170, .istore 5, 2, 0, 0), (172, .iinc 6 1, 3, 1, 0), (175, .goto (-129), 3, 0, 0), (178, .iconst 0, 1, 0, 0), (179, .istore 6, 2, 0, 0), (181, .iconst 0, 1, 0, 0), (182, .istore 7, 2, 0, 0), (184, .iconst 0, 1, 0, 0), (185, .istore 8, 2, 0, 0), (187, .iload 8, 2, 0, 0), (189, .bipush 6, 2, 6, 0), (191, .if_icmp .ge 65, 3, 0, 0), (194, .iload 6, 2, 0, 0), (196, .aload_n 0, 1, 0, 0), (197, .getfield 63, 3, 0, 0), (200, .iload 8, 2, 0, 0), (202, .invokestatic 70, 3, 0, 0), (205, .ifCond .eq 13, 3, 0, 0), (208, .aload_n 0, 1, 0, 0), (209, .getfield 38, 3, 0, 0), (212, .iload 8, 2, 0, 0), (214, .iaload, 1, 0, 0), (215, .goto 4, 3, 0, 0), (218, .iconst 0, 1, 0, 0), (219, .iadd, 1, 0, 0), (220, .istore 6, 2, 0, 0), (222, .iload 7, 2, 0, 0), (224, .aload_n 0, 1, 0, 0), (225, .getfield 63, 3, 0, 0), (228, .iload 8, 2, 0, 0), (230, .invokestatic 70, 3, 0, 0), (233, .ifCond .eq 13, 3, 0, 0), (236, .aload_n 0, 1, 0, 0), (237, .getfield 35, 3, 0, 0), (240, .iload 8, 2, 0, 0), (242, .iaload, 1, 0, 0), (243, .goto 4, 3, 0, 0), (246, .iconst 0, 1, 0, 0), (247, .iadd, 1, 0, 0), (248, .istore 7, 2, 0, 0), (250, .iinc 8 1, 3, 1, 0), (253, .goto (-66), 3, 0, 0), (256, .iload_n 3, 1, 0, 0), (257, .ifCond .ne 8, 3, 0, 0), (260, .iload 6, 2, 0, 0), (262, .goto 15, 3, 0, 0), (265, .iload_n 3, 1, 0, 0), (266, .iconst 1, 1, 1, 0), (267, .if_icmp .ne 8, 3, 0, 0), (270, .iload 7, 2, 0, 0), (272, .goto 5, 3, 0, 0), (275, .iload 5, 2, 0, 0), (277, .ireturn, 1, 0, 0)]
theorem tTX6_year : tOK RX6 cX6_year tabX6_year = true := by decide +kernel
theorem hMX6_year : MV MX6_year 3 := ⟨gt_at 885 (by decide +kernel) rfl, gt_at 886 (by decide +kernel) rfl, gt_at 7 (by decide +kernel) rfl, gt_at 887 (by decide +kernel) rfl, by decide +kernel, by decide +kernel, by decide +kernel⟩
abbrev MX6_image : MI := (yX6_image, cX6_image, 4, (some .int))
abbrev rmX6_image : Room := { frames := 1, cells := 0, slots := 0, locals := 22 }
def tabX6_image : List (Nat × TE) := [(0, .iload_n 1, 1, 0, 0), (1, .iconst 0, 1, 0, 0), (2, .iconst 1, 1, 1, 0), (3, .invokestatic 66, 3, 0, 0), (6, .ifCond .ne 6, 3, 0, 0), (9, .bipush (-2), 2, (-2), 0), (11, .ireturn, 1, 0, 0), (12, .bipush 70, 2, 70, 0), (14, .iload_n 1, 1, 0, 0), (15, .imul, 1, 0, 0), (16, .istore_n 2, 1, 0, 0), (17, .iconst 0, 1, 0, 0), (18, .istore_n 3, 1, 0, 0), (19, .iload_n 3, 1, 0, 0), (20, .bipush 6, 2, 6, 0), (22, .if_icmp .ge 91, 3, 0, 0), (25, .aload_n 0, 1, 0, 0), (26, .getfield 57, 3, 0, 0), (29, .iload_n 2, 1, 0, 0), (30, .iload_n 3, 1, 0, 0), (31, .iadd, 1, 0, 0), (32, .aload_n 0, 1, 0, 0), (33, .getfield 7, 3, 0, 0), (36, .iload_n 3, 1, 0, 0), (37, .iaload, 1, 0, 0), (38, .iastore, 1, 0, 0), (39, .aload_n 0, 1, 0, 0), (40, .getfield 57, 3, 0, 0), (43, .iload_n 2, 1, 0, 0), (44, .bipush 6, 2, 6, 0), (46, .iadd, 1, 0, 0), (47, .iload_n 3, 1, 0, 0), (48, .iadd, 1, 0, 0), (49, .aload_n 0, 1, 0, 0), (50, .getfield 20, 3, 0, 0), (53, .iload_n 3, 1, 0, 0), (54, .iaload, 1, 0, 0), (55, .iastore, 1, 0, 0), (56, .aload_n 0, 1, 0, 0), (57, .getfield 57, 3, 0, 0), (60, .iload_n 2, 1, 0, 0), (61, .bipush 12, 2, 12, 0), (63, .iadd, 1, 0, 0), (64, .iload_n 3, 1, 0, 0), (65, .iadd, 1, 0, 0), (66, .aload_n 0, 1, 0, 0), (67, .getfield 23, 3, 0, 0), (70, .iload_n 3, 1, 0, 0), (71, .iaload, 1, 0, 0), (72, .iastore, 1, 0, 0), (73, .aload_n 0, 1, 0, 0), (74, .getfield 57, 3, 0, 0), (77, .iload_n 2, 1, 0, 0), (78, .bipush 18, 2, 18, 0), (80, .iadd, 1, 0, 0), (81, .iload_n 3, 1, 0, 0), (82, .iadd, 1, 0, 0), (83, .aload_n 0, 1, 0, 0), (84, .getfield 26, 3, 0, 0), (87, .iload_n 3, 1, 0, 0), (88, .iaload, 1, 0, 0), (89, .iastore, 1, 0, 0), (90, .aload_n 0, 1, 0, 0), (91, .getfield 57, 3, 0, 0), (94, .iload_n 2, 1, 0, 0), (95, .bipush 24, 2, 24, 0), (97, .iadd, 1, 0, 0), (98, .iload_n 3, 1, 0, 0), (99, .iadd, 1, 0, 0), (100, .aload_n 0, 1, 0, 0), (101, .getfield 29, 3, 0, 0), (104, .iload_n 3, 1, 0, 0), (105, .iaload, 1, 0, 0), (106, .iastore, 1, 0, 0), (107, .iinc 3 1, 3, 1, 0), (110, .goto (-91), 3, 0, 0), (113, .iconst 0, 1, 0, 0), (114, .istore_n 3, 1, 0, 0), (115, .iload_n 3, 1, 0, 0), (116, .bipush 16, 2, 16, 0), (118, .if_icmp .ge 26, 3, 0, 0), (121, .aload_n 0, 1, 0, 0), (122, .getfield 57, 3, 0, 0), (125, .iload_n 2, 1, 0, 0), (126, .bipush 30, 2, 30, 0), (128, .iadd, 1, 0, 0), (129, .iload_n 3, 1, 0, 0), (130, .iadd, 1, 0, 0), (131, .aload_n 0, 1, 0, 0), (132, .getfield 17, 3, 0, 0), (135, .iload_n 3, 1, 0, 0), (136, .iaload, 1, 0, 0), (137, .iastore, 1, 0, 0), (138, .iinc 3 1, 3, 1, 0), (141, .goto (-26), 3, 0, 0), (144, .aload_n 0, 1, 0, 0), (145, .getfield 57, 3, 0, 0), (148, .iload_n 2, 1, 0, 0), (149, .bipush 50, 2, 50, 0), (151, .iadd, 1, 0, 0), (152, .aload_n 0, 1, 0, 0), (153, .getfield 63, 3, 0, 0), (156, .iastore, 1, 0, 0), (157, .aload_n 0, 1, 0, 0), (158, .getfield 57, 3, 0, 0), (161, .iload_n 2, 1, 0, 0), (162, .bipush 51, 2, 51, 0), (164, .iadd, 1, 0, 0), (165, .aload_n 0, 1, 0, 0), (166, .getfield 82, 3, 0, 0), (169, .iastore, 1, 0, 0), (170, .aload_n 0, 1, 0, 0), (171, .getfield 57, 3, 0, 0), (174, .iload_n 2, 1, 0, 0), (175, .bipush 52, 2, 52, 0), (177, .iadd, 1, 0, 0), (178, .aload_n 0, 1, 0, 0), (179, .getfield 85, 3, 0, 0), (182, .iastore, 1, 0, 0), (183, .aload_n 0, 1, 0, 0), (184, .getfield 57, 3, 0, 0), (187, .iload_n 2, 1, 0, 0), (188, .bipush 53, 2, 53, 0), (190, .iadd, 1, 0, 0), (191, .aload_n 0, 1, 0, 0), (192, .getfield 13, 3, 0, 0), (195, .iastore, 1, 0, 0), (196, .aload_n 0, 1, 0, 0), (197, .getfield 57, 3, 0, 0), (200, .iload_n 2, 1, 0, 0), (201, .bipush 54, 2, 54, 0), (203, .iadd, 1, 0, 0), (204, .aload_n 0, 1, 0, 0), (205, .getfield 88, 3, 0, 0), (208, .iastore, 1, 0, 0), (209, .aload_n 0, 1, 0, 0), (210, .getfield 57, 3, 0, 0), (213, .iload_n 2, 1, 0, 0), (214, .bipush 55, 2, 55, 0), (216, .iadd, 1, 0, 0), (217, .aload_n 0, 1, 0, 0), (218, .getfield 174, 3, 0, 0), (221, .iastore, 1, 0, 0), (222, .aload_n 0, 1, 0, 0), (223, .getfield 60, 3, 0, 0), (226, .iload_n 1, 1, 0, 0), (227, .iconst 1, 1, 1, 0), (228, .bastore, 1, 0, 0), (229, .iconst 1, 1, 1, 0), (230, .ireturn, 1, 0, 0)]
theorem tTX6_image : tOK RX6 cX6_image tabX6_image = true := by decide +kernel
theorem hMX6_image : MV MX6_image 1 := ⟨gt_at 890 (by decide +kernel) rfl, gt_at 891 (by decide +kernel) rfl, gt_at 7 (by decide +kernel) rfl, gt_at 892 (by decide +kernel) rfl, by decide +kernel, by decide +kernel, by decide +kernel⟩
abbrev MX6_restore : MI := (yX6_restore, cX6_restore, 4, (some .int))
abbrev rmX6_restore : Room := { frames := 1, cells := 0, slots := 0, locals := 22 }
def tabX6_restore : List (Nat × TE) := [(0, .iload_n 1, 1, 0, 0), (1, .iconst 0, 1, 0, 0), (2, .iconst 1, 1, 1, 0), (3, .invokestatic 66, 3, 0, 0), (6, .ifCond .ne 6, 3, 0, 0), (9, .bipush (-2), 2, (-2), 0), (11, .ireturn, 1, 0, 0), (12, .aload_n 0, 1, 0, 0), (13, .getfield 60, 3, 0, 0), (16, .iload_n 1, 1, 0, 0), (17, .baload, 1, 0, 0), (18, .ifCond .ne 6, 3, 0, 0), (21, .bipush (-3), 2, (-3), 0), (23, .ireturn, 1, 0, 0), (24, .bipush 70, 2, 70, 0), (26, .iload_n 1, 1, 0, 0), (27, .imul, 1, 0, 0), (28, .istore_n 2, 1, 0, 0), (29, .iconst 0, 1, 0, 0), (30, .istore_n 3, 1, 0, 0), (31, .iload_n 3, 1, 0, 0), (32, .bipush 6, 2, 6, 0), (34, .if_icmp .ge 91, 3, 0, 0), (37, .aload_n 0, 1, 0, 0), (38, .getfield 7, 3, 0, 0), (41, .iload_n 3, 1, 0, 0), (42, .aload_n 0, 1, 0, 0), (43, .getfield 57, 3, 0, 0), (46, .iload_n 2, 1, 0, 0), (47, .iload_n 3, 1, 0, 0), (48, .iadd, 1, 0, 0), (49, .iaload, 1, 0, 0), (50, .iastore, 1, 0, 0), (51, .aload_n 0, 1, 0, 0), (52, .getfield 20, 3, 0, 0), (55, .iload_n 3, 1, 0, 0), (56, .aload_n 0, 1, 0, 0), (57, .getfield 57, 3, 0, 0), (60, .iload_n 2, 1, 0, 0), (61, .bipush 6, 2, 6, 0), (63, .iadd, 1, 0, 0), (64, .iload_n 3, 1, 0, 0), (65, .iadd, 1, 0, 0), (66, .iaload, 1, 0, 0), (67, .iastore, 1, 0, 0), (68, .aload_n 0, 1, 0, 0), (69, .getfield 23, 3, 0, 0), (72, .iload_n 3, 1, 0, 0), (73, .aload_n 0, 1, 0, 0), (74, .getfield 57, 3, 0, 0), (77, .iload_n 2, 1, 0, 0), (78, .bipush 12, 2, 12, 0), (80, .iadd, 1, 0, 0), (81, .iload_n 3, 1, 0, 0), (82, .iadd, 1, 0, 0), (83, .iaload, 1, 0, 0), (84, .iastore, 1, 0, 0), (85, .aload_n 0, 1, 0, 0), (86, .getfield 26, 3, 0, 0), (89, .iload_n 3, 1, 0, 0), (90, .aload_n 0, 1, 0, 0), (91, .getfield 57, 3, 0, 0), (94, .iload_n 2, 1, 0, 0), (95, .bipush 18, 2, 18, 0), (97, .iadd, 1, 0, 0), (98, .iload_n 3, 1, 0, 0), (99, .iadd, 1, 0, 0), (100, .iaload, 1, 0, 0), (101, .iastore, 1, 0, 0), (102, .aload_n 0, 1, 0, 0), (103, .getfield 29, 3, 0, 0), (106, .iload_n 3, 1, 0, 0), (107, .aload_n 0, 1, 0, 0), (108, .getfield 57, 3, 0, 0), (111, .iload_n 2, 1, 0, 0), (112, .bipush 24, 2, 24, 0), (114, .iadd, 1, 0, 0), (115, .iload_n 3, 1, 0, 0), (116, .iadd, 1, 0, 0), (117, .iaload, 1, 0, 0), (118, .iastore, 1, 0, 0), (119, .iinc 3 1, 3, 1, 0), (122, .goto (-91), 3, 0, 0), (125, .iconst 0, 1, 0, 0), (126, .istore_n 3, 1, 0, 0), (127, .iload_n 3, 1, 0, 0), (128, .bipush 16, 2, 16, 0), (130, .if_icmp .ge 26, 3, 0, 0), (133, .aload_n 0, 1, 0, 0), (134, .getfield 17, 3, 0, 0), (137, .iload_n 3, 1, 0, 0), (138, .aload_n 0, 1, 0, 0), (139, .getfield 57, 3, 0, 0), (142, .iload_n 2, 1, 0, 0), (143, .bipush 30, 2, 30, 0), (145, .iadd, 1, 0, 0), (146, .iload_n 3, 1, 0, 0), (147, .iadd, 1, 0, 0), (148, .iaload, 1, 0, 0), (149, .iastore, 1, 0, 0), (150, .iinc 3 1, 3, 1, 0), (153, .goto (-26), 3, 0, 0), (156, .aload_n 0, 1, 0, 0), (157, .aload_n 0, 1, 0, 0), (158, .getfield 57, 3, 0, 0), (161, .iload_n 2, 1, 0, 0), (162, .bipush 50, 2, 50, 0), (164, .iadd, 1, 0, 0), (165, .iaload, 1, 0, 0), (166, .putfield 63, 3, 0, 0), (169, .aload_n 0, 1, 0, 0), (170, .aload_n 0, 1, 0, 0), (171, .getfield 57, 3, 0, 0), (174, .iload_n 2, 1, 0, 0), (175, .bipush 51, 2, 51, 0), (177, .iadd, 1, 0, 0), (178, .iaload, 1, 0, 0), (179, .putfield 82, 3, 0, 0), (182, .aload_n 0, 1, 0, 0), (183, .aload_n 0, 1, 0, 0), (184, .getfield 57, 3, 0, 0), (187, .iload_n 2, 1, 0, 0), (188, .bipush 52, 2, 52, 0), (190, .iadd, 1, 0, 0), (191, .iaload, 1, 0, 0), (192, .putfield 85, 3, 0, 0), (195, .aload_n 0, 1, 0, 0), (196, .aload_n 0, 1, 0, 0), (197, .getfield 57, 3, 0, 0), (200, .iload_n 2, 1, 0, 0), (201, .bipush 53, 2, 53, 0), (203, .iadd, 1, 0, 0), (204, .iaload, 1, 0, 0), (205, .putfield 13, 3, 0, 0), (208, .aload_n 0, 1, 0, 0), (209, .aload_n 0, 1, 0, 0), (210, .getfield 57, 3, 0, 0), (213, .iload_n 2, 1, 0, 0), (214, .bipush 54, 2, 54, 0), (216, .iadd, 1, 0, 0), (217, .iaload, 1, 0, 0), (218, .putfield 88, 3, 0, 0), (221, .aload_n 0, 1, 0, 0), (222, .aload_n 0, 1, 0, 0), (223, .getfield 57, 3, 0, 0), (226, .iload_n 2, 1, 0, 0), (227, .bipush 55, 2, 55, 0), (229, .iadd, 1, 0, 0), (230, .iaload, 1, 0, 0), (231, .putfield 174, 3, 0, 0), (234, .iconst 1, 1, 1, 0), (235, .ireturn, 1, 0, 0)]
theorem tTX6_restore : tOK RX6 cX6_restore tabX6_restore = true := by decide +kernel
theorem hMX6_restore : MV MX6_restore 1 := ⟨gt_at 894 (by decide +kernel) rfl, gt_at 895 (by decide +kernel) rfl, gt_at 7 (by decide +kernel) rfl, gt_at 896 (by decide +kernel) rfl, by decide +kernel, by decide +kernel, by decide +kernel⟩
abbrev MX6_told : MI := (yX6_told, cX6_told, 2, (some .int))
abbrev rmX6_told : Room := { frames := 2, cells := 0, slots := 0, locals := 43 }
def tabX6_told : List (Nat × TE) := [(0, .iload_n 1, 1, 0, 0), (1, .bipush 10, 2, 10, 0), (3, .if_icmp .lt 29, 3, 0, 0), (6, .aload_n 0, 1, 0, 0), (7, .iload_n 1, 1, 0, 0), (8, .bipush 10, 2, 10, 0), (10, .isub, 1, 0, 0), (11, .invokevirtual 78, 3, 0, 0), (14, .ifCond .eq 15, 3, 0, 0), (17, .aload_n 0, 1, 0, 0), (18, .getfield 7, 3, 0, 0), (21, .iload_n 1, 1, 0, 0), (22, .bipush 10, 2, 10, 0), (24, .isub, 1, 0, 0), (25, .iaload, 1, 0, 0), (26, .goto 5, 3, 0, 0), (29, .bipush (-2), 2, (-2), 0), (31, .ireturn, 1, 0, 0), (32, .iload_n 1, 1, 0, 0), (33, .tableswitch 60 0 4 #[35, 40, 45, 50, 55], 35, 0, 0), (68, .aload_n 0, 1, 0, 0), (69, .getfield 91, 3, 0, 0), (72, .ireturn, 1, 0, 0), (73, .aload_n 0, 1, 0, 0), (74, .getfield 63, 3, 0, 0), (77, .ireturn, 1, 0, 0), (78, .aload_n 0, 1, 0, 0), (79, .getfield 13, 3, 0, 0), (82, .ireturn, 1, 0, 0), (83, .aload_n 0, 1, 0, 0), (84, .getfield 82, 3, 0, 0), (87, .ireturn, 1, 0, 0), (88, .aload_n 0, 1, 0, 0), (89, .getfield 85, 3, 0, 0), (92, .ireturn, 1, 0, 0), (93, .iload_n 1, 1, 0, 0), (94, .iconst 5, 1, 5, 0), (95, .if_icmp .ne 10, 3, 0, 0), (98, .aload_n 0, 1, 0, 0), (99, .getfield 174, 3, 0, 0), (102, .goto 5, 3, 0, 0), (105, .bipush (-2), 2, (-2), 0), (107, .ireturn, 1, 0, 0)]
theorem tTX6_told : tOK RX6 cX6_told tabX6_told = true := by decide +kernel
theorem hMX6_told : MV MX6_told 1 := ⟨gt_at 898 (by decide +kernel) rfl, gt_at 899 (by decide +kernel) rfl, gt_at 7 (by decide +kernel) rfl, gt_at 900 (by decide +kernel) rfl, by decide +kernel, by decide +kernel, by decide +kernel⟩
end
